/-! NAMES, links, the check of the code; written by wip/whole/gen_names.py -/
def zCnT : List String := ["ServiceBudgets$BudgetSearch", "ServiceBudgets$FailureSets", "ServiceBudgets$Graph", "ServiceBudgets$History", "ServiceBudgets$Recovery", "ServiceBudgets$Request", "ServiceBudgets$Serving", "ServiceBudgets$State", "ServiceBudgets$Text", "ServiceBudgets", "ServiceBudgetsModel", "ServiceBudgetsLaw", "java/lang/Math", "java/lang/Integer", "java/lang/Float"]
def zCn (t : Nat) : String := zCnT.getD t ""
def zTxT : List (List (String × String × String × Bool)) := [
  [("ServiceBudgets$BudgetSearch", "outcomes", "[I", false)],
  [("ServiceBudgets$FailureSets", "failing", "[[J", true), ("ServiceBudgets$FailureSets", "group", "[J", true), ("ServiceBudgets$FailureSets", "chances", "[D", false)],
  [("ServiceBudgets$Graph", "direct", "[I", true), ("ServiceBudgets$Graph", "sorted", "[I", true), ("ServiceBudgets$Graph", "placed", "I", false), ("ServiceBudgets$Graph", "chains", "[I", true), ("ServiceBudgets$Graph", "bounds", "[I", true)],
  [("ServiceBudgets$History", "kept", "[LServiceBudgets$State;", true), ("ServiceBudgets$History", "count", "I", false)],
  [("ServiceBudgets$Recovery", "before", "[I", true), ("ServiceBudgets$Recovery", "begins", "[I", true), ("ServiceBudgets$Recovery", "ends", "[I", true), ("ServiceBudgets$Recovery", "costs", "[I", false)],
  [("ServiceBudgets$Request", "happened", "Z", false), ("ServiceBudgets$Request", "outcome", "I", false), ("ServiceBudgets$Request", "missing", "I", false), ("ServiceBudgets$Request", "served", "I", false), ("ServiceBudgets$Request", "firstFailing", "I", false), ("ServiceBudgets$Request", "firstAtFault", "I", false), ("ServiceBudgets$Request", "failureCount", "I", false), ("ServiceBudgets$Request", "tryCount", "I", false), ("ServiceBudgets$Request", "failures", "[[I", true), ("ServiceBudgets$Request", "attempts", "[[I", true)],
  [],
  [("ServiceBudgets$State", "services", "I", false), ("ServiceBudgets$State", "calls", "I", false), ("ServiceBudgets$State", "aboutService", "[[I", true), ("ServiceBudgets$State", "aboutCall", "[[I", true)],
  [("ServiceBudgets$Text", "signs", "[I", true), ("ServiceBudgets$Text", "length", "I", false), ("ServiceBudgets$Text", "letters", "[I", true), ("ServiceBudgets$Text", "numbers", "[[I", true)],
  [("ServiceBudgets", "now", "LServiceBudgets$State;", true), ("ServiceBudgets", "aside", "LServiceBudgets$State;", true), ("ServiceBudgets", "history", "LServiceBudgets$History;", true), ("ServiceBudgets", "graph", "LServiceBudgets$Graph;", true), ("ServiceBudgets", "latest", "LServiceBudgets$Request;", true), ("ServiceBudgets", "search", "LServiceBudgets$BudgetSearch;", true), ("ServiceBudgets", "recovery", "LServiceBudgets$Recovery;", true), ("ServiceBudgets", "sets", "LServiceBudgets$FailureSets;", true), ("ServiceBudgets", "text", "LServiceBudgets$Text;", true)],
  [("ServiceBudgetsModel", "s", "[I", true), ("ServiceBudgetsModel", "past", "[I", true), ("ServiceBudgetsModel", "aside", "[I", true), ("ServiceBudgetsModel", "pasts", "I", false), ("ServiceBudgetsModel", "text", "[I", true), ("ServiceBudgetsModel", "typed", "I", false), ("ServiceBudgetsModel", "thrown", "I", false), ("ServiceBudgetsModel", "needs", "[I", true), ("ServiceBudgetsModel", "row", "[I", true), ("ServiceBudgetsModel", "answer", "I", false), ("ServiceBudgetsModel", "chain", "[I", true), ("ServiceBudgetsModel", "who", "[I", true), ("ServiceBudgetsModel", "moment", "[I", true), ("ServiceBudgetsModel", "budget", "[I", true), ("ServiceBudgetsModel", "passed", "[I", true), ("ServiceBudgetsModel", "present", "[I", true), ("ServiceBudgetsModel", "head", "[I", true), ("ServiceBudgetsModel", "made", "[I", true), ("ServiceBudgetsModel", "won", "[Z", true), ("ServiceBudgetsModel", "tryOf", "[I", true), ("ServiceBudgetsModel", "level", "I", false), ("ServiceBudgetsModel", "took", "I", false), ("ServiceBudgetsModel", "missing", "I", false), ("ServiceBudgetsModel", "failures", "I", false), ("ServiceBudgetsModel", "tries", "I", false), ("ServiceBudgetsModel", "blame", "I", false), ("ServiceBudgetsModel", "firstBlame", "I", false), ("ServiceBudgetsModel", "served", "I", false), ("ServiceBudgetsModel", "failureRow", "[I", true), ("ServiceBudgetsModel", "tryRow", "[I", true), ("ServiceBudgetsModel", "results", "[I", true), ("ServiceBudgetsModel", "failureNoted", "[I", true), ("ServiceBudgetsModel", "tryNoted", "[I", true), ("ServiceBudgetsModel", "isAny", "Z", false), ("ServiceBudgetsModel", "succeeded", "Z", false), ("ServiceBudgetsModel", "bound", "[I", true), ("ServiceBudgetsModel", "firstFall", "I", false), ("ServiceBudgetsModel", "begun", "[I", true), ("ServiceBudgetsModel", "rest", "[I", true), ("ServiceBudgetsModel", "isFailing", "[Z", true), ("ServiceBudgetsModel", "at", "I", false), ("ServiceBudgetsModel", "letter", "I", false), ("ServiceBudgetsModel", "numbers", "[I", true), ("ServiceBudgetsModel", "h", "J", false)]]
def zTx (t : Nat) : u_T := fun k => (zTxT.getD t []).getD k ("", "", "", false)
def zFtT : List (List FieldType) := [
  [.array (.int)],
  [.array (.array (.long)), .array (.long), .array (.double)],
  [.array (.int), .array (.int), .int, .array (.int), .array (.int)],
  [.array (.object "ServiceBudgets$State"), .int],
  [.array (.int), .array (.int), .array (.int), .array (.int)],
  [.boolean, .int, .int, .int, .int, .int, .int, .int, .array (.array (.int)), .array (.array (.int))],
  [],
  [.int, .int, .array (.array (.int)), .array (.array (.int))],
  [.array (.int), .int, .array (.int), .array (.array (.int))],
  [.object "ServiceBudgets$State", .object "ServiceBudgets$State", .object "ServiceBudgets$History", .object "ServiceBudgets$Graph", .object "ServiceBudgets$Request", .object "ServiceBudgets$BudgetSearch", .object "ServiceBudgets$Recovery", .object "ServiceBudgets$FailureSets", .object "ServiceBudgets$Text"],
  [.array (.int), .array (.int), .array (.int), .int, .array (.int), .int, .int, .array (.int), .array (.int), .int, .array (.int), .array (.int), .array (.int), .array (.int), .array (.int), .array (.int), .array (.int), .array (.int), .array (.boolean), .array (.int), .int, .int, .int, .int, .int, .int, .int, .int, .array (.int), .array (.int), .array (.int), .array (.int), .array (.int), .boolean, .boolean, .array (.int), .int, .array (.int), .array (.int), .array (.boolean), .int, .int, .array (.int), .long]]
def zFt (t k : Nat) : FieldType := (zFtT.getD t []).getD k .int
theorem zFt_ok : ∀ t, t < 11 → ∀ k, k < zNf t → parseFieldDescriptor (zTx t k).2.2.1 = some (zFt t k) := by decide +kernel
theorem zTx_nm : ∀ t, t < 11 → ∀ a, a < zNf t → ∀ b, b < zNf t → a ≠ b → (zTx t a).2.1 ≠ (zTx t b).2.1 := by decide +kernel
def zYnT : List MethodName := [
  ⟨"ServiceBudgets$BudgetSearch", "<init>", "()V"⟩,
  ⟨"ServiceBudgets$BudgetSearch", "leastFor", "(LServiceBudgets$State;I)I"⟩,
  ⟨"ServiceBudgets$BudgetSearch", "keepOutcomes", "(LServiceBudgets$State;II)V"⟩,
  ⟨"ServiceBudgets$BudgetSearch", "ask", "(LServiceBudgets$State;IIII)I"⟩,
  ⟨"ServiceBudgets$BudgetSearch", "noteFailure", "(IIII)V"⟩,
  ⟨"ServiceBudgets$BudgetSearch", "noteMissing", "()V"⟩,
  ⟨"ServiceBudgets$FailureSets", "<init>", "()V"⟩,
  ⟨"ServiceBudgets$FailureSets", "fill", "(LServiceBudgets$State;LServiceBudgets$Graph;)V"⟩,
  ⟨"ServiceBudgets$FailureSets", "members", "(II)J"⟩,
  ⟨"ServiceBudgets$FailureSets", "addGroup", "(LServiceBudgets$State;II)V"⟩,
  ⟨"ServiceBudgets$FailureSets", "isFailing", "(II)Z"⟩,
  ⟨"ServiceBudgets$FailureSets", "isCut", "(LServiceBudgets$State;II)Z"⟩,
  ⟨"ServiceBudgets$FailureSets", "countCuts", "(LServiceBudgets$State;II)I"⟩,
  ⟨"ServiceBudgets$FailureSets", "findCut", "(LServiceBudgets$State;III)I"⟩,
  ⟨"ServiceBudgets$FailureSets", "chanceOf", "(LServiceBudgets$State;II)D"⟩,
  ⟨"ServiceBudgets$FailureSets", "fillChances", "(LServiceBudgets$State;I)V"⟩,
  ⟨"ServiceBudgets$FailureSets", "mostWorthwhile", "(LServiceBudgets$State;I)I"⟩,
  ⟨"ServiceBudgets$Graph", "<init>", "()V"⟩,
  ⟨"ServiceBudgets$Graph", "sort", "(LServiceBudgets$State;)V"⟩,
  ⟨"ServiceBudgets$Graph", "fillDirect", "(LServiceBudgets$State;)V"⟩,
  ⟨"ServiceBudgets$Graph", "lowestNext", "(LServiceBudgets$State;I)I"⟩,
  ⟨"ServiceBudgets$Graph", "sortedAt", "(I)I"⟩,
  ⟨"ServiceBudgets$Graph", "countSorted", "()I"⟩,
  ⟨"ServiceBudgets$Graph", "measureChains", "(LServiceBudgets$State;)V"⟩,
  ⟨"ServiceBudgets$Graph", "chainOf", "(LServiceBudgets$State;I)I"⟩,
  ⟨"ServiceBudgets$Graph", "measureBounds", "(LServiceBudgets$State;)V"⟩,
  ⟨"ServiceBudgets$Graph", "boundOf", "(LServiceBudgets$State;I)I"⟩,
  ⟨"ServiceBudgets$Graph", "countUnsound", "(LServiceBudgets$State;)I"⟩,
  ⟨"ServiceBudgets$Graph", "tightenLimits", "(LServiceBudgets$State;)I"⟩,
  ⟨"ServiceBudgets$Graph", "limitCallsTo", "(LServiceBudgets$State;II)I"⟩,
  ⟨"ServiceBudgets$Graph", "failingBy", "(LServiceBudgets$State;I)I"⟩,
  ⟨"ServiceBudgets$History", "<init>", "()V"⟩,
  ⟨"ServiceBudgets$History", "save", "(LServiceBudgets$State;)V"⟩,
  ⟨"ServiceBudgets$History", "dropOldest", "()V"⟩,
  ⟨"ServiceBudgets$History", "whyEmpty", "()I"⟩,
  ⟨"ServiceBudgets$History", "restore", "(LServiceBudgets$State;)I"⟩,
  ⟨"ServiceBudgets$Recovery", "<init>", "()V"⟩,
  ⟨"ServiceBudgets$Recovery", "fillBefore", "(LServiceBudgets$State;)I"⟩,
  ⟨"ServiceBudgets$Recovery", "byCrews", "(LServiceBudgets$State;I)I"⟩,
  ⟨"ServiceBudgets$Recovery", "overAt", "(LServiceBudgets$State;II)I"⟩,
  ⟨"ServiceBudgets$Recovery", "nextEnd", "(LServiceBudgets$State;I)I"⟩,
  ⟨"ServiceBudgets$Recovery", "mostImportant", "(LServiceBudgets$State;II)I"⟩,
  ⟨"ServiceBudgets$Recovery", "leastCost", "(LServiceBudgets$State;)I"⟩,
  ⟨"ServiceBudgets$Recovery", "settle", "(LServiceBudgets$State;II)I"⟩,
  ⟨"ServiceBudgets$Recovery", "timeFor", "(LServiceBudgets$State;I)I"⟩,
  ⟨"ServiceBudgets$Recovery", "inBestOrder", "(LServiceBudgets$State;I)I"⟩,
  ⟨"ServiceBudgets$Request", "<init>", "()V"⟩,
  ⟨"ServiceBudgets$Request", "begin", "(LServiceBudgets$State;II)Z"⟩,
  ⟨"ServiceBudgets$Request", "ask", "(LServiceBudgets$State;IIII)I"⟩,
  ⟨"ServiceBudgets$Request", "noteTry", "(III)I"⟩,
  ⟨"ServiceBudgets$Request", "noteFailure", "(IIII)V"⟩,
  ⟨"ServiceBudgets$Request", "noteMissing", "()V"⟩,
  ⟨"ServiceBudgets$Request", "whyNone", "()I"⟩,
  ⟨"ServiceBudgets$Request", "about", "(I)I"⟩,
  ⟨"ServiceBudgets$Request", "blamed", "()I"⟩,
  ⟨"ServiceBudgets$Request", "aboutFailure", "(II)I"⟩,
  ⟨"ServiceBudgets$Request", "aboutTry", "(II)I"⟩,
  ⟨"ServiceBudgets$Serving", "<init>", "()V"⟩,
  ⟨"ServiceBudgets$Serving", "good", "(I)I"⟩,
  ⟨"ServiceBudgets$Serving", "bad", "(I)I"⟩,
  ⟨"ServiceBudgets$Serving", "isGood", "(I)Z"⟩,
  ⟨"ServiceBudgets$Serving", "timeOf", "(I)I"⟩,
  ⟨"ServiceBudgets$Serving", "serve", "(LServiceBudgets$State;IIII)I"⟩,
  ⟨"ServiceBudgets$Serving", "goThroughGroup", "(LServiceBudgets$State;IIIII)I"⟩,
  ⟨"ServiceBudgets$Serving", "makeCall", "(LServiceBudgets$State;IIIII)I"⟩,
  ⟨"ServiceBudgets$State", "<init>", "()V"⟩,
  ⟨"ServiceBudgets$State", "copyFrom", "(LServiceBudgets$State;)V"⟩,
  ⟨"ServiceBudgets$State", "whyNoService", "(I)I"⟩,
  ⟨"ServiceBudgets$State", "whyNoCall", "(I)I"⟩,
  ⟨"ServiceBudgets$State", "whyNoSet", "(I)I"⟩,
  ⟨"ServiceBudgets$State", "whyNotNewService", "(I)I"⟩,
  ⟨"ServiceBudgets$State", "newService", "(I)I"⟩,
  ⟨"ServiceBudgets$State", "whyNotNewCall", "(IIIII)I"⟩,
  ⟨"ServiceBudgets$State", "newCall", "(IIIII)I"⟩,
  ⟨"ServiceBudgets$State", "whyNotDropCall", "(I)I"⟩,
  ⟨"ServiceBudgets$State", "dropCall", "(I)I"⟩,
  ⟨"ServiceBudgets$State", "whyNotChange", "(III)I"⟩,
  ⟨"ServiceBudgets$State", "change", "(III)I"⟩,
  ⟨"ServiceBudgets$State", "whyNotChangeLimit", "(II)I"⟩,
  ⟨"ServiceBudgets$State", "changeLimit", "(II)I"⟩,
  ⟨"ServiceBudgets$State", "tellOfService", "(II)I"⟩,
  ⟨"ServiceBudgets$State", "ownTimeOf", "(I)I"⟩,
  ⟨"ServiceBudgets$State", "countCallsOf", "(I)I"⟩,
  ⟨"ServiceBudgets$State", "lastHeadOf", "(I)I"⟩,
  ⟨"ServiceBudgets$State", "isHeadOf", "(II)Z"⟩,
  ⟨"ServiceBudgets$State", "isInGroup", "(II)Z"⟩,
  ⟨"ServiceBudgets$State", "isNeeded", "(I)Z"⟩,
  ⟨"ServiceBudgets$State", "needsOf", "(I)I"⟩,
  ⟨"ServiceBudgets$State", "calleesOf", "(I)I"⟩,
  ⟨"ServiceBudgets$State", "lacksNeeded", "(II)Z"⟩,
  ⟨"ServiceBudgets$State", "isGroupWithin", "(II)Z"⟩,
  ⟨"ServiceBudgets$State", "isUp", "(I)Z"⟩,
  ⟨"ServiceBudgets$State", "downSet", "()I"⟩,
  ⟨"ServiceBudgets$State", "countUp", "()I"⟩,
  ⟨"ServiceBudgets$State", "whyNotGoDown", "(I)I"⟩,
  ⟨"ServiceBudgets$State", "goDown", "(I)V"⟩,
  ⟨"ServiceBudgets$State", "whyNotBeginRepair", "(I)I"⟩,
  ⟨"ServiceBudgets$State", "beginRepair", "(I)I"⟩,
  ⟨"ServiceBudgets$State", "makeSteps", "(I)V"⟩,
  ⟨"ServiceBudgets$State", "makeStep", "()I"⟩,
  ⟨"ServiceBudgets$State", "mend", "(IZ)V"⟩,
  ⟨"ServiceBudgets$State", "changeStrain", "(IZ)V"⟩,
  ⟨"ServiceBudgets$Text", "<init>", "()V"⟩,
  ⟨"ServiceBudgets$Text", "whyFull", "()I"⟩,
  ⟨"ServiceBudgets$Text", "add", "(I)I"⟩,
  ⟨"ServiceBudgets$Text", "empty", "()I"⟩,
  ⟨"ServiceBudgets$Text", "parse", "()I"⟩,
  ⟨"ServiceBudgets$Text", "errorAt", "(I)I"⟩,
  ⟨"ServiceBudgets$Text", "placeOf", "(I)I"⟩,
  ⟨"ServiceBudgets$Text", "parseCommand", "(II)I"⟩,
  ⟨"ServiceBudgets$Text", "numbersOf", "(I)I"⟩,
  ⟨"ServiceBudgets$Text", "endOfDigits", "(I)I"⟩,
  ⟨"ServiceBudgets$Text", "valueOf", "(II)I"⟩,
  ⟨"ServiceBudgets$Text", "whyNotCommand", "(LServiceBudgets$State;I)I"⟩,
  ⟨"ServiceBudgets$Text", "carryOut", "(LServiceBudgets$State;I)V"⟩,
  ⟨"ServiceBudgets", "<init>", "()V"⟩,
  ⟨"ServiceBudgets", "addService", "(I)I"⟩,
  ⟨"ServiceBudgets", "addCall", "(IIIII)I"⟩,
  ⟨"ServiceBudgets", "removeCall", "(I)I"⟩,
  ⟨"ServiceBudgets", "set", "(III)I"⟩,
  ⟨"ServiceBudgets", "setLimit", "(II)I"⟩,
  ⟨"ServiceBudgets", "services", "()I"⟩,
  ⟨"ServiceBudgets", "calls", "()I"⟩,
  ⟨"ServiceBudgets", "service", "(II)I"⟩,
  ⟨"ServiceBudgets", "call", "(II)I"⟩,
  ⟨"ServiceBudgets", "depends", "(II)Z"⟩,
  ⟨"ServiceBudgets", "order", "(I)I"⟩,
  ⟨"ServiceBudgets", "level", "(I)I"⟩,
  ⟨"ServiceBudgets", "request", "(II)Z"⟩,
  ⟨"ServiceBudgets", "result", "(I)I"⟩,
  ⟨"ServiceBudgets", "failure", "(II)I"⟩,
  ⟨"ServiceBudgets", "attempt", "(II)I"⟩,
  ⟨"ServiceBudgets", "leastBudget", "(I)I"⟩,
  ⟨"ServiceBudgets", "worst", "(I)I"⟩,
  ⟨"ServiceBudgets", "unsound", "()I"⟩,
  ⟨"ServiceBudgets", "tighten", "()I"⟩,
  ⟨"ServiceBudgets", "fail", "(I)I"⟩,
  ⟨"ServiceBudgets", "repair", "(I)I"⟩,
  ⟨"ServiceBudgets", "steps", "(I)I"⟩,
  ⟨"ServiceBudgets", "down", "()I"⟩,
  ⟨"ServiceBudgets", "spread", "(I)I"⟩,
  ⟨"ServiceBudgets", "calm", "(I)I"⟩,
  ⟨"ServiceBudgets", "recoveryTime", "(I)I"⟩,
  ⟨"ServiceBudgets", "recoveryStart", "(II)I"⟩,
  ⟨"ServiceBudgets", "bestCost", "()I"⟩,
  ⟨"ServiceBudgets", "bestOrder", "(I)I"⟩,
  ⟨"ServiceBudgets", "failsBy", "(II)Z"⟩,
  ⟨"ServiceBudgets", "cuts", "(II)I"⟩,
  ⟨"ServiceBudgets", "cut", "(III)I"⟩,
  ⟨"ServiceBudgets", "availability", "(I)I"⟩,
  ⟨"ServiceBudgets", "weakest", "(I)I"⟩,
  ⟨"ServiceBudgets", "append", "(I)I"⟩,
  ⟨"ServiceBudgets", "clearText", "()I"⟩,
  ⟨"ServiceBudgets", "execute", "()I"⟩,
  ⟨"ServiceBudgets", "undo", "()I"⟩,
  ⟨"ServiceBudgets", "digest", "()J"⟩,
  ⟨"ServiceBudgets", "refuse", "(I)V"⟩,
  ⟨"ServiceBudgets", "whyNotWithin", "(III)I"⟩,
  ⟨"ServiceBudgets", "contains", "(II)Z"⟩,
  ⟨"ServiceBudgets", "bitsOf", "(F)I"⟩,
  ⟨"ServiceBudgetsModel", "<init>", "()V"⟩,
  ⟨"ServiceBudgetsModel", "thrown", "()I"⟩,
  ⟨"ServiceBudgetsModel", "in", "(III)Z"⟩,
  ⟨"ServiceBudgetsModel", "fails", "(I)I"⟩,
  ⟨"ServiceBudgetsModel", "tells", "(I)I"⟩,
  ⟨"ServiceBudgetsModel", "hold", "()V"⟩,
  ⟨"ServiceBudgetsModel", "restore", "()V"⟩,
  ⟨"ServiceBudgetsModel", "ends", "(I)I"⟩,
  ⟨"ServiceBudgetsModel", "of", "(II)I"⟩,
  ⟨"ServiceBudgetsModel", "puts", "(III)V"⟩,
  ⟨"ServiceBudgetsModel", "callOf", "(II)I"⟩,
  ⟨"ServiceBudgetsModel", "caller", "(I)I"⟩,
  ⟨"ServiceBudgetsModel", "callee", "(I)I"⟩,
  ⟨"ServiceBudgetsModel", "isReplacement", "(I)Z"⟩,
  ⟨"ServiceBudgetsModel", "isService", "(I)Z"⟩,
  ⟨"ServiceBudgetsModel", "isCall", "(I)Z"⟩,
  ⟨"ServiceBudgetsModel", "isUp", "(I)Z"⟩,
  ⟨"ServiceBudgetsModel", "own", "(I)I"⟩,
  ⟨"ServiceBudgetsModel", "nextCall", "(II)I"⟩,
  ⟨"ServiceBudgetsModel", "callsOf", "(I)I"⟩,
  ⟨"ServiceBudgetsModel", "laysNeeds", "()V"⟩,
  ⟨"ServiceBudgetsModel", "laysOrder", "()V"⟩,
  ⟨"ServiceBudgetsModel", "dependsOn", "(II)Z"⟩,
  ⟨"ServiceBudgetsModel", "addsService", "(I)I"⟩,
  ⟨"ServiceBudgetsModel", "addsCall", "(IIIII)I"⟩,
  ⟨"ServiceBudgetsModel", "isValue", "(II)Z"⟩,
  ⟨"ServiceBudgetsModel", "changes", "(III)I"⟩,
  ⟨"ServiceBudgetsModel", "ups", "()I"⟩,
  ⟨"ServiceBudgetsModel", "drops", "(I)I"⟩,
  ⟨"ServiceBudgetsModel", "goesDown", "(I)V"⟩,
  ⟨"ServiceBudgetsModel", "mends", "(I)I"⟩,
  ⟨"ServiceBudgetsModel", "goes", "(I)I"⟩,
  ⟨"ServiceBudgetsModel", "done", "(I)I"⟩,
  ⟨"ServiceBudgetsModel", "addService", "(I)I"⟩,
  ⟨"ServiceBudgetsModel", "addCall", "(IIIII)I"⟩,
  ⟨"ServiceBudgetsModel", "leader", "(I)I"⟩,
  ⟨"ServiceBudgetsModel", "removeCall", "(I)I"⟩,
  ⟨"ServiceBudgetsModel", "set", "(III)I"⟩,
  ⟨"ServiceBudgetsModel", "setLimit", "(II)I"⟩,
  ⟨"ServiceBudgetsModel", "services", "()I"⟩,
  ⟨"ServiceBudgetsModel", "calls", "()I"⟩,
  ⟨"ServiceBudgetsModel", "value", "(II)I"⟩,
  ⟨"ServiceBudgetsModel", "service", "(II)I"⟩,
  ⟨"ServiceBudgetsModel", "callValue", "(II)I"⟩,
  ⟨"ServiceBudgetsModel", "call", "(II)I"⟩,
  ⟨"ServiceBudgetsModel", "depends", "(II)Z"⟩,
  ⟨"ServiceBudgetsModel", "order", "(I)I"⟩,
  ⟨"ServiceBudgetsModel", "laysLevels", "()V"⟩,
  ⟨"ServiceBudgetsModel", "level", "(I)I"⟩,
  ⟨"ServiceBudgetsModel", "notesFailure", "(I)V"⟩,
  ⟨"ServiceBudgetsModel", "enters", "(III)V"⟩,
  ⟨"ServiceBudgetsModel", "begins", "()Z"⟩,
  ⟨"ServiceBudgetsModel", "opens", "(I)V"⟩,
  ⟨"ServiceBudgetsModel", "acts", "()I"⟩,
  ⟨"ServiceBudgetsModel", "closes", "(II)I"⟩,
  ⟨"ServiceBudgetsModel", "begunTry", "()V"⟩,
  ⟨"ServiceBudgetsModel", "returns", "()V"⟩,
  ⟨"ServiceBudgetsModel", "serves", "(II)Z"⟩,
  ⟨"ServiceBudgetsModel", "request", "(II)Z"⟩,
  ⟨"ServiceBudgetsModel", "result", "(I)I"⟩,
  ⟨"ServiceBudgetsModel", "failure", "(II)I"⟩,
  ⟨"ServiceBudgetsModel", "attempt", "(II)I"⟩,
  ⟨"ServiceBudgetsModel", "leastBudget", "(I)I"⟩,
  ⟨"ServiceBudgetsModel", "bounds", "(I)V"⟩,
  ⟨"ServiceBudgetsModel", "laysBounds", "()V"⟩,
  ⟨"ServiceBudgetsModel", "worst", "(I)I"⟩,
  ⟨"ServiceBudgetsModel", "unsoundMany", "()I"⟩,
  ⟨"ServiceBudgetsModel", "unsound", "()I"⟩,
  ⟨"ServiceBudgetsModel", "tighten", "()I"⟩,
  ⟨"ServiceBudgetsModel", "downs", "()I"⟩,
  ⟨"ServiceBudgetsModel", "isCutOff", "(II)Z"⟩,
  ⟨"ServiceBudgetsModel", "step", "()I"⟩,
  ⟨"ServiceBudgetsModel", "fail", "(I)I"⟩,
  ⟨"ServiceBudgetsModel", "repair", "(I)I"⟩,
  ⟨"ServiceBudgetsModel", "steps", "(I)I"⟩,
  ⟨"ServiceBudgetsModel", "down", "()I"⟩,
  ⟨"ServiceBudgetsModel", "spreads", "(I)I"⟩,
  ⟨"ServiceBudgetsModel", "spread", "(I)I"⟩,
  ⟨"ServiceBudgetsModel", "calm", "(I)I"⟩,
  ⟨"ServiceBudgetsModel", "nextBegun", "(II)I"⟩,
  ⟨"ServiceBudgetsModel", "recovers", "(I)I"⟩,
  ⟨"ServiceBudgetsModel", "recoveryTime", "(I)I"⟩,
  ⟨"ServiceBudgetsModel", "recoveryStart", "(II)I"⟩,
  ⟨"ServiceBudgetsModel", "timeOf", "(I)I"⟩,
  ⟨"ServiceBudgetsModel", "costWith", "(III)I"⟩,
  ⟨"ServiceBudgetsModel", "laysBest", "()I"⟩,
  ⟨"ServiceBudgetsModel", "bestCost", "()I"⟩,
  ⟨"ServiceBudgetsModel", "bestOrder", "(I)I"⟩,
  ⟨"ServiceBudgetsModel", "failing", "(I)I"⟩,
  ⟨"ServiceBudgetsModel", "failsBy", "(II)Z"⟩,
  ⟨"ServiceBudgetsModel", "laysFailing", "(I)V"⟩,
  ⟨"ServiceBudgetsModel", "size", "(I)I"⟩,
  ⟨"ServiceBudgetsModel", "isCut", "(I)Z"⟩,
  ⟨"ServiceBudgetsModel", "cutAt", "(III)I"⟩,
  ⟨"ServiceBudgetsModel", "cuts", "(II)I"⟩,
  ⟨"ServiceBudgetsModel", "cut", "(III)I"⟩,
  ⟨"ServiceBudgetsModel", "available", "(I)D"⟩,
  ⟨"ServiceBudgetsModel", "availability", "(I)I"⟩,
  ⟨"ServiceBudgetsModel", "weakest", "(I)I"⟩,
  ⟨"ServiceBudgetsModel", "append", "(I)I"⟩,
  ⟨"ServiceBudgetsModel", "clearText", "()I"⟩,
  ⟨"ServiceBudgetsModel", "isAt", "(II)Z"⟩,
  ⟨"ServiceBudgetsModel", "numbersOf", "(I)I"⟩,
  ⟨"ServiceBudgetsModel", "isNumber", "(I)Z"⟩,
  ⟨"ServiceBudgetsModel", "isCommand", "()Z"⟩,
  ⟨"ServiceBudgetsModel", "does", "()I"⟩,
  ⟨"ServiceBudgetsModel", "execute", "()I"⟩,
  ⟨"ServiceBudgetsModel", "undo", "()I"⟩,
  ⟨"ServiceBudgetsModel", "mix", "(I)V"⟩,
  ⟨"ServiceBudgetsModel", "digest", "()J"⟩,
  ⟨"ServiceBudgetsLaw", "addService", "(LServiceBudgets;I[J)I"⟩,
  ⟨"ServiceBudgetsLaw", "addCall", "(LServiceBudgets;IIIII[J)I"⟩,
  ⟨"ServiceBudgetsLaw", "removeCall", "(LServiceBudgets;I[J)I"⟩,
  ⟨"ServiceBudgetsLaw", "set", "(LServiceBudgets;III[J)I"⟩,
  ⟨"ServiceBudgetsLaw", "setLimit", "(LServiceBudgets;II[J)I"⟩,
  ⟨"ServiceBudgetsLaw", "service", "(LServiceBudgets;II[J)I"⟩,
  ⟨"ServiceBudgetsLaw", "call", "(LServiceBudgets;II[J)I"⟩,
  ⟨"ServiceBudgetsLaw", "depends", "(LServiceBudgets;II[J)I"⟩,
  ⟨"ServiceBudgetsLaw", "level", "(LServiceBudgets;I[J)I"⟩,
  ⟨"ServiceBudgetsLaw", "request", "(LServiceBudgets;II[J)I"⟩,
  ⟨"ServiceBudgetsLaw", "result", "(LServiceBudgets;I[J)I"⟩,
  ⟨"ServiceBudgetsLaw", "failure", "(LServiceBudgets;II[J)I"⟩,
  ⟨"ServiceBudgetsLaw", "attempt", "(LServiceBudgets;II[J)I"⟩,
  ⟨"ServiceBudgetsLaw", "leastBudget", "(LServiceBudgets;I[J)I"⟩,
  ⟨"ServiceBudgetsLaw", "worst", "(LServiceBudgets;I[J)I"⟩,
  ⟨"ServiceBudgetsLaw", "fail", "(LServiceBudgets;I[J)I"⟩,
  ⟨"ServiceBudgetsLaw", "repair", "(LServiceBudgets;I[J)I"⟩,
  ⟨"ServiceBudgetsLaw", "steps", "(LServiceBudgets;I[J)I"⟩,
  ⟨"ServiceBudgetsLaw", "spread", "(LServiceBudgets;I[J)I"⟩,
  ⟨"ServiceBudgetsLaw", "calm", "(LServiceBudgets;I[J)I"⟩,
  ⟨"ServiceBudgetsLaw", "recoveryTime", "(LServiceBudgets;I[J)I"⟩,
  ⟨"ServiceBudgetsLaw", "recoveryStart", "(LServiceBudgets;II[J)I"⟩,
  ⟨"ServiceBudgetsLaw", "failsBy", "(LServiceBudgets;II[J)I"⟩,
  ⟨"ServiceBudgetsLaw", "cuts", "(LServiceBudgets;II[J)I"⟩,
  ⟨"ServiceBudgetsLaw", "cut", "(LServiceBudgets;III[J)I"⟩,
  ⟨"ServiceBudgetsLaw", "availability", "(LServiceBudgets;I[J)I"⟩,
  ⟨"ServiceBudgetsLaw", "weakest", "(LServiceBudgets;I[J)I"⟩,
  ⟨"ServiceBudgetsLaw", "append", "(LServiceBudgets;I[J)I"⟩,
  ⟨"ServiceBudgetsLaw", "undo", "(LServiceBudgets;[J)I"⟩,
  ⟨"ServiceBudgetsLaw", "law", "([I)Z"⟩,
  ⟨"java/lang/Math", "max", "(II)I"⟩,
  ⟨"java/lang/Math", "min", "(II)I"⟩,
  ⟨"java/lang/Integer", "bitCount", "(I)I"⟩,
  ⟨"java/lang/Float", "floatToIntBits", "(F)I"⟩,
  ⟨"java/lang/Float", "isNaN", "(F)Z"⟩,
  ⟨"ServiceBudgets$Serving", "serve", "(LServiceBudgets$State;IIII)I"⟩,
  ⟨"ServiceBudgets$Serving", "serve", "(LServiceBudgets$State;IIII)I"⟩]
def zYn (m : Nat) : MethodName := zYnT.getD m ⟨"", "", ""⟩
def zCdT : List ByteArray := [prog_2_method_1_code, prog_2_method_2_code, prog_2_method_3_code, prog_2_method_4_code, prog_2_method_5_code, prog_2_method_6_code, prog_3_method_1_code, prog_3_method_2_code, prog_3_method_3_code, prog_3_method_4_code, prog_3_method_5_code, prog_3_method_6_code, prog_3_method_7_code, prog_3_method_8_code, prog_3_method_9_code, prog_3_method_10_code, prog_3_method_11_code, prog_4_method_1_code, prog_4_method_2_code, prog_4_method_3_code, prog_4_method_4_code, prog_4_method_5_code, prog_4_method_6_code, prog_4_method_7_code, prog_4_method_8_code, prog_4_method_9_code, prog_4_method_10_code, prog_4_method_11_code, prog_4_method_12_code, prog_4_method_13_code, prog_4_method_14_code, prog_5_method_1_code, prog_5_method_2_code, prog_5_method_3_code, prog_5_method_4_code, prog_5_method_5_code, prog_6_method_1_code, prog_6_method_2_code, prog_6_method_3_code, prog_6_method_4_code, prog_6_method_5_code, prog_6_method_6_code, prog_6_method_7_code, prog_6_method_8_code, prog_6_method_9_code, prog_6_method_10_code, prog_7_method_1_code, prog_7_method_2_code, prog_7_method_3_code, prog_7_method_4_code, prog_7_method_5_code, prog_7_method_6_code, prog_7_method_7_code, prog_7_method_8_code, prog_7_method_9_code, prog_7_method_10_code, prog_7_method_11_code, prog_8_method_1_code, prog_8_method_5_code, prog_8_method_6_code, prog_8_method_7_code, prog_8_method_8_code, prog_8_method_9_code, prog_8_method_10_code, prog_8_method_11_code, prog_9_method_1_code, prog_9_method_2_code, prog_9_method_3_code, prog_9_method_4_code, prog_9_method_5_code, prog_9_method_6_code, prog_9_method_7_code, prog_9_method_8_code, prog_9_method_9_code, prog_9_method_10_code, prog_9_method_11_code, prog_9_method_12_code, prog_9_method_13_code, prog_9_method_14_code, prog_9_method_15_code, prog_9_method_16_code, prog_9_method_17_code, prog_9_method_18_code, prog_9_method_19_code, prog_9_method_20_code, prog_9_method_21_code, prog_9_method_22_code, prog_9_method_23_code, prog_9_method_24_code, prog_9_method_25_code, prog_9_method_26_code, prog_9_method_27_code, prog_9_method_28_code, prog_9_method_29_code, prog_9_method_30_code, prog_9_method_31_code, prog_9_method_32_code, prog_9_method_33_code, prog_9_method_34_code, prog_9_method_35_code, prog_9_method_36_code, prog_9_method_37_code, prog_10_method_1_code, prog_10_method_2_code, prog_10_method_3_code, prog_10_method_4_code, prog_10_method_5_code, prog_10_method_6_code, prog_10_method_7_code, prog_10_method_8_code, prog_10_method_9_code, prog_10_method_10_code, prog_10_method_11_code, prog_10_method_12_code, prog_10_method_13_code, prog_1_method_1_code, prog_1_method_2_code, prog_1_method_3_code, prog_1_method_4_code, prog_1_method_5_code, prog_1_method_6_code, prog_1_method_7_code, prog_1_method_8_code, prog_1_method_9_code, prog_1_method_10_code, prog_1_method_11_code, prog_1_method_12_code, prog_1_method_13_code, prog_1_method_14_code, prog_1_method_15_code, prog_1_method_16_code, prog_1_method_17_code, prog_1_method_18_code, prog_1_method_19_code, prog_1_method_20_code, prog_1_method_21_code, prog_1_method_22_code, prog_1_method_23_code, prog_1_method_24_code, prog_1_method_25_code, prog_1_method_26_code, prog_1_method_27_code, prog_1_method_28_code, prog_1_method_29_code, prog_1_method_30_code, prog_1_method_31_code, prog_1_method_32_code, prog_1_method_33_code, prog_1_method_34_code, prog_1_method_35_code, prog_1_method_36_code, prog_1_method_37_code, prog_1_method_38_code, prog_1_method_39_code, prog_1_method_40_code, prog_1_method_41_code, prog_1_method_42_code, prog_1_method_43_code, prog_1_method_44_code, prog_1_method_45_code, prog_12_method_1_code, prog_12_method_2_code, prog_12_method_3_code, prog_12_method_4_code, prog_12_method_5_code, prog_12_method_6_code, prog_12_method_7_code, prog_12_method_8_code, prog_12_method_9_code, prog_12_method_10_code, prog_12_method_11_code, prog_12_method_12_code, prog_12_method_13_code, prog_12_method_14_code, prog_12_method_15_code, prog_12_method_16_code, prog_12_method_17_code, prog_12_method_18_code, prog_12_method_19_code, prog_12_method_20_code, prog_12_method_21_code, prog_12_method_22_code, prog_12_method_23_code, prog_12_method_24_code, prog_12_method_25_code, prog_12_method_26_code, prog_12_method_27_code, prog_12_method_28_code, prog_12_method_29_code, prog_12_method_30_code, prog_12_method_31_code, prog_12_method_32_code, prog_12_method_33_code, prog_12_method_34_code, prog_12_method_35_code, prog_12_method_36_code, prog_12_method_37_code, prog_12_method_38_code, prog_12_method_39_code, prog_12_method_40_code, prog_12_method_41_code, prog_12_method_42_code, prog_12_method_43_code, prog_12_method_44_code, prog_12_method_45_code, prog_12_method_46_code, prog_12_method_47_code, prog_12_method_48_code, prog_12_method_49_code, prog_12_method_50_code, prog_12_method_51_code, prog_12_method_52_code, prog_12_method_53_code, prog_12_method_54_code, prog_12_method_55_code, prog_12_method_56_code, prog_12_method_57_code, prog_12_method_58_code, prog_12_method_59_code, prog_12_method_60_code, prog_12_method_61_code, prog_12_method_62_code, prog_12_method_63_code, prog_12_method_64_code, prog_12_method_65_code, prog_12_method_66_code, prog_12_method_67_code, prog_12_method_68_code, prog_12_method_69_code, prog_12_method_70_code, prog_12_method_71_code, prog_12_method_72_code, prog_12_method_73_code, prog_12_method_74_code, prog_12_method_75_code, prog_12_method_76_code, prog_12_method_77_code, prog_12_method_78_code, prog_12_method_79_code, prog_12_method_80_code, prog_12_method_81_code, prog_12_method_82_code, prog_12_method_83_code, prog_12_method_84_code, prog_12_method_85_code, prog_12_method_86_code, prog_12_method_87_code, prog_12_method_88_code, prog_12_method_89_code, prog_12_method_90_code, prog_12_method_91_code, prog_12_method_92_code, prog_12_method_93_code, prog_12_method_94_code, prog_12_method_95_code, prog_12_method_96_code, prog_12_method_97_code, prog_12_method_98_code, prog_12_method_99_code, prog_12_method_100_code, prog_12_method_101_code, prog_12_method_102_code, prog_12_method_103_code, prog_12_method_104_code, prog_12_method_105_code, prog_12_method_106_code, prog_12_method_107_code, prog_12_method_108_code, prog_12_method_109_code, prog_12_method_110_code, method_3_code, method_4_code, method_5_code, method_6_code, method_7_code, method_8_code, method_9_code, method_10_code, method_11_code, method_12_code, method_13_code, method_14_code, method_15_code, method_16_code, method_17_code, method_18_code, method_19_code, method_20_code, method_21_code, method_22_code, method_23_code, method_24_code, method_25_code, method_26_code, method_27_code, method_28_code, method_29_code, method_30_code, method_31_code, code, prog_19_method_65_code, prog_19_method_69_code, prog_18_method_49_code, prog_14_method_24_code, prog_14_method_6_code, prog_8_method_9_code, prog_8_method_9_code]
def zCd (m : Nat) : ByteArray := zCdT.getD m ⟨#[]⟩
def zOwT : List Nat := [0, 0, 0, 0, 0, 0, 1, 1, 1, 1, 1, 1, 1, 1, 1, 1, 1, 2, 2, 2, 2, 2, 2, 2, 2, 2, 2, 2, 2, 2, 2, 3, 3, 3, 3, 3, 4, 4, 4, 4, 4, 4, 4, 4, 4, 4, 5, 5, 5, 5, 5, 5, 5, 5, 5, 5, 5, 6, 6, 6, 6, 6, 6, 6, 6, 7, 7, 7, 7, 7, 7, 7, 7, 7, 7, 7, 7, 7, 7, 7, 7, 7, 7, 7, 7, 7, 7, 7, 7, 7, 7, 7, 7, 7, 7, 7, 7, 7, 7, 7, 7, 7, 8, 8, 8, 8, 8, 8, 8, 8, 8, 8, 8, 8, 8, 9, 9, 9, 9, 9, 9, 9, 9, 9, 9, 9, 9, 9, 9, 9, 9, 9, 9, 9, 9, 9, 9, 9, 9, 9, 9, 9, 9, 9, 9, 9, 9, 9, 9, 9, 9, 9, 9, 9, 9, 9, 9, 9, 9, 9, 10, 10, 10, 10, 10, 10, 10, 10, 10, 10, 10, 10, 10, 10, 10, 10, 10, 10, 10, 10, 10, 10, 10, 10, 10, 10, 10, 10, 10, 10, 10, 10, 10, 10, 10, 10, 10, 10, 10, 10, 10, 10, 10, 10, 10, 10, 10, 10, 10, 10, 10, 10, 10, 10, 10, 10, 10, 10, 10, 10, 10, 10, 10, 10, 10, 10, 10, 10, 10, 10, 10, 10, 10, 10, 10, 10, 10, 10, 10, 10, 10, 10, 10, 10, 10, 10, 10, 10, 10, 10, 10, 10, 10, 10, 10, 10, 10, 10, 10, 10, 10, 10, 10, 10, 10, 10, 10, 10, 10, 10, 11, 11, 11, 11, 11, 11, 11, 11, 11, 11, 11, 11, 11, 11, 11, 11, 11, 11, 11, 11, 11, 11, 11, 11, 11, 11, 11, 11, 11, 11, 12, 12, 13, 14, 14, 6, 6]
def zOw (m : Nat) : Nat := zOwT.getD m 0
def zRtT : List (Option FieldType) := [none, some .int, some .boolean, some .long, some .double]
def zRt (m : Nat) : Option FieldType := zRtT.getD (zRk m) none
/-- static, constructor, other: 0, 1, 2 -/
def zKdT : List Nat := [1, 2, 2, 2, 2, 2, 1, 2, 0, 2, 2, 2, 2, 2, 2, 2, 2, 1, 2, 2, 2, 2, 2, 2, 2, 2, 2, 2, 2, 2, 2, 1, 2, 2, 2, 2, 1, 2, 2, 2, 2, 2, 2, 2, 0, 2, 1, 2, 2, 2, 2, 2, 2, 2, 2, 2, 2, 1, 0, 0, 0, 0, 2, 2, 2, 1, 2, 2, 2, 2, 2, 2, 2, 2, 2, 2, 2, 2, 2, 2, 2, 2, 2, 2, 2, 2, 2, 2, 2, 2, 2, 2, 2, 2, 2, 2, 2, 2, 2, 2, 2, 2, 1, 2, 2, 2, 2, 0, 0, 2, 0, 2, 2, 2, 2, 1, 2, 2, 2, 2, 2, 2, 2, 2, 2, 2, 2, 2, 2, 2, 2, 2, 2, 2, 2, 2, 2, 2, 2, 2, 2, 2, 2, 2, 2, 2, 2, 2, 2, 2, 2, 2, 2, 2, 2, 2, 0, 0, 0, 0, 1, 2, 0, 2, 2, 2, 2, 2, 2, 2, 2, 2, 2, 2, 2, 2, 2, 2, 2, 2, 2, 2, 2, 2, 2, 0, 2, 2, 2, 2, 2, 2, 2, 2, 2, 2, 2, 2, 2, 2, 2, 2, 2, 2, 2, 2, 2, 2, 2, 2, 2, 2, 2, 2, 2, 2, 2, 2, 2, 2, 2, 2, 2, 2, 2, 2, 2, 2, 2, 2, 2, 2, 2, 2, 2, 2, 2, 2, 2, 2, 2, 2, 2, 2, 2, 2, 2, 2, 2, 2, 2, 0, 2, 2, 2, 2, 2, 2, 2, 2, 2, 2, 0, 2, 2, 2, 2, 2, 2, 2, 0, 0, 0, 0, 0, 0, 0, 0, 0, 0, 0, 0, 0, 0, 0, 0, 0, 0, 0, 0, 0, 0, 0, 0, 0, 0, 0, 0, 0, 0, 0, 0, 0, 0, 0, 2, 2]
def zKd (m : Nat) : Nat := zKdT.getD m 0
/-- exception tables of the methods that have one -/
def zHhT : List (List (Nat × Nat × Nat × Nat)) := [[], [], [], [], [], [], [], [], [], [], [], [], [], [], [], [], [], [], [], [], [], [], [], [], [], [], [], [], [], [], [], [], [], [], [], [], [], [], [], [], [], [], [], [], [], [], [], [], [], [], [], [], [], [], [], [], [], [], [], [], [], [], [], [], [], [], [], [], [], [], [], [], [], [], [], [], [], [], [], [], [], [], [], [], [], [], [], [], [], [], [], [], [], [], [], [], [], [], [], [], [], [], [], [], [], [], [], [], [], [], [], [], [], [], [], [], [], [], [], [], [], [], [], [], [], [], [], [], [], [], [], [], [], [], [], [], [], [], [], [], [], [], [], [], [], [], [], [], [], [], [], [], [], [], [], [], [], [], [], [], [], [], [], [], [], [], [], [], [], [], [], [], [], [], [], [], [], [], [], [], [], [], [], [], [], [], [], [], [], [], [], [], [], [], [], [], [], [], [], [], [], [], [], [], [], [], [], [], [], [], [], [], [], [], [], [], [], [], [], [], [], [], [], [], [], [], [], [], [], [], [], [], [], [], [], [], [], [], [], [], [], [], [], [], [], [], [], [], [], [], [], [], [], [], [], [], [], [], [], [], [], [], [], [], [], [], [], [], [], [], [(0, 9, 12, 13), (0, 9, 15, 15)], [(0, 16, 19, 21), (0, 16, 23, 13), (0, 16, 27, 15)], [(0, 9, 12, 21), (0, 9, 15, 15)], [(0, 12, 15, 21), (0, 12, 19, 13)], [(0, 10, 13, 21), (0, 10, 17, 13)], [(0, 10, 13, 21), (0, 10, 17, 13)], [(0, 10, 13, 21), (0, 10, 17, 13)], [(0, 17, 20, 21)], [(0, 9, 12, 21)], [(0, 17, 20, 21), (0, 17, 24, 13)], [(0, 9, 12, 13), (0, 9, 15, 15)], [(0, 10, 13, 13)], [(0, 10, 13, 13)], [(0, 9, 12, 21)], [(0, 9, 12, 21)], [(0, 9, 12, 21), (0, 9, 15, 15)], [(0, 9, 12, 21), (0, 9, 15, 15)], [(0, 9, 12, 13)], [(0, 9, 12, 21), (0, 9, 15, 15)], [(0, 9, 12, 21), (0, 9, 15, 15)], [(0, 9, 12, 13)], [(0, 10, 13, 13), (0, 10, 17, 21)], [(0, 17, 20, 21), (0, 17, 24, 13)], [(0, 10, 13, 21), (0, 10, 17, 13)], [(0, 12, 15, 21), (0, 12, 19, 13)], [(0, 9, 12, 21)], [(0, 9, 12, 21)], [(0, 9, 12, 13), (0, 9, 15, 15)], [(0, 8, 11, 15)], [], [], [], [], [], [], [], []]
def zHh (m : Nat) : List (Nat × Nat × Nat × Nat) := zHhT.getD m []
def zCw (m : Nat) : Cond := if zHh m = [] then .code (zYn m) (zCd m) (zMl m) (zRt m) else .codeWith (zYn m) (zCd m) (zMl m) (zRt m) (zHh m)
def zSelX : List Cond := [.selects (zCn 0) (zYn 63) (zYn 63), .selects (zCn 5) (zYn 63) (zYn 63), .selects (zCn 0) (zYn 64) (zYn 64), .selects (zCn 5) (zYn 64) (zYn 64)]
def zT : List Cond := zSelX ++ lw_tbl
def zGood : List Cond := zT.filter goodWord
theorem zg_t {w : Cond} (i : Nat) (h : tables_1[i]? = some w) (hg : goodWord w = true) : w ∈ zGood := List.mem_filter.mpr ⟨List.mem_append_right _ (List.mem_append_right _ (List.mem_of_getElem? h)), hg⟩
theorem zg_s {w : Cond} (i : Nat) (h : (k2_sels lw_privs)[i]? = some w) (hg : goodWord w = true) : w ∈ zGood := List.mem_filter.mpr ⟨List.mem_append_right _ (List.mem_append_left _ (List.mem_of_getElem? h)), hg⟩
theorem zg_x {w : Cond} (i : Nat) (h : zSelX[i]? = some w) (hg : goodWord w = true) : w ∈ zGood := List.mem_filter.mpr ⟨List.mem_append_left _ (List.mem_of_getElem? h), hg⟩
def zWs (m : Nat) : List Cond := zCw m :: zGood
/-- words of a table by places -/
def zPl {α : Type} (es : List α) (ps : List Nat) (f : α → Cond) : Bool := es.length == ps.length && (es.zip ps).all (fun q => decide (tables_1[q.2]? = some (f q.1)) && goodWord (f q.1))
theorem zPl_zip {α β : Type} : ∀ (es : List α) (ps : List β), es.length = ps.length → ∀ e ∈ es, ∃ p, (e, p) ∈ es.zip ps
  | [], _, _ => fun _ h => nomatch h
  | a :: es, [], h => by simp at h
  | a :: es, p :: ps, h => fun e he => by
    rcases List.mem_cons.mp he with rfl | he
    · exact ⟨p, by simp⟩
    · obtain ⟨p2, h2⟩ := zPl_zip es ps (by simpa using h) e he
      exact ⟨p2, by simp [h2]⟩
theorem zPl_ok {α : Type} {es : List α} {ps : List Nat} {f : α → Cond} (h : zPl es ps f = true) : ∀ e ∈ es, f e ∈ zGood := by
  intro e he
  unfold zPl at h
  rw [Bool.and_eq_true] at h
  obtain ⟨p, hp⟩ := zPl_zip es ps (by simpa using h.1) e he
  have h1 := List.all_eq_true.mp h.2 _ hp
  rw [Bool.and_eq_true, decide_eq_true_eq] at h1
  exact zg_t p h1.1 h1.2
/-- words that are not kept by themselves: places alone -/
def zPq {α : Type} (es : List α) (ps : List Nat) (f : α → Cond) : Bool := es.length == ps.length && (es.zip ps).all (fun q => decide (tables_1[q.2]? = some (f q.1)))
theorem zPq_ok {α : Type} {es : List α} {ps : List Nat} {f : α → Cond} (h : zPq es ps f = true) : ∀ e ∈ es, f e ∈ tables_1 := by
  intro e he
  unfold zPq at h
  rw [Bool.and_eq_true] at h
  obtain ⟨p, hp⟩ := zPl_zip es ps (by simpa using h.1) e he
  have h1 := List.all_eq_true.mp h.2 _ hp
  rw [decide_eq_true_eq] at h1
  exact List.mem_of_getElem? h1
theorem zSelX_good : zSelX.all goodWord = true := by decide +kernel
def zLay : List (Nat × Nat) := [(0, 0), (1, 0), (1, 1), (1, 2), (2, 0), (2, 1), (2, 2), (2, 3), (2, 4), (3, 0), (3, 1), (4, 0), (4, 1), (4, 2), (4, 3), (5, 0), (5, 1), (5, 2), (5, 3), (5, 4), (5, 5), (5, 6), (5, 7), (5, 8), (5, 9), (7, 0), (7, 1), (7, 2), (7, 3), (8, 0), (8, 1), (8, 2), (8, 3), (9, 0), (9, 1), (9, 2), (9, 3), (9, 4), (9, 5), (9, 6), (9, 7), (9, 8), (10, 0), (10, 1), (10, 2), (10, 3), (10, 4), (10, 5), (10, 6), (10, 7), (10, 8), (10, 9), (10, 10), (10, 11), (10, 12), (10, 13), (10, 14), (10, 15), (10, 16), (10, 17), (10, 18), (10, 19), (10, 20), (10, 21), (10, 22), (10, 23), (10, 24), (10, 25), (10, 26), (10, 27), (10, 28), (10, 29), (10, 30), (10, 31), (10, 32), (10, 33), (10, 34), (10, 35), (10, 36), (10, 37), (10, 38), (10, 39), (10, 40), (10, 41), (10, 42), (10, 43)]
def zLayp : List Nat := [158, 192, 194, 196, 99, 101, 103, 105, 107, 81, 83, 172, 174, 176, 178, 130, 132, 134, 136, 138, 140, 142, 144, 146, 148, 59, 61, 63, 65, 213, 215, 217, 219, 231, 233, 235, 237, 239, 241, 243, 245, 247, 1172, 1174, 1176, 1178, 1180, 1182, 1184, 1186, 1188, 1190, 1192, 1194, 1196, 1198, 1200, 1202, 1204, 1206, 1208, 1210, 1212, 1214, 1216, 1218, 1220, 1222, 1224, 1226, 1228, 1230, 1232, 1234, 1236, 1238, 1240, 1242, 1244, 1246, 1248, 1250, 1252, 1254, 1256, 1258]
theorem zLay_c : zPl zLay zLayp (fun e => u_lay (zCn e.1) (zTx e.1) e.2) = true := by decide +kernel
theorem zLay_ok : ∀ e ∈ zLay, ((fun e => u_lay (zCn e.1) (zTx e.1) e.2)) e ∈ zGood := zPl_ok zLay_c
theorem zLay_all : ∀ t, t < 11 → ∀ k, k < zNf t → (t, k) ∈ zLay := by decide +kernel
theorem zLay_in {t : Nat} (ht : t < 11) : ∀ w ∈ u_ws (zCn t) (zTx t) (zNf t), w ∈ zGood := by
  intro w hw
  obtain ⟨k, hk, rfl⟩ := List.mem_map.mp hw
  exact zLay_ok (t, k) (zLay_all t ht k (List.mem_range.mp hk))
def zFL : List (Nat × Nat × Nat) := [(7, 9, 448), (1, 24, 448), (4, 30, 448), (2, 32, 448), (0, 36, 448), (9, 110, 448), (7, 15, 449), (1, 50, 449), (2, 41, 449), (9, 114, 449), (6, 26, 449), (7, 20, 450), (4, 58, 450), (1, 96, 450), (7, 23, 451), (5, 61, 451), (2, 44, 451), (0, 44, 451), (1, 76, 451), (9, 129, 451), (6, 59, 451), (3, 13, 192), (3, 17, 193), (9, 291, 193), (2, 9, 128), (2, 15, 129), (2, 18, 130), (2, 22, 131), (9, 149, 131), (2, 25, 132), (9, 177, 132), (5, 9, 320), (5, 15, 321), (5, 19, 322), (5, 22, 323), (5, 25, 324), (5, 28, 325), (5, 31, 326), (5, 34, 327), (5, 39, 328), (5, 42, 329), (0, 9, 0), (4, 9, 256), (4, 15, 257), (9, 221, 257), (4, 18, 258), (4, 21, 259), (1, 13, 64), (1, 16, 65), (1, 20, 66), (8, 11, 512), (8, 15, 513), (9, 288, 513), (8, 19, 514), (8, 24, 515), (9, 10, 576), (9, 16, 577), (9, 22, 578), (9, 29, 579), (9, 36, 580), (9, 43, 581), (9, 50, 582), (9, 57, 583), (9, 64, 584), (10, 7, 640), (10, 13, 641), (10, 16, 642), (10, 93, 643), (10, 19, 644), (10, 341, 645), (10, 89, 646), (10, 22, 647), (10, 25, 648), (10, 124, 649), (10, 28, 650), (10, 31, 651), (10, 34, 652), (10, 37, 653), (10, 40, 654), (10, 43, 655), (10, 46, 656), (10, 49, 657), (10, 52, 658), (10, 56, 659), (10, 205, 660), (10, 255, 661), (10, 233, 662), (10, 202, 663), (10, 236, 664), (10, 208, 665), (10, 211, 666), (10, 214, 667), (10, 59, 668), (10, 62, 669), (10, 65, 670), (10, 68, 671), (10, 71, 672), (10, 261, 673), (10, 217, 674), (10, 74, 675), (10, 289, 676), (10, 77, 677), (10, 80, 678), (10, 83, 679), (10, 344, 680), (10, 350, 681), (10, 86, 682), (10, 367, 683)]
def zFLp : List Nat := [38, 39, 40, 41, 42, 43, 44, 45, 46, 47, 48, 49, 50, 51, 52, 53, 54, 55, 56, 57, 58, 78, 79, 80, 92, 93, 94, 95, 96, 97, 98, 120, 121, 122, 123, 124, 125, 126, 127, 128, 129, 157, 167, 168, 169, 170, 171, 189, 190, 191, 208, 209, 210, 211, 212, 222, 223, 224, 225, 226, 227, 228, 229, 230, 1128, 1129, 1130, 1131, 1132, 1133, 1134, 1135, 1136, 1137, 1138, 1139, 1140, 1141, 1142, 1143, 1144, 1145, 1146, 1147, 1148, 1149, 1150, 1151, 1152, 1153, 1154, 1155, 1156, 1157, 1158, 1159, 1160, 1161, 1162, 1163, 1164, 1165, 1166, 1167, 1168, 1169, 1170, 1171]
theorem zFL_c : zPl zFL zFLp (fun e => .fieldLink (zCn e.1) e.2.1 (zTx (e.2.2 / 64) (e.2.2 % 64)).1 (zTx (e.2.2 / 64) (e.2.2 % 64)).2.1 (zTx (e.2.2 / 64) (e.2.2 % 64)).2.2.1) = true := by decide +kernel
theorem zFL_ok : ∀ e ∈ zFL, ((fun e => .fieldLink (zCn e.1) e.2.1 (zTx (e.2.2 / 64) (e.2.2 % 64)).1 (zTx (e.2.2 / 64) (e.2.2 % 64)).2.1 (zTx (e.2.2 / 64) (e.2.2 % 64)).2.2.1)) e ∈ zGood := zPl_ok zFL_c
def zStN : List (String × String × String) := [("ServiceBudgets$State", "LEAST", "[I"), ("ServiceBudgets$State", "MOST", "[I"), ("ServiceBudgets$State", "INITIAL", "[I"), ("ServiceBudgets$FailureSets", "MEMBERS", "[J")]
def zSn (n : Nat) : String × String × String := zStN.getD n ("", "", "")
def zSF : List (Nat × Nat × Nat) := [(7, 32, 0), (7, 36, 1), (7, 39, 2), (1, 65, 3)]
def zSFp : List Nat := [440, 442, 485, 1024]
theorem zSF_c : zPl zSF zSFp (fun e => .fieldLink (zCn e.1) e.2.1 (zSn e.2.2).1 (zSn e.2.2).2.1 (zSn e.2.2).2.2) = true := by decide +kernel
theorem zSF_ok : ∀ e ∈ zSF, ((fun e => .fieldLink (zCn e.1) e.2.1 (zSn e.2.2).1 (zSn e.2.2).2.1 (zSn e.2.2).2.2)) e ∈ zGood := zPl_ok zSF_c
def zCL : List (Nat × Nat × Nat) := [(11, 8, 9), (9, 7, 7), (9, 19, 3), (3, 11, 7), (9, 26, 2), (9, 33, 5), (9, 40, 0), (9, 47, 4), (9, 54, 1), (9, 61, 8), (11, 109, 10)]
def zCLp : List Nat := [22, 30, 69, 75, 86, 110, 151, 161, 181, 201, 1122]
theorem zCL_c : zPl zCL zCLp (fun e => .classLink (zCn e.1) e.2.1 (zCn e.2.2)) = true := by decide +kernel
theorem zCL_ok : ∀ e ∈ zCL, ((fun e => .classLink (zCn e.1) e.2.1 (zCn e.2.2))) e ∈ zGood := zPl_ok zCL_c
def zMt (t : Nat) : FieldType := if t = 0 then .int else .long
def zMA : List (Nat × Nat × Nat) := [(7, 18, 0), (5, 37, 0), (1, 11, 1), (8, 22, 0)]
def zMAp : List Nat := [36, 119, 187, 207]
theorem zMA_c : zPl zMA zMAp (fun e => .classLink (zCn e.1) e.2.1 ("[" ++ (FieldType.array (zMt e.2.2)).toString)) = true := by decide +kernel
theorem zMA_ok : ∀ e ∈ zMA, ((fun e => .classLink (zCn e.1) e.2.1 ("[" ++ (FieldType.array (zMt e.2.2)).toString))) e ∈ zGood := zPl_ok zMA_c
def zKI : List (Nat × Nat × Int) := [(2, 74, 100000), (13, 265, 1431655765), (13, 266, 858993459), (13, 267, 252645135), (10, 264, 100000), (10, 307, 100000000), (14, 77, 2143289344)]
def zKIp : List Nat := [301, 390, 391, 392, 1496, 1597, 1659]
theorem zKI_c : zPl zKI zKIp (fun e => .constant (zCn e.1) e.2.1 (Int32.ofInt e.2.2)) = true := by decide +kernel
theorem zKI_ok : ∀ e ∈ zKI, ((fun e => .constant (zCn e.1) e.2.1 (Int32.ofInt e.2.2))) e ∈ zGood := zPl_ok zKI_c
def zKL : List (Nat × Nat × Int) := [(9, 284, 57381), (9, 286, 31), (1, 71, (-1)), (10, 371, 1851), (10, 365, 31)]
def zKLp : List Nat := [541, 542, 1027, 1703, 1708]
theorem zKL_c : zPl zKL zKLp (fun e => .constantLong (zCn e.1) e.2.1 (Int64.ofInt e.2.2)) = true := by decide +kernel
theorem zKL_ok : ∀ e ∈ zKL, ((fun e => .constantLong (zCn e.1) e.2.1 (Int64.ofInt e.2.2))) e ∈ zGood := zPl_ok zKL_c
def zKD : List (Nat × Nat × Int) := [(1, 99, 4652007308841189376), (9, 311, 4611686018427387904), (9, 313, 4710765210229538816), (10, 329, 4652007308841189376)]
def zKDp : List Nat := [1074, 1078, 1079, 1649]
theorem zKD_c : zPl zKD zKDp (fun e => .constantDouble (zCn e.1) e.2.1 (UInt64.ofNat e.2.2.toNat)) = true := by decide +kernel
theorem zKD_ok : ∀ e ∈ zKD, ((fun e => .constantDouble (zCn e.1) e.2.1 (UInt64.ofNat e.2.2.toNat))) e ∈ zGood := zPl_ok zKD_c
def zIV : List (Nat × Nat × Nat) := [(0, 15, 91), (0, 21, 87), (0, 32, 2), (1, 36, 22), (1, 42, 21), (1, 53, 84), (1, 57, 86), (1, 61, 9), (1, 73, 85), (1, 80, 10), (1, 88, 11), (1, 92, 15), (1, 101, 14), (2, 28, 19), (2, 37, 20), (2, 52, 18), (2, 55, 24), (2, 64, 26), (2, 67, 81), (2, 75, 29), (2, 79, 79), (2, 82, 89), (3, 22, 33), (3, 25, 66), (4, 24, 92), (4, 38, 87), (4, 42, 37), (4, 46, 39), (4, 55, 41), (4, 62, 40), (4, 66, 43), (4, 72, 42), (5, 57, 49), (5, 69, 54), (6, 7, 91), (6, 23, 81), (6, 30, 84), (6, 44, 86), (6, 53, 85), (7, 42, 67), (7, 50, 87), (7, 57, 83), (7, 60, 68), (7, 63, 81), (7, 66, 82), (7, 69, 84), (7, 72, 88), (7, 75, 86), (7, 79, 90), (7, 82, 85), (7, 85, 91), (7, 88, 92), (7, 97, 99), (7, 100, 89), (7, 103, 100), (7, 107, 101), (7, 110, 95), (8, 27, 109), (8, 41, 111), (8, 44, 112), (8, 47, 70), (8, 52, 72), (8, 56, 94), (8, 59, 96), (8, 66, 76), (8, 69, 71), (8, 72, 73), (8, 75, 95), (8, 79, 97), (8, 82, 98), (8, 85, 77), (9, 68, 70), (9, 76, 32), (9, 80, 71), (9, 83, 72), (9, 87, 73), (9, 90, 74), (9, 93, 75), (9, 96, 76), (9, 100, 77), (9, 103, 78), (9, 107, 79), (9, 117, 67), (9, 123, 80), (9, 126, 68), (9, 133, 87), (9, 140, 18), (9, 143, 21), (9, 146, 23), (9, 153, 47), (9, 157, 52), (9, 161, 53), (9, 164, 55), (9, 167, 56), (9, 170, 1), (9, 174, 25), (9, 180, 27), (9, 184, 28), (9, 187, 94), (9, 190, 95), (9, 193, 93), (9, 196, 96), (9, 199, 97), (9, 202, 98), (9, 205, 92), (9, 208, 66), (9, 211, 99), (9, 214, 38), (9, 217, 91), (9, 224, 42), (9, 227, 45), (9, 230, 69), (9, 233, 30), (9, 236, 7), (9, 240, 12), (9, 244, 13), (9, 248, 14), (9, 256, 16), (9, 259, 103), (9, 262, 104), (9, 265, 105), (9, 268, 106), (9, 271, 113), (9, 274, 114), (9, 278, 34), (9, 281, 35), (10, 96, 164), (10, 100, 170), (10, 108, 168), (10, 111, 171), (10, 114, 172), (10, 117, 180), (10, 120, 169), (10, 127, 174), (10, 131, 182), (10, 135, 179), (10, 141, 176), (10, 144, 189), (10, 148, 187), (10, 152, 231), (10, 155, 163), (10, 158, 167), (10, 161, 165), (10, 164, 183), (10, 167, 192), (10, 170, 184), (10, 174, 173), (10, 177, 175), (10, 180, 195), (10, 183, 186), (10, 187, 177), (10, 190, 201), (10, 193, 203), (10, 196, 181), (10, 199, 207), (10, 221, 209), (10, 224, 178), (10, 227, 212), (10, 230, 214), (10, 239, 210), (10, 242, 211), (10, 246, 213), (10, 249, 215), (10, 252, 216), (10, 258, 217), (10, 265, 223), (10, 268, 224), (10, 271, 226), (10, 274, 229), (10, 277, 230), (10, 280, 188), (10, 283, 190), (10, 286, 191), (10, 292, 166), (10, 295, 236), (10, 298, 239), (10, 301, 240), (10, 304, 243), (10, 308, 244), (10, 311, 245), (10, 314, 248), (10, 317, 250), (10, 323, 252), (10, 326, 253), (10, 331, 256), (10, 347, 261), (10, 356, 263), (10, 359, 264), (10, 362, 265), (10, 373, 268), (11, 7, 116), (11, 17, 117), (11, 23, 118), (11, 26, 119), (11, 30, 120), (11, 34, 123), (11, 37, 124), (11, 40, 125), (11, 44, 127), (11, 47, 128), (11, 50, 129), (11, 53, 130), (11, 56, 131), (11, 59, 132), (11, 62, 133), (11, 65, 136), (11, 68, 137), (11, 71, 138), (11, 74, 140), (11, 77, 141), (11, 80, 142), (11, 83, 143), (11, 86, 146), (11, 89, 147), (11, 92, 148), (11, 95, 149), (11, 98, 150), (11, 101, 151), (11, 104, 154), (11, 117, 193), (11, 118, 161), (11, 124, 194), (11, 127, 196), (11, 131, 197), (11, 135, 198), (11, 136, 121), (11, 139, 199), (11, 140, 122), (11, 143, 200), (11, 146, 202), (11, 149, 204), (11, 152, 205), (11, 153, 126), (11, 156, 206), (11, 159, 208), (11, 162, 218), (11, 165, 219), (11, 168, 220), (11, 171, 221), (11, 174, 222), (11, 177, 225), (11, 178, 134), (11, 181, 227), (11, 182, 135), (11, 185, 228), (11, 188, 232), (11, 191, 233), (11, 194, 234), (11, 195, 139), (11, 198, 235), (11, 201, 237), (11, 204, 238), (11, 207, 241), (11, 210, 242), (11, 211, 144), (11, 214, 246), (11, 215, 145), (11, 218, 247), (11, 221, 249), (11, 224, 254), (11, 227, 255), (11, 230, 257), (11, 233, 258), (11, 236, 259), (11, 237, 152), (11, 240, 260), (11, 241, 153), (11, 244, 266), (11, 248, 267), (11, 249, 155), (11, 253, 269)]
def zIVp : List Nat := [908, 909, 915, 1016, 1020, 1028, 1029, 1030, 1034, 1044, 1040, 1070, 1091, 266, 270, 289, 769, 290, 294, 329, 333, 1003, 314, 318, 361, 363, 357, 556, 560, 564, 372, 393, 829, 871, 793, 806, 807, 844, 812, 448, 455, 456, 703, 547, 548, 460, 367, 512, 516, 520, 345, 507, 503, 508, 524, 528, 532, 410, 420, 424, 436, 444, 464, 468, 473, 481, 487, 491, 495, 499, 533, 577, 310, 681, 690, 691, 699, 707, 718, 719, 727, 731, 739, 543, 748, 756, 262, 277, 765, 783, 861, 865, 882, 893, 904, 285, 302, 325, 934, 935, 936, 948, 949, 957, 341, 431, 972, 552, 987, 353, 383, 995, 999, 1011, 1035, 1055, 1066, 1087, 1099, 1103, 398, 406, 432, 477, 1114, 1118, 1297, 1325, 1364, 1321, 1329, 1317, 1281, 1309, 1313, 1333, 1436, 1517, 1521, 1541, 1289, 1293, 1270, 1274, 1285, 1305, 1349, 1341, 1345, 1357, 1388, 1384, 1396, 1408, 1416, 1440, 1444, 1448, 1456, 1428, 1432, 1452, 1460, 1464, 1424, 1492, 1488, 1501, 1545, 1549, 1513, 1529, 1537, 1565, 1561, 1581, 1577, 1602, 1598, 1593, 1614, 1626, 1633, 1622, 1645, 1687, 1683, 1676, 1691, 1704, 573, 686, 695, 714, 723, 735, 744, 752, 761, 779, 857, 878, 889, 900, 923, 930, 944, 953, 961, 968, 976, 983, 991, 1007, 1051, 1062, 1083, 1095, 1110, 1266, 1262, 1301, 1337, 1353, 1368, 250, 1372, 254, 1376, 1380, 1392, 1400, 258, 1404, 1412, 1420, 1468, 1472, 1476, 1480, 1484, 281, 1497, 306, 1505, 1509, 1525, 1533, 337, 1553, 1557, 1569, 1573, 1585, 349, 1589, 379, 1606, 1610, 1618, 1637, 1641, 1660, 1664, 394, 1668, 402, 1672, 1695, 537, 1699]
theorem zIV_c : zPl zIV zIVp (fun e => .methodLink (zCn e.1) e.2.1 (zYn e.2.2)) = true := by decide +kernel
theorem zIV_ok : ∀ e ∈ zIV, ((fun e => .methodLink (zCn e.1) e.2.1 (zYn e.2.2))) e ∈ zGood := zPl_ok zIV_c
def zIS : List (Nat × Nat × Nat) := [(1, 30, 300), (1, 46, 8), (1, 83, 302), (2, 58, 300), (2, 71, 301), (4, 50, 302), (4, 69, 44), (6, 19, 59), (6, 38, 61), (6, 41, 60), (6, 50, 58), (6, 63, 301), (7, 92, 302), (8, 31, 108), (8, 35, 110), (8, 38, 107), (9, 72, 156), (9, 120, 157), (9, 136, 158), (9, 252, 159), (10, 104, 162), (10, 138, 185), (10, 320, 251), (10, 335, 303), (10, 353, 262), (14, 59, 304)]
def zISp : List Nat := [1015, 1021, 1039, 773, 298, 387, 376, 803, 837, 840, 841, 817, 940, 428, 414, 417, 578, 740, 757, 1075, 1278, 1361, 1630, 1650, 1680, 1653]
theorem zIS_c : zPl zIS zISp (fun e => .methodLink (zCn e.1) e.2.1 (zYn e.2.2)) = true := by decide +kernel
theorem zIS_ok : ∀ e ∈ zIS, ((fun e => .methodLink (zCn e.1) e.2.1 (zYn e.2.2))) e ∈ zGood := zPl_ok zIS_c
def zII : List (Nat × Nat × Nat) := [(9, 21, 31), (11, 108, 115), (11, 111, 160)]
def zIIp : List Nat := [71, 24, 1124]
theorem zII_c : zPl zII zIIp (fun e => .methodLink (zCn e.1) e.2.1 (zYn e.2.2)) = true := by decide +kernel
theorem zII_ok : ∀ e ∈ zII, ((fun e => .methodLink (zCn e.1) e.2.1 (zYn e.2.2))) e ∈ zGood := zPl_ok zII_c
def zIW : List (Nat × Nat × Nat) := [(11, 112, 270), (11, 121, 271), (11, 125, 272), (11, 128, 273), (11, 132, 274), (11, 144, 275), (11, 147, 276), (11, 150, 277), (11, 157, 278), (11, 160, 279), (11, 163, 280), (11, 166, 281), (11, 169, 282), (11, 172, 283), (11, 175, 284), (11, 186, 285), (11, 189, 286), (11, 192, 287), (11, 199, 288), (11, 202, 289), (11, 205, 290), (11, 208, 291), (11, 219, 292), (11, 222, 293), (11, 225, 294), (11, 228, 295), (11, 231, 296), (11, 234, 297), (11, 245, 298)]
def zIWp : List Nat := [568, 682, 692, 711, 720, 732, 741, 749, 758, 776, 854, 875, 886, 897, 920, 927, 941, 950, 958, 965, 973, 980, 988, 1004, 1048, 1059, 1080, 1092, 1107]
theorem zIW_c : zPl zIW zIWp (fun e => .methodLink (zCn e.1) e.2.1 (zYn e.2.2)) = true := by decide +kernel
theorem zIW_ok : ∀ e ∈ zIW, ((fun e => .methodLink (zCn e.1) e.2.1 (zYn e.2.2))) e ∈ zGood := zPl_ok zIW_c
def zXn (t m : Nat) : MethodName := ⟨zCn t, (zYn m).name, (zYn m).desc⟩
def zIU : List (Nat × Nat × Nat) := [(0, 25, 305), (5, 45, 306), (6, 34, 63), (6, 56, 64)]
def zIUp : List Nat := [910, 787, 808, 813]
theorem zIU_c : zPl zIU zIUp (fun e => .methodLink (zCn e.1) e.2.1 (zXn e.1 e.2.2)) = true := by decide +kernel
theorem zIU_ok : ∀ e ∈ zIU, ((fun e => .methodLink (zCn e.1) e.2.1 (zXn e.1 e.2.2))) e ∈ zGood := zPl_ok zIU_c
def zIUs : List (Nat × Nat × Nat) := [(0, 25, 305), (5, 45, 306), (6, 34, 63), (6, 56, 64)]
def zIUsp : List Nat := [911, 788, 1710, 1711]
theorem zIUs_c : zPl zIUs zIUsp (fun e => .sameMethod (zCn e.1) (zCn 6) (zYn e.2.2).name (zYn e.2.2).desc) = true := by decide +kernel
theorem zIUs_ok : ∀ e ∈ zIUs, ((fun e => .sameMethod (zCn e.1) (zCn 6) (zYn e.2.2).name (zYn e.2.2).desc)) e ∈ zGood := zPl_ok zIUs_c
def zISU : List (Nat × Nat × Nat) := [(0, 29, 60), (5, 49, 60), (5, 53, 59), (5, 66, 61)]
def zISUp : List Nat := [913, 833, 827, 869]
theorem zISU_c : zPl zISU zISUp (fun e => .methodLink (zCn e.1) e.2.1 (zXn e.1 e.2.2)) = true := by decide +kernel
theorem zISU_ok : ∀ e ∈ zISU, ((fun e => .methodLink (zCn e.1) e.2.1 (zXn e.1 e.2.2))) e ∈ zGood := zPl_ok zISU_c
def zISUs : List (Nat × Nat × Nat) := [(0, 29, 60), (5, 49, 60), (5, 53, 59), (5, 66, 61)]
def zISUsp : List Nat := [914, 834, 828, 870]
theorem zISUs_c : zPl zISUs zISUsp (fun e => .sameMethod (zCn e.1) (zCn 6) (zYn e.2.2).name (zYn e.2.2).desc) = true := by decide +kernel
theorem zISUs_ok : ∀ e ∈ zISUs, ((fun e => .sameMethod (zCn e.1) (zCn 6) (zYn e.2.2).name (zYn e.2.2).desc)) e ∈ zGood := zPl_ok zISUs_c
def zISN : List (Nat × Nat × Nat) := [(0, 40, 158), (1, 68, 158), (2, 48, 158), (4, 34, 158), (7, 46, 157), (7, 53, 158), (8, 62, 157)]
def zISNp : List Nat := [919, 1026, 274, 362, 452, 371, 472]
theorem zISN_c : zPq zISN zISNp (fun e => .methodLinkNest (zCn e.1) e.2.1 (zYn e.2.2) (zCn 9)) = true := by decide +kernel
theorem zISN_ok : ∀ e ∈ zISN, ((fun e => .methodLinkNest (zCn e.1) e.2.1 (zYn e.2.2) (zCn 9))) e ∈ tables_1 := zPq_ok zISN_c
def zIIN : List (Nat × Nat × Nat) := [(0, 3, 57), (3, 21, 65), (5, 3, 57), (9, 9, 65), (9, 28, 17), (9, 35, 46), (9, 42, 0), (9, 49, 36), (9, 56, 6), (9, 63, 102)]
def zIINp : List Nat := [156, 77, 115, 32, 88, 112, 153, 163, 183, 203]
theorem zIIN_c : zPq zIIN zIINp (fun e => .methodLinkNest (zCn e.1) e.2.1 (zYn e.2.2) (zCn 9)) = true := by decide +kernel
theorem zIIN_ok : ∀ e ∈ zIIN, ((fun e => .methodLinkNest (zCn e.1) e.2.1 (zYn e.2.2) (zCn 9))) e ∈ tables_1 := zPq_ok zIIN_c
def zDyT : List MethodName := [⟨"ServiceBudgets$Serving", "ask", "(LServiceBudgets$State;IIII)I"⟩, ⟨"ServiceBudgets$Serving", "noteFailure", "(IIII)V"⟩, ⟨"ServiceBudgets$Serving", "noteMissing", "()V"⟩]
def zDy (k : Nat) : MethodName := zDyT.getD k ⟨"", "", ""⟩
def zID : List (Nat × Nat × Nat) := [(6, 15, 1), (6, 47, 2), (6, 69, 0)]
def zIDp : List Nat := [794, 845, 818]
theorem zID_c : zPl zID zIDp (fun e => .methodLink (zCn e.1) e.2.1 (zDy e.2.2)) = true := by decide +kernel
theorem zID_ok : ∀ e ∈ zID, ((fun e => .methodLink (zCn e.1) e.2.1 (zDy e.2.2))) e ∈ zGood := zPl_ok zID_c
def zD3 : List Nat := [0, 1, 2]
def zIDs : List (Nat) := [(0), (1), (2)]
def zIDsp : List Nat := [820, 796, 847]
theorem zIDs_c : zPl zIDs zIDsp (fun e => .sameMethod (zCn 6) (zCn 6) (zDy e).name (zDy e).desc) = true := by decide +kernel
theorem zIDs_ok : ∀ e ∈ zIDs, ((fun e => .sameMethod (zCn 6) (zCn 6) (zDy e).name (zDy e).desc)) e ∈ zGood := zPl_ok zIDs_c
def zIDd : List (Nat) := [(0), (1), (2)]
def zIDdp : List Nat := [819, 795, 846]
theorem zIDd_c : zPq zIDd zIDdp (fun e => .declares (zDy e)) = true := by decide +kernel
theorem zIDd_ok : ∀ e ∈ zIDd, ((fun e => .declares (zDy e))) e ∈ tables_1 := zPq_ok zIDd_c
def zIDl : List (Nat × Nat × Nat) := [(0, 0, 3), (0, 5, 48), (1, 0, 4), (1, 5, 50), (2, 0, 5), (2, 5, 51)]
def zIDlp : List Nat := [821, 824, 797, 800, 848, 851]
theorem zIDl_c : zPl zIDl zIDlp (fun e => .selects (zCn e.2.1) (zDy e.1) (zYn e.2.2)) = true := by decide +kernel
theorem zIDl_ok : ∀ e ∈ zIDl, ((fun e => .selects (zCn e.2.1) (zDy e.1) (zYn e.2.2))) e ∈ zGood := zPl_ok zIDl_c
def zIUl : List (Nat × Nat) := [(0, 305), (5, 306)]
def zIUlp : List Nat := [912, 790]
theorem zIUl_c : zPl zIUl zIUlp (fun e => .selects (zCn e.1) (zXn e.1 e.2) (zYn e.2)) = true := by decide +kernel
theorem zIUl_ok : ∀ e ∈ zIUl, ((fun e => .selects (zCn e.1) (zXn e.1 e.2) (zYn e.2))) e ∈ zGood := zPl_ok zIUl_c
def zOI : List (Nat × Nat) := [(1, 5), (2, 3), (3, 3), (4, 3), (6, 1), (7, 3), (8, 5), (9, 1), (10, 1)]
def zOIp : List Nat := [186, 91, 74, 166, 118, 35, 206, 27, 1127]
theorem zOI_c : zPl zOI zOIp (fun e => .methodLink (zCn e.1) e.2 Lib.objectInit) = true := by decide +kernel
theorem zOI_ok : ∀ e ∈ zOI, ((fun e => .methodLink (zCn e.1) e.2 Lib.objectInit)) e ∈ zGood := zPl_ok zOI_c
def zAcN : MethodName := ⟨"java/lang/System", "arraycopy", "(Ljava/lang/Object;ILjava/lang/Object;II)V"⟩
def zAC : List (Nat × Nat) := [(7, 26)]
def zACp : List Nat := [322]
theorem zAC_c : zPl zAC zACp (fun e => .methodLink (zCn e.1) e.2 zAcN) = true := by decide +kernel
theorem zAC_ok : ∀ e ∈ zAC, ((fun e => .methodLink (zCn e.1) e.2 zAcN)) e ∈ zGood := zPl_ok zAC_c
def zFrN : MethodName := ⟨"java/lang/Float", "floatToRawIntBits", "(F)I"⟩
def zFR : List (Nat × Nat) := [(14, 74)]
def zFRp : List Nat := [1656]
theorem zFR_c : zPl zFR zFRp (fun e => .methodLink (zCn e.1) e.2 zFrN) = true := by decide +kernel
theorem zFR_ok : ∀ e ∈ zFR, ((fun e => .methodLink (zCn e.1) e.2 zFrN)) e ∈ zGood := zPl_ok zFR_c
def zMc : List Nat := [0, 1, 2, 3, 4, 5, 6, 7, 8, 9, 10, 11, 12, 13, 14, 15, 16, 17, 18, 19, 20, 21, 22, 23, 24, 25, 26, 27, 28, 29, 30, 31, 32, 33, 34, 35, 36, 37, 38, 39, 40, 41, 42, 43, 44, 45, 46, 47, 48, 49, 50, 51, 52, 53, 54, 55, 56, 57, 58, 59, 60, 61, 62, 63, 64, 65, 66, 67, 68, 69, 70, 71, 72, 73, 74, 75, 76, 77, 78, 79, 80, 81, 82, 83, 84, 85, 86, 87, 88, 89, 90, 91, 92, 93, 94, 95, 96, 97, 98, 99, 100, 101, 102, 103, 104, 105, 106, 107, 108, 109, 110, 111, 112, 113, 114, 115, 116, 117, 118, 119, 120, 121, 122, 123, 124, 125, 126, 127, 128, 129, 130, 131, 132, 133, 134, 135, 136, 137, 138, 139, 140, 141, 142, 143, 144, 145, 146, 147, 148, 149, 150, 151, 152, 153, 154, 155, 156, 157, 158, 159, 160, 161, 162, 163, 164, 165, 166, 167, 168, 169, 170, 171, 172, 173, 174, 175, 176, 177, 178, 179, 180, 181, 182, 183, 184, 185, 186, 187, 188, 189, 190, 191, 192, 193, 194, 195, 196, 197, 198, 199, 200, 201, 202, 203, 204, 205, 206, 207, 208, 209, 210, 211, 212, 213, 214, 215, 216, 217, 218, 219, 220, 221, 222, 223, 224, 225, 226, 227, 228, 229, 230, 231, 232, 233, 234, 235, 236, 237, 238, 239, 240, 241, 242, 243, 244, 245, 246, 247, 248, 249, 250, 251, 252, 253, 254, 255, 256, 257, 258, 259, 260, 261, 262, 263, 264, 265, 266, 267, 268, 269, 270, 271, 272, 273, 274, 275, 276, 277, 278, 279, 280, 281, 282, 283, 284, 285, 286, 287, 288, 289, 290, 291, 292, 293, 294, 295, 296, 297, 298, 300, 301, 302, 303, 304, 305, 306]
set_option maxRecDepth 100000 in
theorem zMc_0 : ∀ e ∈ ([0, 1, 2, 3, 4, 5, 6, 7, 8, 9, 10, 11, 12, 13, 14, 15, 16, 17, 18, 19] : List Nat), zCw e ∈ zGood := List.forall_mem_cons.mpr ⟨zg_t 155 rfl rfl, List.forall_mem_cons.mpr ⟨zg_t 907 rfl rfl, List.forall_mem_cons.mpr ⟨zg_t 918 rfl rfl, List.forall_mem_cons.mpr ⟨zg_t 823 rfl rfl, List.forall_mem_cons.mpr ⟨zg_t 799 rfl rfl, List.forall_mem_cons.mpr ⟨zg_t 850 rfl rfl, List.forall_mem_cons.mpr ⟨zg_t 185 rfl rfl, List.forall_mem_cons.mpr ⟨zg_t 1014 rfl rfl, List.forall_mem_cons.mpr ⟨zg_t 1023 rfl rfl, List.forall_mem_cons.mpr ⟨zg_t 1033 rfl rfl, List.forall_mem_cons.mpr ⟨zg_t 1047 rfl rfl, List.forall_mem_cons.mpr ⟨zg_t 1043 rfl rfl, List.forall_mem_cons.mpr ⟨zg_t 1038 rfl rfl, List.forall_mem_cons.mpr ⟨zg_t 1058 rfl rfl, List.forall_mem_cons.mpr ⟨zg_t 1069 rfl rfl, List.forall_mem_cons.mpr ⟨zg_t 1073 rfl rfl, List.forall_mem_cons.mpr ⟨zg_t 1090 rfl rfl, List.forall_mem_cons.mpr ⟨zg_t 90 rfl rfl, List.forall_mem_cons.mpr ⟨zg_t 265 rfl rfl, List.forall_mem_cons.mpr ⟨zg_t 269 rfl rfl, fun _ h => nomatch h⟩⟩⟩⟩⟩⟩⟩⟩⟩⟩⟩⟩⟩⟩⟩⟩⟩⟩⟩⟩
set_option maxRecDepth 100000 in
theorem zMc_1 : ∀ e ∈ ([20, 21, 22, 23, 24, 25, 26, 27, 28, 29, 30, 31, 32, 33, 34, 35, 36, 37, 38, 39] : List Nat), zCw e ∈ zGood := List.forall_mem_cons.mpr ⟨zg_t 273 rfl rfl, List.forall_mem_cons.mpr ⟨zg_t 280 rfl rfl, List.forall_mem_cons.mpr ⟨zg_t 1019 rfl rfl, List.forall_mem_cons.mpr ⟨zg_t 768 rfl rfl, List.forall_mem_cons.mpr ⟨zg_t 772 rfl rfl, List.forall_mem_cons.mpr ⟨zg_t 288 rfl rfl, List.forall_mem_cons.mpr ⟨zg_t 293 rfl rfl, List.forall_mem_cons.mpr ⟨zg_t 305 rfl rfl, List.forall_mem_cons.mpr ⟨zg_t 328 rfl rfl, List.forall_mem_cons.mpr ⟨zg_t 332 rfl rfl, List.forall_mem_cons.mpr ⟨zg_t 1002 rfl rfl, List.forall_mem_cons.mpr ⟨zg_t 73 rfl rfl, List.forall_mem_cons.mpr ⟨zg_t 313 rfl rfl, List.forall_mem_cons.mpr ⟨zg_t 317 rfl rfl, List.forall_mem_cons.mpr ⟨zg_t 1117 rfl rfl, List.forall_mem_cons.mpr ⟨zg_t 1121 rfl rfl, List.forall_mem_cons.mpr ⟨zg_t 165 rfl rfl, List.forall_mem_cons.mpr ⟨zg_t 360 rfl rfl, List.forall_mem_cons.mpr ⟨zg_t 555 rfl rfl, List.forall_mem_cons.mpr ⟨zg_t 559 rfl rfl, fun _ h => nomatch h⟩⟩⟩⟩⟩⟩⟩⟩⟩⟩⟩⟩⟩⟩⟩⟩⟩⟩⟩⟩
set_option maxRecDepth 100000 in
theorem zMc_2 : ∀ e ∈ ([40, 41, 42, 43, 44, 45, 46, 47, 48, 49, 50, 51, 52, 53, 54, 55, 56, 57, 58, 59] : List Nat), zCw e ∈ zGood := List.forall_mem_cons.mpr ⟨zg_t 567 rfl rfl, List.forall_mem_cons.mpr ⟨zg_t 563 rfl rfl, List.forall_mem_cons.mpr ⟨zg_t 356 rfl rfl, List.forall_mem_cons.mpr ⟨zg_t 375 rfl rfl, List.forall_mem_cons.mpr ⟨zg_t 378 rfl rfl, List.forall_mem_cons.mpr ⟨zg_t 386 rfl rfl, List.forall_mem_cons.mpr ⟨zg_t 114 rfl rfl, List.forall_mem_cons.mpr ⟨zg_t 786 rfl rfl, List.forall_mem_cons.mpr ⟨zg_t 826 rfl rfl, List.forall_mem_cons.mpr ⟨zg_t 832 rfl rfl, List.forall_mem_cons.mpr ⟨zg_t 802 rfl rfl, List.forall_mem_cons.mpr ⟨zg_t 853 rfl rfl, List.forall_mem_cons.mpr ⟨zg_t 864 rfl rfl, List.forall_mem_cons.mpr ⟨zg_t 868 rfl rfl, List.forall_mem_cons.mpr ⟨zg_t 874 rfl rfl, List.forall_mem_cons.mpr ⟨zg_t 885 rfl rfl, List.forall_mem_cons.mpr ⟨zg_t 896 rfl rfl, List.forall_mem_cons.mpr ⟨zg_t 117 rfl rfl, List.forall_mem_cons.mpr ⟨zg_t 843 rfl rfl, List.forall_mem_cons.mpr ⟨zg_t 805 rfl rfl, fun _ h => nomatch h⟩⟩⟩⟩⟩⟩⟩⟩⟩⟩⟩⟩⟩⟩⟩⟩⟩⟩⟩⟩
set_option maxRecDepth 100000 in
theorem zMc_3 : ∀ e ∈ ([60, 61, 62, 63, 64, 65, 66, 67, 68, 69, 70, 71, 72, 73, 74, 75, 76, 77, 78, 79] : List Nat), zCw e ∈ zGood := List.forall_mem_cons.mpr ⟨zg_t 836 rfl rfl, List.forall_mem_cons.mpr ⟨zg_t 839 rfl rfl, List.forall_mem_cons.mpr ⟨zg_t 792 rfl rfl, List.forall_mem_cons.mpr ⟨zg_t 811 rfl rfl, List.forall_mem_cons.mpr ⟨zg_t 816 rfl rfl, List.forall_mem_cons.mpr ⟨zg_t 34 rfl rfl, List.forall_mem_cons.mpr ⟨zg_t 321 rfl rfl, List.forall_mem_cons.mpr ⟨zg_t 451 rfl rfl, List.forall_mem_cons.mpr ⟨zg_t 706 rfl rfl, List.forall_mem_cons.mpr ⟨zg_t 998 rfl rfl, List.forall_mem_cons.mpr ⟨zg_t 439 rfl rfl, List.forall_mem_cons.mpr ⟨zg_t 484 rfl rfl, List.forall_mem_cons.mpr ⟨zg_t 447 rfl rfl, List.forall_mem_cons.mpr ⟨zg_t 490 rfl rfl, List.forall_mem_cons.mpr ⟨zg_t 702 rfl rfl, List.forall_mem_cons.mpr ⟨zg_t 710 rfl rfl, List.forall_mem_cons.mpr ⟨zg_t 476 rfl rfl, List.forall_mem_cons.mpr ⟨zg_t 536 rfl rfl, List.forall_mem_cons.mpr ⟨zg_t 730 rfl rfl, List.forall_mem_cons.mpr ⟨zg_t 336 rfl rfl, fun _ h => nomatch h⟩⟩⟩⟩⟩⟩⟩⟩⟩⟩⟩⟩⟩⟩⟩⟩⟩⟩⟩⟩
set_option maxRecDepth 100000 in
theorem zMc_4 : ∀ e ∈ ([80, 81, 82, 83, 84, 85, 86, 87, 88, 89, 90, 91, 92, 93, 94, 95, 96, 97, 98, 99] : List Nat), zCw e ∈ zGood := List.forall_mem_cons.mpr ⟨zg_t 546 rfl rfl, List.forall_mem_cons.mpr ⟨zg_t 297 rfl rfl, List.forall_mem_cons.mpr ⟨zg_t 551 rfl rfl, List.forall_mem_cons.mpr ⟨zg_t 459 rfl rfl, List.forall_mem_cons.mpr ⟨zg_t 463 rfl rfl, List.forall_mem_cons.mpr ⟨zg_t 523 rfl rfl, List.forall_mem_cons.mpr ⟨zg_t 515 rfl rfl, List.forall_mem_cons.mpr ⟨zg_t 366 rfl rfl, List.forall_mem_cons.mpr ⟨zg_t 370 rfl rfl, List.forall_mem_cons.mpr ⟨zg_t 511 rfl rfl, List.forall_mem_cons.mpr ⟨zg_t 519 rfl rfl, List.forall_mem_cons.mpr ⟨zg_t 348 rfl rfl, List.forall_mem_cons.mpr ⟨zg_t 344 rfl rfl, List.forall_mem_cons.mpr ⟨zg_t 939 rfl rfl, List.forall_mem_cons.mpr ⟨zg_t 467 rfl rfl, List.forall_mem_cons.mpr ⟨zg_t 494 rfl rfl, List.forall_mem_cons.mpr ⟨zg_t 471 rfl rfl, List.forall_mem_cons.mpr ⟨zg_t 498 rfl rfl, List.forall_mem_cons.mpr ⟨zg_t 502 rfl rfl, List.forall_mem_cons.mpr ⟨zg_t 506 rfl rfl, fun _ h => nomatch h⟩⟩⟩⟩⟩⟩⟩⟩⟩⟩⟩⟩⟩⟩⟩⟩⟩⟩⟩⟩
set_option maxRecDepth 100000 in
theorem zMc_5 : ∀ e ∈ ([100, 101, 102, 103, 104, 105, 106, 107, 108, 109, 110, 111, 112, 113, 114, 115, 116, 117, 118, 119] : List Nat), zCw e ∈ zGood := List.forall_mem_cons.mpr ⟨zg_t 527 rfl rfl, List.forall_mem_cons.mpr ⟨zg_t 531 rfl rfl, List.forall_mem_cons.mpr ⟨zg_t 205 rfl rfl, List.forall_mem_cons.mpr ⟨zg_t 1102 rfl rfl, List.forall_mem_cons.mpr ⟨zg_t 1106 rfl rfl, List.forall_mem_cons.mpr ⟨zg_t 401 rfl rfl, List.forall_mem_cons.mpr ⟨zg_t 409 rfl rfl, List.forall_mem_cons.mpr ⟨zg_t 419 rfl rfl, List.forall_mem_cons.mpr ⟨zg_t 430 rfl rfl, List.forall_mem_cons.mpr ⟨zg_t 413 rfl rfl, List.forall_mem_cons.mpr ⟨zg_t 416 rfl rfl, List.forall_mem_cons.mpr ⟨zg_t 423 rfl rfl, List.forall_mem_cons.mpr ⟨zg_t 427 rfl rfl, List.forall_mem_cons.mpr ⟨zg_t 435 rfl rfl, List.forall_mem_cons.mpr ⟨zg_t 480 rfl rfl, List.forall_mem_cons.mpr ⟨zg_t 26 rfl rfl, List.forall_mem_cons.mpr ⟨zg_t 576 rfl rfl, List.forall_mem_cons.mpr ⟨zg_t 689 rfl rfl, List.forall_mem_cons.mpr ⟨zg_t 698 rfl rfl, List.forall_mem_cons.mpr ⟨zg_t 717 rfl rfl, fun _ h => nomatch h⟩⟩⟩⟩⟩⟩⟩⟩⟩⟩⟩⟩⟩⟩⟩⟩⟩⟩⟩⟩
set_option maxRecDepth 100000 in
theorem zMc_6 : ∀ e ∈ ([120, 121, 122, 123, 124, 125, 126, 127, 128, 129, 130, 131, 132, 133, 134, 135, 136, 137, 138, 139] : List Nat), zCw e ∈ zGood := List.forall_mem_cons.mpr ⟨zg_t 726 rfl rfl, List.forall_mem_cons.mpr ⟨zg_t 253 rfl rfl, List.forall_mem_cons.mpr ⟨zg_t 257 rfl rfl, List.forall_mem_cons.mpr ⟨zg_t 738 rfl rfl, List.forall_mem_cons.mpr ⟨zg_t 747 rfl rfl, List.forall_mem_cons.mpr ⟨zg_t 755 rfl rfl, List.forall_mem_cons.mpr ⟨zg_t 261 rfl rfl, List.forall_mem_cons.mpr ⟨zg_t 764 rfl rfl, List.forall_mem_cons.mpr ⟨zg_t 782 rfl rfl, List.forall_mem_cons.mpr ⟨zg_t 860 rfl rfl, List.forall_mem_cons.mpr ⟨zg_t 881 rfl rfl, List.forall_mem_cons.mpr ⟨zg_t 892 rfl rfl, List.forall_mem_cons.mpr ⟨zg_t 903 rfl rfl, List.forall_mem_cons.mpr ⟨zg_t 926 rfl rfl, List.forall_mem_cons.mpr ⟨zg_t 284 rfl rfl, List.forall_mem_cons.mpr ⟨zg_t 309 rfl rfl, List.forall_mem_cons.mpr ⟨zg_t 933 rfl rfl, List.forall_mem_cons.mpr ⟨zg_t 947 rfl rfl, List.forall_mem_cons.mpr ⟨zg_t 956 rfl rfl, List.forall_mem_cons.mpr ⟨zg_t 340 rfl rfl, fun _ h => nomatch h⟩⟩⟩⟩⟩⟩⟩⟩⟩⟩⟩⟩⟩⟩⟩⟩⟩⟩⟩⟩
set_option maxRecDepth 100000 in
theorem zMc_7 : ∀ e ∈ ([140, 141, 142, 143, 144, 145, 146, 147, 148, 149, 150, 151, 152, 153, 154, 155, 156, 157, 158, 159] : List Nat), zCw e ∈ zGood := List.forall_mem_cons.mpr ⟨zg_t 964 rfl rfl, List.forall_mem_cons.mpr ⟨zg_t 971 rfl rfl, List.forall_mem_cons.mpr ⟨zg_t 979 rfl rfl, List.forall_mem_cons.mpr ⟨zg_t 986 rfl rfl, List.forall_mem_cons.mpr ⟨zg_t 352 rfl rfl, List.forall_mem_cons.mpr ⟨zg_t 382 rfl rfl, List.forall_mem_cons.mpr ⟨zg_t 994 rfl rfl, List.forall_mem_cons.mpr ⟨zg_t 1010 rfl rfl, List.forall_mem_cons.mpr ⟨zg_t 1054 rfl rfl, List.forall_mem_cons.mpr ⟨zg_t 1065 rfl rfl, List.forall_mem_cons.mpr ⟨zg_t 1086 rfl rfl, List.forall_mem_cons.mpr ⟨zg_t 1098 rfl rfl, List.forall_mem_cons.mpr ⟨zg_t 397 rfl rfl, List.forall_mem_cons.mpr ⟨zg_t 405 rfl rfl, List.forall_mem_cons.mpr ⟨zg_t 1113 rfl rfl, List.forall_mem_cons.mpr ⟨zg_t 540 rfl rfl, List.forall_mem_cons.mpr ⟨zg_t 580 rfl rfl, List.forall_mem_cons.mpr ⟨zg_t 454 rfl rfl, List.forall_mem_cons.mpr ⟨zg_t 276 rfl rfl, List.forall_mem_cons.mpr ⟨zg_t 1077 rfl rfl, fun _ h => nomatch h⟩⟩⟩⟩⟩⟩⟩⟩⟩⟩⟩⟩⟩⟩⟩⟩⟩⟩⟩⟩
set_option maxRecDepth 100000 in
theorem zMc_8 : ∀ e ∈ ([160, 161, 162, 163, 164, 165, 166, 167, 168, 169, 170, 171, 172, 173, 174, 175, 176, 177, 178, 179] : List Nat), zCw e ∈ zGood := List.forall_mem_cons.mpr ⟨zg_t 1126 rfl rfl, List.forall_mem_cons.mpr ⟨zg_t 1265 rfl rfl, List.forall_mem_cons.mpr ⟨zg_t 1280 rfl rfl, List.forall_mem_cons.mpr ⟨zg_t 1292 rfl rfl, List.forall_mem_cons.mpr ⟨zg_t 1300 rfl rfl, List.forall_mem_cons.mpr ⟨zg_t 1273 rfl rfl, List.forall_mem_cons.mpr ⟨zg_t 1568 rfl rfl, List.forall_mem_cons.mpr ⟨zg_t 1296 rfl rfl, List.forall_mem_cons.mpr ⟨zg_t 1367 rfl rfl, List.forall_mem_cons.mpr ⟨zg_t 1284 rfl rfl, List.forall_mem_cons.mpr ⟨zg_t 1328 rfl rfl, List.forall_mem_cons.mpr ⟨zg_t 1324 rfl rfl, List.forall_mem_cons.mpr ⟨zg_t 1332 rfl rfl, List.forall_mem_cons.mpr ⟨zg_t 1352 rfl rfl, List.forall_mem_cons.mpr ⟨zg_t 1312 rfl rfl, List.forall_mem_cons.mpr ⟨zg_t 1344 rfl rfl, List.forall_mem_cons.mpr ⟨zg_t 1439 rfl rfl, List.forall_mem_cons.mpr ⟨zg_t 1391 rfl rfl, List.forall_mem_cons.mpr ⟨zg_t 1447 rfl rfl, List.forall_mem_cons.mpr ⟨zg_t 1336 rfl rfl, fun _ h => nomatch h⟩⟩⟩⟩⟩⟩⟩⟩⟩⟩⟩⟩⟩⟩⟩⟩⟩⟩⟩⟩
set_option maxRecDepth 100000 in
theorem zMc_9 : ∀ e ∈ ([180, 181, 182, 183, 184, 185, 186, 187, 188, 189, 190, 191, 192, 193, 194, 195, 196, 197, 198, 199] : List Nat), zCw e ∈ zGood := List.forall_mem_cons.mpr ⟨zg_t 1320 rfl rfl, List.forall_mem_cons.mpr ⟨zg_t 1411 rfl rfl, List.forall_mem_cons.mpr ⟨zg_t 1316 rfl rfl, List.forall_mem_cons.mpr ⟨zg_t 1277 rfl rfl, List.forall_mem_cons.mpr ⟨zg_t 1308 rfl rfl, List.forall_mem_cons.mpr ⟨zg_t 1363 rfl rfl, List.forall_mem_cons.mpr ⟨zg_t 1360 rfl rfl, List.forall_mem_cons.mpr ⟨zg_t 1524 rfl rfl, List.forall_mem_cons.mpr ⟨zg_t 1516 rfl rfl, List.forall_mem_cons.mpr ⟨zg_t 1520 rfl rfl, List.forall_mem_cons.mpr ⟨zg_t 1532 rfl rfl, List.forall_mem_cons.mpr ⟨zg_t 1540 rfl rfl, List.forall_mem_cons.mpr ⟨zg_t 1288 rfl rfl, List.forall_mem_cons.mpr ⟨zg_t 1269 rfl rfl, List.forall_mem_cons.mpr ⟨zg_t 1304 rfl rfl, List.forall_mem_cons.mpr ⟨zg_t 1348 rfl rfl, List.forall_mem_cons.mpr ⟨zg_t 1340 rfl rfl, List.forall_mem_cons.mpr ⟨zg_t 1356 rfl rfl, List.forall_mem_cons.mpr ⟨zg_t 1371 rfl rfl, List.forall_mem_cons.mpr ⟨zg_t 1375 rfl rfl, fun _ h => nomatch h⟩⟩⟩⟩⟩⟩⟩⟩⟩⟩⟩⟩⟩⟩⟩⟩⟩⟩⟩⟩
set_option maxRecDepth 100000 in
theorem zMc_10 : ∀ e ∈ ([200, 201, 202, 203, 204, 205, 206, 207, 208, 209, 210, 211, 212, 213, 214, 215, 216, 217, 218, 219] : List Nat), zCw e ∈ zGood := List.forall_mem_cons.mpr ⟨zg_t 1379 rfl rfl, List.forall_mem_cons.mpr ⟨zg_t 1387 rfl rfl, List.forall_mem_cons.mpr ⟨zg_t 1383 rfl rfl, List.forall_mem_cons.mpr ⟨zg_t 1399 rfl rfl, List.forall_mem_cons.mpr ⟨zg_t 1395 rfl rfl, List.forall_mem_cons.mpr ⟨zg_t 1403 rfl rfl, List.forall_mem_cons.mpr ⟨zg_t 1407 rfl rfl, List.forall_mem_cons.mpr ⟨zg_t 1419 rfl rfl, List.forall_mem_cons.mpr ⟨zg_t 1415 rfl rfl, List.forall_mem_cons.mpr ⟨zg_t 1443 rfl rfl, List.forall_mem_cons.mpr ⟨zg_t 1431 rfl rfl, List.forall_mem_cons.mpr ⟨zg_t 1435 rfl rfl, List.forall_mem_cons.mpr ⟨zg_t 1451 rfl rfl, List.forall_mem_cons.mpr ⟨zg_t 1455 rfl rfl, List.forall_mem_cons.mpr ⟨zg_t 1459 rfl rfl, List.forall_mem_cons.mpr ⟨zg_t 1463 rfl rfl, List.forall_mem_cons.mpr ⟨zg_t 1467 rfl rfl, List.forall_mem_cons.mpr ⟨zg_t 1427 rfl rfl, List.forall_mem_cons.mpr ⟨zg_t 1423 rfl rfl, List.forall_mem_cons.mpr ⟨zg_t 1471 rfl rfl, fun _ h => nomatch h⟩⟩⟩⟩⟩⟩⟩⟩⟩⟩⟩⟩⟩⟩⟩⟩⟩⟩⟩⟩
set_option maxRecDepth 100000 in
theorem zMc_11 : ∀ e ∈ ([220, 221, 222, 223, 224, 225, 226, 227, 228, 229, 230, 231, 232, 233, 234, 235, 236, 237, 238, 239] : List Nat), zCw e ∈ zGood := List.forall_mem_cons.mpr ⟨zg_t 1475 rfl rfl, List.forall_mem_cons.mpr ⟨zg_t 1479 rfl rfl, List.forall_mem_cons.mpr ⟨zg_t 1483 rfl rfl, List.forall_mem_cons.mpr ⟨zg_t 1495 rfl rfl, List.forall_mem_cons.mpr ⟨zg_t 1491 rfl rfl, List.forall_mem_cons.mpr ⟨zg_t 1487 rfl rfl, List.forall_mem_cons.mpr ⟨zg_t 1504 rfl rfl, List.forall_mem_cons.mpr ⟨zg_t 1500 rfl rfl, List.forall_mem_cons.mpr ⟨zg_t 1508 rfl rfl, List.forall_mem_cons.mpr ⟨zg_t 1548 rfl rfl, List.forall_mem_cons.mpr ⟨zg_t 1552 rfl rfl, List.forall_mem_cons.mpr ⟨zg_t 1544 rfl rfl, List.forall_mem_cons.mpr ⟨zg_t 1512 rfl rfl, List.forall_mem_cons.mpr ⟨zg_t 1528 rfl rfl, List.forall_mem_cons.mpr ⟨zg_t 1536 rfl rfl, List.forall_mem_cons.mpr ⟨zg_t 1556 rfl rfl, List.forall_mem_cons.mpr ⟨zg_t 1564 rfl rfl, List.forall_mem_cons.mpr ⟨zg_t 1560 rfl rfl, List.forall_mem_cons.mpr ⟨zg_t 1572 rfl rfl, List.forall_mem_cons.mpr ⟨zg_t 1584 rfl rfl, fun _ h => nomatch h⟩⟩⟩⟩⟩⟩⟩⟩⟩⟩⟩⟩⟩⟩⟩⟩⟩⟩⟩⟩
set_option maxRecDepth 100000 in
theorem zMc_12 : ∀ e ∈ ([240, 241, 242, 243, 244, 245, 246, 247, 248, 249, 250, 251, 252, 253, 254, 255, 256, 257, 258, 259] : List Nat), zCw e ∈ zGood := List.forall_mem_cons.mpr ⟨zg_t 1580 rfl rfl, List.forall_mem_cons.mpr ⟨zg_t 1576 rfl rfl, List.forall_mem_cons.mpr ⟨zg_t 1588 rfl rfl, List.forall_mem_cons.mpr ⟨zg_t 1605 rfl rfl, List.forall_mem_cons.mpr ⟨zg_t 1601 rfl rfl, List.forall_mem_cons.mpr ⟨zg_t 1596 rfl rfl, List.forall_mem_cons.mpr ⟨zg_t 1592 rfl rfl, List.forall_mem_cons.mpr ⟨zg_t 1609 rfl rfl, List.forall_mem_cons.mpr ⟨zg_t 1617 rfl rfl, List.forall_mem_cons.mpr ⟨zg_t 1613 rfl rfl, List.forall_mem_cons.mpr ⟨zg_t 1629 rfl rfl, List.forall_mem_cons.mpr ⟨zg_t 1632 rfl rfl, List.forall_mem_cons.mpr ⟨zg_t 1636 rfl rfl, List.forall_mem_cons.mpr ⟨zg_t 1625 rfl rfl, List.forall_mem_cons.mpr ⟨zg_t 1621 rfl rfl, List.forall_mem_cons.mpr ⟨zg_t 1640 rfl rfl, List.forall_mem_cons.mpr ⟨zg_t 1648 rfl rfl, List.forall_mem_cons.mpr ⟨zg_t 1644 rfl rfl, List.forall_mem_cons.mpr ⟨zg_t 1663 rfl rfl, List.forall_mem_cons.mpr ⟨zg_t 1667 rfl rfl, fun _ h => nomatch h⟩⟩⟩⟩⟩⟩⟩⟩⟩⟩⟩⟩⟩⟩⟩⟩⟩⟩⟩⟩
set_option maxRecDepth 100000 in
theorem zMc_13 : ∀ e ∈ ([260, 261, 262, 263, 264, 265, 266, 267, 268, 269, 270, 271, 272, 273, 274, 275, 276, 277, 278, 279] : List Nat), zCw e ∈ zGood := List.forall_mem_cons.mpr ⟨zg_t 1671 rfl rfl, List.forall_mem_cons.mpr ⟨zg_t 1690 rfl rfl, List.forall_mem_cons.mpr ⟨zg_t 1682 rfl rfl, List.forall_mem_cons.mpr ⟨zg_t 1686 rfl rfl, List.forall_mem_cons.mpr ⟨zg_t 1679 rfl rfl, List.forall_mem_cons.mpr ⟨zg_t 1694 rfl rfl, List.forall_mem_cons.mpr ⟨zg_t 1675 rfl rfl, List.forall_mem_cons.mpr ⟨zg_t 1698 rfl rfl, List.forall_mem_cons.mpr ⟨zg_t 1707 rfl rfl, List.forall_mem_cons.mpr ⟨zg_t 1702 rfl rfl, List.forall_mem_cons.mpr ⟨zg_t 570 rfl rfl, List.forall_mem_cons.mpr ⟨zg_t 684 rfl rfl, List.forall_mem_cons.mpr ⟨zg_t 694 rfl rfl, List.forall_mem_cons.mpr ⟨zg_t 713 rfl rfl, List.forall_mem_cons.mpr ⟨zg_t 722 rfl rfl, List.forall_mem_cons.mpr ⟨zg_t 734 rfl rfl, List.forall_mem_cons.mpr ⟨zg_t 743 rfl rfl, List.forall_mem_cons.mpr ⟨zg_t 751 rfl rfl, List.forall_mem_cons.mpr ⟨zg_t 760 rfl rfl, List.forall_mem_cons.mpr ⟨zg_t 778 rfl rfl, fun _ h => nomatch h⟩⟩⟩⟩⟩⟩⟩⟩⟩⟩⟩⟩⟩⟩⟩⟩⟩⟩⟩⟩
set_option maxRecDepth 100000 in
theorem zMc_14 : ∀ e ∈ ([280, 281, 282, 283, 284, 285, 286, 287, 288, 289, 290, 291, 292, 293, 294, 295, 296, 297, 298, 300] : List Nat), zCw e ∈ zGood := List.forall_mem_cons.mpr ⟨zg_t 856 rfl rfl, List.forall_mem_cons.mpr ⟨zg_t 877 rfl rfl, List.forall_mem_cons.mpr ⟨zg_t 888 rfl rfl, List.forall_mem_cons.mpr ⟨zg_t 899 rfl rfl, List.forall_mem_cons.mpr ⟨zg_t 922 rfl rfl, List.forall_mem_cons.mpr ⟨zg_t 929 rfl rfl, List.forall_mem_cons.mpr ⟨zg_t 943 rfl rfl, List.forall_mem_cons.mpr ⟨zg_t 952 rfl rfl, List.forall_mem_cons.mpr ⟨zg_t 960 rfl rfl, List.forall_mem_cons.mpr ⟨zg_t 967 rfl rfl, List.forall_mem_cons.mpr ⟨zg_t 975 rfl rfl, List.forall_mem_cons.mpr ⟨zg_t 982 rfl rfl, List.forall_mem_cons.mpr ⟨zg_t 990 rfl rfl, List.forall_mem_cons.mpr ⟨zg_t 1006 rfl rfl, List.forall_mem_cons.mpr ⟨zg_t 1050 rfl rfl, List.forall_mem_cons.mpr ⟨zg_t 1061 rfl rfl, List.forall_mem_cons.mpr ⟨zg_t 1082 rfl rfl, List.forall_mem_cons.mpr ⟨zg_t 1094 rfl rfl, List.forall_mem_cons.mpr ⟨zg_t 1109 rfl rfl, List.forall_mem_cons.mpr ⟨zg_t 775 rfl rfl, fun _ h => nomatch h⟩⟩⟩⟩⟩⟩⟩⟩⟩⟩⟩⟩⟩⟩⟩⟩⟩⟩⟩⟩
set_option maxRecDepth 100000 in
theorem zMc_15 : ∀ e ∈ ([301, 302, 303, 304, 305, 306] : List Nat), zCw e ∈ zGood := List.forall_mem_cons.mpr ⟨zg_t 300 rfl rfl, List.forall_mem_cons.mpr ⟨zg_t 389 rfl rfl, List.forall_mem_cons.mpr ⟨zg_t 1652 rfl rfl, List.forall_mem_cons.mpr ⟨zg_t 1655 rfl rfl, List.forall_mem_cons.mpr ⟨zg_t 792 rfl rfl, List.forall_mem_cons.mpr ⟨zg_t 792 rfl rfl, fun _ h => nomatch h⟩⟩⟩⟩⟩⟩
set_option maxRecDepth 100000 in
theorem zMc_ok : ∀ e ∈ zMc, zCw e ∈ zGood := List.forall_mem_append.mpr ⟨zMc_0, List.forall_mem_append.mpr ⟨zMc_1, List.forall_mem_append.mpr ⟨zMc_2, List.forall_mem_append.mpr ⟨zMc_3, List.forall_mem_append.mpr ⟨zMc_4, List.forall_mem_append.mpr ⟨zMc_5, List.forall_mem_append.mpr ⟨zMc_6, List.forall_mem_append.mpr ⟨zMc_7, List.forall_mem_append.mpr ⟨zMc_8, List.forall_mem_append.mpr ⟨zMc_9, List.forall_mem_append.mpr ⟨zMc_10, List.forall_mem_append.mpr ⟨zMc_11, List.forall_mem_append.mpr ⟨zMc_12, List.forall_mem_append.mpr ⟨zMc_13, List.forall_mem_append.mpr ⟨zMc_14, zMc_15⟩⟩⟩⟩⟩⟩⟩⟩⟩⟩⟩⟩⟩⟩⟩
def zMi : List (Nat) := [(0), (1), (2), (3), (4), (5), (6), (7), (8), (9), (10), (11), (12), (13), (14), (15), (16), (17), (18), (19), (20), (21), (22), (23), (24), (25), (26), (27), (28), (29), (30), (31), (32), (33), (34), (35), (36), (37), (38), (39), (40), (41), (42), (43), (44), (45), (46), (47), (48), (49), (50), (51), (52), (53), (54), (55), (56), (57), (58), (59), (60), (61), (62), (63), (64), (65), (66), (67), (68), (69), (70), (71), (72), (73), (74), (75), (76), (77), (78), (79), (80), (81), (82), (83), (84), (85), (86), (87), (88), (89), (90), (91), (92), (93), (94), (95), (96), (97), (98), (99), (100), (101), (102), (103), (104), (105), (106), (107), (108), (109), (110), (111), (112), (113), (114), (115), (116), (117), (118), (119), (120), (121), (122), (123), (124), (125), (126), (127), (128), (129), (130), (131), (132), (133), (134), (135), (136), (137), (138), (139), (140), (141), (142), (143), (144), (145), (146), (147), (148), (149), (150), (151), (152), (153), (154), (155), (156), (157), (158), (159), (160), (161), (162), (163), (164), (165), (166), (167), (168), (169), (170), (171), (172), (173), (174), (175), (176), (177), (178), (179), (180), (181), (182), (183), (184), (185), (186), (187), (188), (189), (190), (191), (192), (193), (194), (195), (196), (197), (198), (199), (200), (201), (202), (203), (204), (205), (206), (207), (208), (209), (210), (211), (212), (213), (214), (215), (216), (217), (218), (219), (220), (221), (222), (223), (224), (225), (226), (227), (228), (229), (230), (231), (232), (233), (234), (235), (236), (237), (238), (239), (240), (241), (242), (243), (244), (245), (246), (247), (248), (249), (250), (251), (252), (253), (254), (255), (256), (257), (258), (259), (260), (261), (262), (263), (264), (265), (266), (267), (268), (269), (270), (271), (272), (273), (274), (275), (276), (277), (278), (279), (280), (281), (282), (283), (284), (285), (286), (287), (288), (289), (290), (291), (292), (293), (294), (295), (296), (297), (298), (300), (301), (302), (303), (304), (305), (306)]
def zMip : List Nat := [7, 7, 7, 7, 7, 7, 9, 9, 9, 9, 9, 9, 9, 9, 9, 9, 9, 4, 4, 4, 4, 4, 4, 4, 4, 4, 4, 4, 4, 4, 4, 3, 3, 3, 3, 3, 8, 8, 8, 8, 8, 8, 8, 8, 8, 8, 6, 6, 6, 6, 6, 6, 6, 6, 6, 6, 6, 5, 5, 5, 5, 5, 5, 5, 5, 2, 2, 2, 2, 2, 2, 2, 2, 2, 2, 2, 2, 2, 2, 2, 2, 2, 2, 2, 2, 2, 2, 2, 2, 2, 2, 2, 2, 2, 2, 2, 2, 2, 2, 2, 2, 2, 10, 10, 10, 10, 10, 10, 10, 10, 10, 10, 10, 10, 10, 1, 1, 1, 1, 1, 1, 1, 1, 1, 1, 1, 1, 1, 1, 1, 1, 1, 1, 1, 1, 1, 1, 1, 1, 1, 1, 1, 1, 1, 1, 1, 1, 1, 1, 1, 1, 1, 1, 1, 1, 1, 1, 1, 1, 1, 11, 11, 11, 11, 11, 11, 11, 11, 11, 11, 11, 11, 11, 11, 11, 11, 11, 11, 11, 11, 11, 11, 11, 11, 11, 11, 11, 11, 11, 11, 11, 11, 11, 11, 11, 11, 11, 11, 11, 11, 11, 11, 11, 11, 11, 11, 11, 11, 11, 11, 11, 11, 11, 11, 11, 11, 11, 11, 11, 11, 11, 11, 11, 11, 11, 11, 11, 11, 11, 11, 11, 11, 11, 11, 11, 11, 11, 11, 11, 11, 11, 11, 11, 11, 11, 11, 11, 11, 11, 11, 11, 11, 11, 11, 11, 11, 11, 11, 11, 11, 11, 11, 11, 11, 11, 11, 11, 11, 11, 11, 0, 0, 0, 0, 0, 0, 0, 0, 0, 0, 0, 0, 0, 0, 0, 0, 0, 0, 0, 0, 0, 0, 0, 0, 0, 0, 0, 0, 0, 19, 19, 20, 21, 21, 5, 5]
theorem zMi_c : zPl zMi zMip (fun e => .initialized (zYn e).cls) = true := by decide +kernel
theorem zMi_ok : ∀ e ∈ zMi, ((fun e => .initialized (zYn e).cls)) e ∈ zGood := zPl_ok zMi_c
def zMs : List (Nat) := [(8), (44), (58), (59), (60), (61), (107), (108), (110), (156), (157), (158), (159), (162), (185), (251), (262), (270), (271), (272), (273), (274), (275), (276), (277), (278), (279), (280), (281), (282), (283), (284), (285), (286), (287), (288), (289), (290), (291), (292), (293), (294), (295), (296), (297), (298), (300), (301), (302), (303), (304)]
def zMsp : List Nat := [1022, 377, 842, 804, 835, 838, 418, 429, 415, 579, 453, 275, 1076, 1279, 1362, 1631, 1681, 569, 683, 693, 712, 721, 733, 742, 750, 759, 777, 855, 876, 887, 898, 921, 928, 942, 951, 959, 966, 974, 981, 989, 1005, 1049, 1060, 1081, 1093, 1108, 774, 299, 388, 1651, 1654]
theorem zMs_c : zPl zMs zMsp (fun e => .static (zYn e)) = true := by decide +kernel
theorem zMs_ok : ∀ e ∈ zMs, ((fun e => .static (zYn e))) e ∈ zGood := zPl_ok zMs_c
def zMn : List (Nat) := [(0), (1), (2), (3), (4), (5), (6), (7), (9), (10), (11), (12), (13), (14), (15), (16), (17), (18), (19), (20), (21), (22), (23), (24), (25), (26), (27), (28), (29), (30), (31), (32), (33), (34), (35), (36), (37), (38), (39), (40), (41), (42), (43), (45), (46), (47), (48), (49), (50), (51), (52), (53), (54), (55), (56), (57), (62), (63), (64), (65), (66), (67), (68), (69), (70), (71), (72), (73), (74), (75), (76), (77), (78), (79), (80), (81), (82), (83), (84), (85), (86), (87), (88), (89), (90), (91), (92), (93), (94), (95), (96), (97), (98), (99), (100), (101), (102), (103), (104), (105), (106), (109), (111), (112), (113), (114), (115), (116), (117), (118), (119), (120), (121), (122), (123), (124), (125), (126), (127), (128), (129), (130), (131), (132), (133), (134), (135), (136), (137), (138), (139), (140), (141), (142), (143), (144), (145), (146), (147), (148), (149), (150), (151), (152), (153), (154), (155), (160), (161), (163), (164), (165), (166), (167), (168), (169), (170), (171), (172), (173), (174), (175), (176), (177), (178), (179), (180), (181), (182), (183), (184), (186), (187), (188), (189), (190), (191), (192), (193), (194), (195), (196), (197), (198), (199), (200), (201), (202), (203), (204), (205), (206), (207), (208), (209), (210), (211), (212), (213), (214), (215), (216), (217), (218), (219), (220), (221), (222), (223), (224), (225), (226), (227), (228), (229), (230), (231), (232), (233), (234), (235), (236), (237), (238), (239), (240), (241), (242), (243), (244), (245), (246), (247), (248), (249), (250), (252), (253), (254), (255), (256), (257), (258), (259), (260), (261), (263), (264), (265), (266), (267), (268), (269), (305), (306)]
def zMnp : List Nat := [154, 905, 917, 822, 798, 849, 184, 1012, 1032, 1046, 1042, 1036, 1056, 1067, 1072, 1088, 89, 263, 268, 272, 278, 1017, 766, 771, 286, 292, 303, 326, 331, 1000, 72, 311, 316, 1115, 1119, 164, 359, 553, 558, 566, 562, 354, 374, 384, 113, 784, 825, 831, 801, 852, 862, 866, 873, 883, 894, 116, 791, 810, 815, 33, 319, 449, 704, 996, 437, 482, 445, 488, 700, 708, 474, 534, 728, 334, 544, 295, 550, 458, 461, 521, 513, 364, 369, 509, 518, 346, 342, 937, 465, 492, 469, 496, 500, 504, 526, 530, 204, 1100, 1104, 399, 407, 412, 422, 426, 433, 478, 25, 574, 687, 696, 715, 724, 251, 255, 736, 745, 753, 259, 762, 780, 858, 879, 890, 901, 924, 282, 307, 931, 945, 954, 338, 962, 969, 977, 984, 350, 380, 992, 1008, 1052, 1063, 1084, 1096, 395, 403, 1111, 538, 1125, 1263, 1291, 1299, 1272, 1567, 1295, 1366, 1283, 1327, 1323, 1331, 1351, 1311, 1343, 1438, 1390, 1446, 1335, 1319, 1410, 1315, 1276, 1307, 1359, 1523, 1515, 1519, 1531, 1539, 1287, 1267, 1302, 1347, 1338, 1354, 1369, 1373, 1377, 1386, 1381, 1398, 1393, 1401, 1405, 1418, 1413, 1442, 1430, 1434, 1450, 1454, 1458, 1462, 1466, 1426, 1421, 1469, 1473, 1477, 1481, 1494, 1490, 1485, 1503, 1498, 1506, 1547, 1551, 1543, 1510, 1526, 1534, 1554, 1563, 1558, 1570, 1583, 1579, 1574, 1586, 1604, 1600, 1595, 1590, 1607, 1616, 1611, 1628, 1635, 1624, 1619, 1638, 1647, 1642, 1661, 1665, 1669, 1689, 1685, 1678, 1693, 1673, 1696, 1706, 1700, 791, 791]
theorem zMn_c : zPl zMn zMnp (fun e => .instanceMethod (zYn e)) = true := by decide +kernel
theorem zMn_ok : ∀ e ∈ zMn, ((fun e => .instanceMethod (zYn e))) e ∈ zGood := zPl_ok zMn_c
def zMv : List (Nat) := [(1), (7), (12), (13), (14), (16), (18), (21), (22), (23), (25), (27), (28), (30), (32), (34), (35), (38), (42), (45), (47), (52), (53), (55), (56), (66), (67), (68), (69), (70), (71), (72), (73), (74), (75), (76), (77), (78), (79), (80), (81), (84), (85), (86), (87), (89), (91), (92), (93), (94), (95), (96), (97), (98), (99), (103), (104), (105), (106), (113), (114), (116), (117), (118), (119), (120), (121), (122), (123), (124), (125), (126), (127), (128), (129), (130), (131), (132), (133), (134), (135), (136), (137), (138), (139), (140), (141), (142), (143), (144), (145), (146), (147), (148), (149), (150), (151), (152), (153), (154), (155), (161), (193), (194), (196), (197), (198), (199), (200), (202), (204), (205), (206), (208), (218), (219), (220), (221), (222), (225), (227), (228), (232), (233), (234), (235), (237), (238), (241), (242), (246), (247), (249), (254), (255), (257), (258), (259), (260), (266), (267), (269)]
def zMvp : List Nat := [906, 1013, 1037, 1057, 1068, 1089, 264, 279, 1018, 767, 287, 304, 327, 1001, 312, 1116, 1120, 554, 355, 385, 785, 863, 867, 884, 895, 320, 450, 705, 997, 438, 483, 446, 489, 701, 709, 475, 535, 729, 335, 545, 296, 462, 522, 514, 365, 510, 347, 343, 938, 466, 493, 470, 497, 501, 505, 1101, 1105, 400, 408, 434, 479, 575, 688, 697, 716, 725, 252, 256, 737, 746, 754, 260, 763, 781, 859, 880, 891, 902, 925, 283, 308, 932, 946, 955, 339, 963, 970, 978, 985, 351, 381, 993, 1009, 1053, 1064, 1085, 1097, 396, 404, 1112, 539, 1264, 1268, 1303, 1339, 1355, 1370, 1374, 1378, 1382, 1394, 1402, 1406, 1414, 1422, 1470, 1474, 1478, 1482, 1486, 1499, 1507, 1511, 1527, 1535, 1555, 1559, 1571, 1575, 1587, 1591, 1608, 1612, 1620, 1639, 1643, 1662, 1666, 1670, 1674, 1697, 1701]
theorem zMv_c : zPl zMv zMvp (fun e => .selects (zYn e).cls (zYn e) (zYn e)) = true := by decide +kernel
theorem zMv_ok : ∀ e ∈ zMv, ((fun e => .selects (zYn e).cls (zYn e) (zYn e))) e ∈ zGood := zPl_ok zMv_c
def zMw : List Nat := [2, 9, 10, 11, 15, 19, 20, 24, 26, 29, 33, 37, 39, 40, 41, 43, 49, 54, 82, 83, 88, 90, 100, 101, 109, 111, 112, 163, 164, 165, 166, 167, 168, 169, 170, 171, 172, 173, 174, 175, 176, 177, 178, 179, 180, 181, 182, 183, 184, 186, 187, 188, 189, 190, 191, 192, 195, 201, 203, 207, 209, 210, 211, 212, 213, 214, 215, 216, 217, 223, 224, 226, 229, 230, 231, 236, 239, 240, 243, 244, 245, 248, 250, 252, 253, 256, 261, 263, 264, 265, 268]
def zMwp : List Nat := [23, 24, 26, 25, 27, 0, 1, 20, 2, 4, 3, 5, 16, 18, 17, 7, 21, 22, 15, 11, 6, 12, 13, 14, 8, 9, 10, 32, 34, 28, 76, 33, 47, 30, 40, 39, 41, 45, 36, 43, 56, 49, 58, 42, 38, 51, 37, 29, 35, 46, 69, 67, 68, 70, 71, 31, 44, 48, 50, 52, 57, 54, 55, 59, 60, 61, 62, 63, 53, 65, 64, 66, 73, 74, 72, 75, 78, 77, 81, 80, 79, 82, 84, 85, 83, 86, 89, 88, 87, 90, 91]
def zPs (es : List Nat) (ps : List Nat) : Bool := es.length == ps.length && (es.zip ps).all (fun q => decide ((k2_sels lw_privs)[q.2]? = some (.selects (zYn q.1).cls (zYn q.1) (zYn q.1))) && goodWord (.selects (zYn q.1).cls (zYn q.1) (zYn q.1)))
theorem zMw_c : zPs zMw zMwp = true := by decide +kernel
theorem zMw_ok : ∀ e ∈ zMw, Cond.selects (zYn e).cls (zYn e) (zYn e) ∈ zGood := by
  intro e he
  have h := zMw_c
  unfold zPs at h
  rw [Bool.and_eq_true] at h
  obtain ⟨p, hp⟩ := zPl_zip zMw zMwp (by simpa using h.1) e he
  have h1 := List.all_eq_true.mp h.2 _ hp
  rw [Bool.and_eq_true, decide_eq_true_eq] at h1
  exact zg_s p h1.1 h1.2
theorem zMsel : ∀ e ∈ zIV, e.2.2 ∈ zMv ∨ e.2.2 ∈ zMw := by decide +kernel
/-- pcs of labels -/
def zPcT : List (List Nat) := [[0], [0, 10, 27, 36, 63, 79, 85], [0, 3, 43, 49], [0], [0], [0], [0], [0, 17, 37, 66, 69, 106, 112, 118], [0, 12, 29, 30], [0, 3, 25, 28, 66, 93, 99, 117, 144], [0, 27, 28], [0, 11, 14, 50, 56], [0, 6, 40, 46], [0, 6, 47, 50, 56], [0, 12, 45, 51], [0, 17, 26, 45, 53, 85, 135, 141], [0, 14, 48, 54], [0], [0, 14, 37, 68], [0, 2, 23, 25, 65], [0, 2, 33, 39], [0, 12, 16, 22], [0], [0, 7, 43], [0, 5, 48, 54], [0, 7, 43], [0, 9, 78, 84], [0, 4, 39, 45], [0, 9, 68], [0, 6, 42, 48], [0, 5, 41, 47], [0, 19, 43], [0, 12], [0, 9, 34], [0, 11, 12], [0], [0], [0, 7, 36, 42], [0, 18, 63, 87, 139, 147, 162], [0, 6, 44, 50], [0, 5, 39, 47, 53], [0, 9, 70, 76], [0, 23, 32, 53], [0, 16, 55, 108, 116, 122], [0, 4, 31, 37], [0, 17, 19, 41, 78], [0], [0], [0, 12, 78], [0, 12], [0, 13, 31, 36, 104], [0], [0, 11, 12], [0, 36, 44, 49, 54, 59, 64], [0, 12, 27, 31], [0, 12, 16, 24], [0, 12, 16, 24], [0], [0], [0], [0, 10, 11], [0], [0, 22, 54, 57, 79, 137, 149, 155], [0, 7, 53, 60, 66], [0, 17, 56, 114, 120], [0], [0, 18, 49, 51, 81], [0, 12, 16, 17], [0, 12, 16, 17], [0, 13, 14], [0, 18, 20, 33, 34], [0, 7, 31], [0, 16, 18, 49, 51, 68, 70, 87, 100, 101], [0, 28, 29], [0, 10, 12, 34, 40], [0, 12, 48, 50, 82, 88], [0, 10, 19, 21], [0], [0, 12, 20], [0], [0, 15, 29, 34], [0], [0, 4, 27, 33], [0, 7, 22, 28], [0, 28, 29], [0, 17, 21, 22], [0, 15, 16], [0, 9, 36, 52], [0, 4, 40, 46], [0, 2, 38, 44], [0, 2, 36, 42], [0, 17, 18], [0, 4, 26, 32], [0], [0, 10, 22, 23], [0], [0, 10, 31, 35, 36], [0], [0, 2, 18], [0, 9, 43, 81, 87], [0, 16, 23, 71], [0, 20, 45], [0], [0, 13, 14], [0], [0], [0, 4, 37, 43], [0], [0], [0, 19, 39, 89, 91, 94, 100, 129], [0, 92, 94, 96, 98], [0, 2, 45], [0, 5, 33], [0, 84, 90, 116, 122, 128, 136], [0, 84, 93, 122, 130, 139, 147, 157], [0], [0], [0], [0], [0], [0], [0], [0], [0], [0], [0], [0], [0], [0], [0], [0], [0], [0], [0], [0], [0], [0], [0], [0], [0], [0], [0, 32, 50, 56], [0], [0, 33], [0], [0], [0], [0], [0], [0], [0], [0], [0], [0, 14, 27, 64, 82], [0], [0, 26, 40, 71, 94, 111, 125, 157, 163], [], [0, 10, 14, 15], [0, 12, 13], [0, 11, 14, 37, 50], [0], [0], [0, 14, 15], [0], [0], [0, 2, 27], [0, 2, 27], [0, 10, 39, 49, 51, 85], [0], [0], [0], [0], [0], [0, 14, 15], [0], [0], [0, 15, 16], [0], [0, 4, 29], [0, 4, 28, 29, 37], [0, 2, 21, 23, 31, 89, 93, 94, 112, 115], [0, 8, 20, 42, 48, 67], [0, 22, 23], [0, 12, 25], [0, 16, 18, 49, 51, 79, 90, 92], [0, 40, 48, 58, 66, 74, 83], [0, 10, 20], [0, 4, 30], [0, 10, 20], [0], [0, 10, 29, 31], [0, 12, 14, 35], [0, 12, 20], [0], [0], [0, 4, 42, 43, 50], [0, 14, 18, 43, 49, 70, 105], [0], [0, 14, 31], [0], [0], [0, 15, 29, 34], [0, 14, 37, 42], [0, 14, 19], [0, 14, 36, 41], [0, 16, 28, 29, 30], [0, 22, 23], [0, 6, 32, 66, 67, 90, 96, 103, 109], [0, 14], [0, 107, 133, 137, 161, 165], [0], [0, 30, 72], [0], [0, 37, 67, 74, 118], [0, 7, 47, 99, 140, 161, 162], [0, 49, 50, 170], [0, 98], [0, 50, 66, 67, 87, 106, 118, 121], [0, 20, 21, 22, 45, 46, 47, 112, 127, 131, 145, 173, 176, 204], [0, 15, 35, 40], [0, 15, 52, 53], [0, 15, 52, 53], [0, 14, 16, 38, 50, 51], [0, 8, 62, 72, 75, 81, 97, 100], [0, 6, 32], [0, 14], [0, 8, 42, 43, 51], [0], [0, 10, 34, 86, 89, 90, 96, 102, 106, 145, 146, 154], [0, 4, 27, 30, 38], [0, 10, 39, 40, 56, 57, 68, 111, 112, 126, 140, 144, 145, 149], [0, 9, 60, 72, 73, 103, 106, 143, 144, 186, 192], [0], [0], [0], [0], [0, 16, 50, 54, 63], [0, 14, 34, 39], [0, 14, 28, 43, 47], [0, 5, 57, 58, 86, 91, 92, 99], [0, 14, 35, 38, 49, 104, 105, 120, 121, 134, 135, 138, 144, 152, 186, 197, 198, 204], [0, 21, 26], [0, 15, 29, 44, 50], [0, 4, 33, 34, 42], [0, 32, 33, 73, 76], [0, 11, 32, 35, 39, 71, 72, 79, 86, 92], [0], [0, 19, 37, 62, 72, 74, 91], [0, 4, 40, 41, 49], [0, 20, 21, 22, 38, 50, 51, 52, 78, 79], [0, 6, 40, 41, 48], [0, 4, 24], [0, 9, 42, 46, 47, 54], [0, 14, 56, 58, 63, 69, 78, 80], [0, 14, 38, 43], [0, 14, 30, 39, 46], [0, 5, 34, 57, 64, 88, 99, 108, 113, 119], [0, 14], [0, 14, 26, 57, 63, 69], [0, 16, 31], [0], [0, 32, 33], [0, 92, 94, 96, 98], [0, 12, 74, 86, 87], [0, 27, 39, 65, 67, 79, 81, 87, 89, 105], [0, 56, 67, 102, 113, 124, 135], [0, 10, 36, 47, 76, 77, 92, 98], [0, 13, 25, 59], [0], [0, 28, 40, 62, 78, 90, 102, 124, 130], [0, 12, 15, 18], [0, 19, 23, 27, 31], [0, 12, 15, 18], [0, 15, 19, 23], [0, 13, 17, 21], [0, 13, 17, 21], [0, 13, 17, 21], [0, 15, 16, 20, 24], [0, 12, 15], [0, 15, 16, 20, 24, 28], [0, 12, 15, 18], [0, 13, 17], [0, 13, 17], [0, 12, 15], [0, 12, 15], [0, 12, 15, 18], [0, 12, 15, 18], [0, 12, 15], [0, 12, 15, 18], [0, 12, 15, 18], [0, 12, 15], [0, 13, 17, 21], [0, 15, 16, 20, 24, 28], [0, 13, 17, 21], [0, 15, 19, 23], [0, 12, 15], [0, 12, 15], [0, 12, 15, 18], [0, 11, 14], [0, 23, 216, 252, 269, 272, 356, 373, 376, 412, 429, 432, 492, 509, 512, 560, 577, 580, 593, 606, 654, 671, 674, 722, 739, 742, 790, 807, 808, 814, 817, 842, 878, 895, 898, 946, 963, 964, 970, 973, 1009, 1026, 1029, 1077, 1094, 1097, 1145, 1162, 1165, 1201, 1218, 1221, 1257, 1274, 1277, 1290, 1303, 1339, 1356, 1359, 1395, 1412, 1415, 1451, 1468, 1471, 1484, 1520, 1537, 1540, 1576, 1593, 1596, 1632, 1649, 1652, 1700, 1717, 1720, 1733, 1758, 1806, 1823, 1824, 1830, 1833, 1881, 1898, 1901, 1961, 1978, 1981, 2017, 2034, 2037, 2073, 2090, 2093, 2129, 2146, 2149, 2162, 2175, 2199, 2216, 2219, 2233, 2239], [0, 9, 10], [0, 9, 10], [0], [0, 12], [0, 10, 11], [0, 22, 54, 57, 79, 137, 149, 155], [0, 22, 54, 57, 79, 137, 149, 155]]
def zPc (m : Nat) (l : Int) : Nat := (zPcT.getD m []).getD l.toNat 0
theorem zDesc : ∀ m, m < 307 → (parseMethodDescriptor (zYn m).desc).map (fun d => d.parameters.length) = some (if zKd m = 0 then zNa m else zNa m - 1) := by decide +kernel
theorem zNamesA : ∀ m, m < 307 → (zYn m).cls = zCn (zOw m) := by decide +kernel
theorem zPlain : ∀ m, m < 307 → plainFor (zYn m) = true := by decide +kernel
theorem zNames : ∀ m, m < 307 → (zYn m).cls = zCn (zOw m) ∧ (zYn m).cls ≠ "java/lang/invoke/MethodHandle" ∧ (zYn m).cls ≠ "java/lang/invoke/VarHandle" ∧ (zKd m = 1 ↔ (zYn m).name = "<init>") ∧ zMl m ≤ 20 := by decide +kernel
