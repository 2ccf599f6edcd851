section
/-! THE PROGRAM: each method by blocks; written by wip/whole/gen_code.py out of claim/JAVAP.txt, claim/JDK.txt -/
-- 0 BudgetSearch.init ()V
def zb_0 : List (List Instr) := [
  [.aload 0, .invokeinterface 57 1, .aload 0, .iconst 0, .newarray .int, .putfield 0, .return_]]
-- 1 BudgetSearch.leastFor (LServiceBudgets$State;I)I
def zb_1 : List (List Instr) := [
  [.aload 1, .iload 2, .invokeinterface 91 2, .ifCond .ne 1, .iconst (-1), .ireturn],
  [.aload 0, .getfield 0, .arraylength, .ifCond .ne 2, .aload 0, .iconst 6012, .newarray .int, .putfield 0, .goto_w 2],
  [.aload 1, .iload 2, .invokeinterface 87 2, .istore 3, .iconst 0, .istore 4, .goto_w 3],
  [.iload 4, .iconst 1000, .if_icmp .gt 6, .aload 0, .aload 1, .iload 2, .iconst 0, .iload 4, .iconst 1, .invokeinterface 62 6, .invokeinterface 60 1, .ifCond .eq 4, .iload 4, .ireturn],
  [.iload 4, .iconst 500, .if_icmp .gt 5, .aload 0, .aload 1, .iload 3, .iload 4, .invokeinterface 2 4, .goto_w 5],
  [.iinc 4 1, .goto 3],
  [.iconst (-1), .ireturn]]
-- 2 BudgetSearch.keepOutcomes (LServiceBudgets$State;II)V
def zb_2 : List (List Instr) := [
  [.iconst 0, .istore 4, .goto_w 1],
  [.iload 4, .aload 1, .getfield 448, .if_icmp .ge 3, .iload 2, .iload 4, .invokeinterface 158 2, .ifCond .eq 2, .aload 0, .getfield 0, .iload 3, .iconst 12, .imul, .iload 4, .iadd, .aload 0, .aload 1, .iload 4, .iconst 0, .iload 3, .iconst 1, .invokeinterface 62 6, .iastore, .goto_w 2],
  [.iinc 4 1, .goto 1],
  [.return_]]
-- 3 BudgetSearch.ask (LServiceBudgets$State;IIII)I
def zb_3 : List (List Instr) := [
  [.aload 0, .getfield 0, .iload 4, .iconst 12, .imul, .aload 1, .getfield 451, .iconst 1, .aaload, .iload 2, .iaload, .iadd, .iaload, .ireturn]]
-- 4 BudgetSearch.noteFailure (IIII)V
def zb_4 : List (List Instr) := [
  [.return_]]
-- 5 BudgetSearch.noteMissing ()V
def zb_5 : List (List Instr) := [
  [.return_]]
-- 6 FailureSets.init ()V
def zb_6 : List (List Instr) := [
  [.aload 0, .pop, .aload 0, .iconst 12, .iconst 64, .multianewarray 1 2, .putfield 64, .aload 0, .iconst 64, .newarray .long, .putfield 65, .aload 0, .iconst 0, .newarray .double, .putfield 66, .return_]]
-- 7 FailureSets.fill (LServiceBudgets$State;LServiceBudgets$Graph;)V
def zb_7 : List (List Instr) := [
  [.iconst 1, .iconst 1, .aload 1, .getfield 448, .ishl, .iconst 6, .ishr, .invokeinterface 300 2, .istore 3, .iconst 0, .istore 4, .goto_w 1],
  [.iload 4, .aload 2, .invokeinterface 22 1, .if_icmp .ge 7, .aload 2, .iload 4, .invokeinterface 21 2, .istore 5, .iconst 0, .istore 6, .goto_w 2],
  [.iload 6, .iload 3, .if_icmp .ge 3, .aload 0, .getfield 64, .iload 5, .aaload, .iload 6, .iload 5, .iload 6, .invokeinterface 8 2, .lastore, .iinc 6 1, .goto 2],
  [.iconst 0, .istore 6, .goto_w 4],
  [.iload 6, .aload 1, .getfield 449, .if_icmp .ge 6, .aload 1, .iload 6, .iload 5, .invokeinterface 84 3, .ifCond .eq 5, .aload 1, .iload 6, .invokeinterface 86 2, .ifCond .eq 5, .aload 0, .aload 1, .iload 6, .iload 3, .invokeinterface 9 4, .goto_w 5],
  [.iinc 6 1, .goto 4],
  [.iinc 4 1, .goto 1],
  [.return_]]
-- 8 FailureSets.members (II)J
def zb_8 : List (List Instr) := [
  [.iload 0, .iconst 6, .if_icmp .ge 1, .getstatic 3, .iload 0, .laload, .lreturn],
  [.iload 1, .iload 0, .iconst 6, .isub, .invokeinterface 158 2, .ifCond .eq 2, .jsr_w (-1), .goto 3],
  [.jsr_w 0, .goto_w 3],
  [.lreturn]]
-- 9 FailureSets.addGroup (LServiceBudgets$State;II)V
def zb_9 : List (List Instr) := [
  [.iconst 0, .istore 4, .goto_w 1],
  [.iload 4, .iload 3, .if_icmp .ge 2, .aload 0, .getfield 65, .iload 4, .jsr_w (-1), .lastore, .iinc 4 1, .goto 1],
  [.iload 2, .istore 4, .goto_w 3],
  [.iload 4, .aload 1, .getfield 449, .if_icmp .ge 6, .aload 1, .iload 4, .iload 2, .invokeinterface 85 3, .ifCond .eq 5, .aload 0, .getfield 64, .aload 1, .getfield 451, .iconst 1, .aaload, .iload 4, .iaload, .aaload, .astore 5, .iconst 0, .istore 6, .goto_w 4],
  [.iload 6, .iload 3, .if_icmp .ge 5, .aload 0, .getfield 65, .iload 6, .dup2, .laload, .aload 5, .iload 6, .laload, .land, .lastore, .iinc 6 1, .goto 4],
  [.iinc 4 1, .goto 3],
  [.aload 0, .getfield 64, .aload 1, .getfield 451, .iconst 0, .aaload, .iload 2, .iaload, .aaload, .astore 4, .iconst 0, .istore 5, .goto_w 7],
  [.iload 5, .iload 3, .if_icmp .ge 8, .aload 4, .iload 5, .dup2, .laload, .aload 0, .getfield 65, .iload 5, .laload, .lor, .lastore, .iinc 5 1, .goto 7],
  [.return_]]
-- 10 FailureSets.isFailing (II)Z
def zb_10 : List (List Instr) := [
  [.aload 0, .getfield 64, .iload 1, .aaload, .iload 2, .iconst 6, .ishr, .laload, .iload 2, .iconst 63, .iand, .lushr, .jsr_w 1, .land, .jsr_w 0, .lcmp, .ifCond .eq 1, .iconst 1, .goto 2],
  [.iconst 0, .goto_w 2],
  [.ireturn]]
-- 11 FailureSets.isCut (LServiceBudgets$State;II)Z
def zb_11 : List (List Instr) := [
  [.aload 0, .iload 2, .iload 3, .invokeinterface 10 3, .ifCond .ne 1, .iconst 0, .ireturn],
  [.iconst 0, .istore 4, .goto_w 2],
  [.iload 4, .aload 1, .getfield 448, .if_icmp .ge 4, .iload 3, .iload 4, .invokeinterface 158 2, .ifCond .eq 3, .aload 0, .iload 2, .iload 3, .iconst 1, .iload 4, .ishl, .iconst (-1), .ixor, .iand, .invokeinterface 10 3, .ifCond .eq 3, .iconst 0, .ireturn],
  [.iinc 4 1, .goto 2],
  [.iconst 1, .ireturn]]
-- 12 FailureSets.countCuts (LServiceBudgets$State;II)I
def zb_12 : List (List Instr) := [
  [.iconst 0, .istore 4, .iconst 0, .istore 5, .goto_w 1],
  [.iload 5, .iconst 1, .aload 1, .getfield 448, .ishl, .if_icmp .ge 3, .iload 5, .invokeinterface 302 1, .iload 3, .if_icmp .ne 2, .aload 0, .aload 1, .iload 2, .iload 5, .invokeinterface 11 4, .ifCond .eq 2, .iinc 4 1, .goto_w 2],
  [.iinc 5 1, .goto 1],
  [.iload 4, .ireturn]]
-- 13 FailureSets.findCut (LServiceBudgets$State;III)I
def zb_13 : List (List Instr) := [
  [.iconst 0, .istore 5, .iconst 0, .istore 6, .goto_w 1],
  [.iload 6, .iconst 1, .aload 1, .getfield 448, .ishl, .if_icmp .ge 4, .iload 6, .invokeinterface 302 1, .iload 3, .if_icmp .ne 3, .aload 0, .aload 1, .iload 2, .iload 6, .invokeinterface 11 4, .ifCond .eq 3, .iload 5, .iload 4, .if_icmp .ne 2, .iload 6, .ireturn],
  [.iinc 5 1, .goto_w 3],
  [.iinc 6 1, .goto 1],
  [.iconst (-1), .ireturn]]
-- 14 FailureSets.chanceOf (LServiceBudgets$State;II)D
def zb_14 : List (List Instr) := [
  [.aload 0, .aload 1, .iload 3, .invokeinterface 15 3, .jsr 0, .dstore 4, .iconst 0, .istore 6, .goto_w 1],
  [.iload 6, .iconst 1, .aload 1, .getfield 448, .ishl, .if_icmp .ge 3, .aload 0, .iload 2, .iload 6, .invokeinterface 10 3, .ifCond .ne 2, .dload 4, .aload 0, .getfield 66, .iload 6, .daload, .dadd, .dstore 4, .goto_w 2],
  [.iinc 6 1, .goto 1],
  [.dload 4, .dreturn]]
-- 15 FailureSets.fillChances (LServiceBudgets$State;I)V
def zb_15 : List (List Instr) := [
  [.aload 0, .getfield 66, .arraylength, .ifCond .ne 1, .aload 0, .iconst 4096, .newarray .double, .putfield 66, .goto_w 1],
  [.aload 0, .getfield 66, .iconst 0, .jsr 4607182418800017408, .dastore, .iconst 0, .istore 3, .goto_w 2],
  [.iload 3, .aload 1, .getfield 448, .if_icmp .ge 7, .iload 3, .iload 2, .if_icmp .ne 3, .iconst 1000, .goto 4],
  [.aload 1, .getfield 450, .iconst 5, .aaload, .iload 3, .iaload, .goto_w 4],
  [.istore 4, .iload 4, .i2d, .jsr 4652007308841189376, .ddiv, .dstore 5, .iconst 1000, .iload 4, .isub, .i2d, .jsr 4652007308841189376, .ddiv, .dstore 7, .iconst 1, .iload 3, .ishl, .istore 9, .iconst 0, .istore 10, .goto_w 5],
  [.iload 10, .iload 9, .if_icmp .ge 6, .aload 0, .getfield 66, .iload 9, .iload 10, .iadd, .aload 0, .getfield 66, .iload 10, .daload, .dload 7, .dmul, .dastore, .aload 0, .getfield 66, .iload 10, .aload 0, .getfield 66, .iload 10, .daload, .dload 5, .dmul, .dastore, .iinc 10 1, .goto 5],
  [.iinc 3 1, .goto 2],
  [.return_]]
-- 16 FailureSets.mostWorthwhile (LServiceBudgets$State;I)I
def zb_16 : List (List Instr) := [
  [.iconst 0, .istore 3, .aload 0, .aload 1, .iload 2, .iconst 0, .invokeinterface 14 4, .dstore 4, .iconst 1, .istore 6, .goto_w 1],
  [.iload 6, .aload 1, .getfield 448, .if_icmp .ge 3, .aload 0, .aload 1, .iload 2, .iload 6, .invokeinterface 14 4, .dstore 7, .dload 7, .dload 4, .dcmp .l, .ifCond .le 2, .iload 6, .istore 3, .dload 7, .dstore 4, .goto_w 2],
  [.iinc 6 1, .goto 1],
  [.iload 3, .ireturn]]
-- 17 Graph.init ()V
def zb_17 : List (List Instr) := [
  [.aload 0, .pop, .aload 0, .iconst 12, .newarray .int, .putfield 128, .aload 0, .iconst 12, .newarray .int, .putfield 129, .aload 0, .iconst 0, .putfield 130, .aload 0, .iconst 12, .newarray .int, .putfield 131, .aload 0, .iconst 12, .newarray .int, .putfield 132, .return_]]
-- 18 Graph.sort (LServiceBudgets$State;)V
def zb_18 : List (List Instr) := [
  [.aload 0, .aload 1, .invokeinterface 19 2, .aload 0, .iconst 0, .putfield 130, .iconst 0, .istore 2, .iconst 0, .istore 3, .goto_w 1],
  [.iload 3, .aload 1, .getfield 448, .if_icmp .ge 3, .aload 0, .aload 1, .iload 2, .invokeinterface 20 3, .istore 4, .iload 4, .iconst (-1), .if_icmp .ne 2, .return_],
  [.aload 0, .getfield 129, .iload 3, .iload 4, .iastore, .iload 2, .iconst 1, .iload 4, .ishl, .ior, .istore 2, .aload 0, .dup, .getfield 130, .iconst 1, .iadd, .putfield 130, .iinc 3 1, .goto 1],
  [.return_]]
-- 19 Graph.fillDirect (LServiceBudgets$State;)V
def zb_19 : List (List Instr) := [
  [.iconst 0, .istore 2, .goto_w 1],
  [.iload 2, .aload 1, .getfield 448, .if_icmp .ge 2, .aload 0, .getfield 128, .iload 2, .iconst 0, .iastore, .iinc 2 1, .goto 1],
  [.iconst 0, .istore 2, .goto_w 3],
  [.iload 2, .aload 1, .getfield 449, .if_icmp .ge 4, .aload 0, .getfield 128, .aload 1, .getfield 451, .iconst 0, .aaload, .iload 2, .iaload, .dup2, .iaload, .iconst 1, .aload 1, .getfield 451, .iconst 1, .aaload, .iload 2, .iaload, .ishl, .ior, .iastore, .iinc 2 1, .goto 3],
  [.return_]]
-- 20 Graph.lowestNext (LServiceBudgets$State;I)I
def zb_20 : List (List Instr) := [
  [.iconst 0, .istore 3, .goto_w 1],
  [.iload 3, .aload 1, .getfield 448, .if_icmp .ge 3, .iload 2, .iload 3, .invokeinterface 158 2, .ifCond .ne 2, .aload 0, .getfield 128, .iload 3, .iaload, .iload 2, .iconst (-1), .ixor, .iand, .ifCond .ne 2, .iload 3, .ireturn],
  [.iinc 3 1, .goto 1],
  [.iconst (-1), .ireturn]]
-- 21 Graph.sortedAt (I)I
def zb_21 : List (List Instr) := [
  [.iload 1, .ifCond .lt 1, .iload 1, .aload 0, .getfield 130, .if_icmp .lt 2, .goto_w 1],
  [.iconst (-1), .goto 3],
  [.aload 0, .getfield 129, .iload 1, .iaload, .goto_w 3],
  [.ireturn]]
-- 22 Graph.countSorted ()I
def zb_22 : List (List Instr) := [
  [.aload 0, .getfield 130, .ireturn]]
-- 23 Graph.measureChains (LServiceBudgets$State;)V
def zb_23 : List (List Instr) := [
  [.aload 0, .aload 1, .invokeinterface 18 2, .iconst 0, .istore 2, .goto_w 1],
  [.iload 2, .aload 0, .getfield 130, .if_icmp .ge 2, .aload 0, .getfield 131, .aload 0, .getfield 129, .iload 2, .iaload, .aload 0, .aload 1, .aload 0, .getfield 129, .iload 2, .iaload, .invokeinterface 24 3, .iastore, .iinc 2 1, .goto 1],
  [.return_]]
-- 24 Graph.chainOf (LServiceBudgets$State;I)I
def zb_24 : List (List Instr) := [
  [.iconst 0, .istore 3, .iconst 0, .istore 4, .goto_w 1],
  [.iload 4, .aload 1, .getfield 449, .if_icmp .ge 3, .aload 1, .getfield 451, .iconst 0, .aaload, .iload 4, .iaload, .iload 2, .if_icmp .ne 2, .iload 3, .iconst 1, .aload 0, .getfield 131, .aload 1, .getfield 451, .iconst 1, .aaload, .iload 4, .iaload, .iaload, .iadd, .invokeinterface 300 2, .istore 3, .goto_w 2],
  [.iinc 4 1, .goto 1],
  [.iload 3, .ireturn]]
-- 25 Graph.measureBounds (LServiceBudgets$State;)V
def zb_25 : List (List Instr) := [
  [.aload 0, .aload 1, .invokeinterface 18 2, .iconst 0, .istore 2, .goto_w 1],
  [.iload 2, .aload 0, .getfield 130, .if_icmp .ge 2, .aload 0, .getfield 132, .aload 0, .getfield 129, .iload 2, .iaload, .aload 0, .aload 1, .aload 0, .getfield 129, .iload 2, .iaload, .invokeinterface 26 3, .iastore, .iinc 2 1, .goto 1],
  [.return_]]
-- 26 Graph.boundOf (LServiceBudgets$State;I)I
def zb_26 : List (List Instr) := [
  [.aload 1, .iload 2, .invokeinterface 81 2, .istore 3, .iconst 0, .istore 4, .goto_w 1],
  [.iload 4, .aload 1, .getfield 449, .if_icmp .ge 3, .aload 1, .getfield 451, .iconst 0, .aaload, .iload 4, .iaload, .iload 2, .if_icmp .ne 2, .aload 1, .getfield 451, .iconst 2, .aaload, .iload 4, .iaload, .istore 5, .iload 5, .aload 0, .getfield 132, .aload 1, .getfield 451, .iconst 1, .aaload, .iload 4, .iaload, .iaload, .invokeinterface 301 2, .istore 6, .iload 3, .aload 1, .getfield 451, .iconst 3, .aaload, .iload 4, .iaload, .iload 6, .imul, .iadd, .istore 3, .goto_w 2],
  [.iinc 4 1, .goto 1],
  [.iload 3, .iconst 100000, .invokeinterface 301 2, .ireturn]]
-- 27 Graph.countUnsound (LServiceBudgets$State;)I
def zb_27 : List (List Instr) := [
  [.iconst 0, .istore 2, .iconst 0, .istore 3, .goto_w 1],
  [.iload 3, .aload 1, .getfield 449, .if_icmp .ge 3, .aload 1, .getfield 451, .iconst 2, .aaload, .iload 3, .iaload, .aload 0, .getfield 132, .aload 1, .getfield 451, .iconst 1, .aaload, .iload 3, .iaload, .iaload, .if_icmp .ge 2, .iinc 2 1, .goto_w 2],
  [.iinc 3 1, .goto 1],
  [.iload 2, .ireturn]]
-- 28 Graph.tightenLimits (LServiceBudgets$State;)I
def zb_28 : List (List Instr) := [
  [.aload 0, .aload 1, .invokeinterface 18 2, .iconst 0, .istore 2, .iconst 0, .istore 3, .goto_w 1],
  [.iload 3, .aload 0, .getfield 130, .if_icmp .ge 2, .aload 0, .getfield 129, .iload 3, .iaload, .istore 4, .aload 0, .getfield 132, .iload 4, .aload 0, .aload 1, .iload 4, .invokeinterface 26 3, .iastore, .iload 2, .aload 0, .aload 1, .iload 4, .aload 0, .getfield 132, .iload 4, .iaload, .iconst 500, .invokeinterface 301 2, .invokeinterface 29 4, .iadd, .istore 2, .iinc 3 1, .goto 1],
  [.iload 2, .ireturn]]
-- 29 Graph.limitCallsTo (LServiceBudgets$State;II)I
def zb_29 : List (List Instr) := [
  [.iconst 0, .istore 4, .iconst 0, .istore 5, .goto_w 1],
  [.iload 5, .aload 1, .getfield 449, .if_icmp .ge 3, .aload 1, .getfield 451, .iconst 1, .aaload, .iload 5, .iaload, .iload 2, .if_icmp .ne 2, .aload 1, .iload 5, .iload 3, .invokeinterface 79 3, .iload 3, .if_icmp .eq 2, .iinc 4 1, .goto_w 2],
  [.iinc 5 1, .goto 1],
  [.iload 4, .ireturn]]
-- 30 Graph.failingBy (LServiceBudgets$State;I)I
def zb_30 : List (List Instr) := [
  [.iload 2, .istore 3, .iconst 0, .istore 4, .goto_w 1],
  [.iload 4, .aload 0, .getfield 130, .if_icmp .ge 3, .aload 1, .aload 0, .getfield 129, .iload 4, .iaload, .iload 3, .invokeinterface 89 3, .ifCond .eq 2, .iload 3, .iconst 1, .aload 0, .getfield 129, .iload 4, .iaload, .ishl, .ior, .istore 3, .goto_w 2],
  [.iinc 4 1, .goto 1],
  [.iload 3, .ireturn]]
-- 31 History.init ()V
def zb_31 : List (List Instr) := [
  [.aload 0, .pop, .aload 0, .iconst 4, .anewarray 0, .putfield 192, .aload 0, .iconst 0, .putfield 193, .iconst 0, .istore 1, .goto_w 1],
  [.iload 1, .iconst 4, .if_icmp .ge 2, .aload 0, .getfield 192, .iload 1, .new 7, .dup, .invokeinterface 65 1, .aastore, .iinc 1 1, .goto 1],
  [.return_]]
-- 32 History.save (LServiceBudgets$State;)V
def zb_32 : List (List Instr) := [
  [.aload 0, .getfield 193, .iconst 4, .if_icmp .ne 1, .aload 0, .invokeinterface 33 1, .goto_w 1],
  [.aload 0, .getfield 192, .aload 0, .getfield 193, .aaload, .aload 1, .invokeinterface 66 2, .aload 0, .dup, .getfield 193, .iconst 1, .iadd, .putfield 193, .return_]]
-- 33 History.dropOldest ()V
def zb_33 : List (List Instr) := [
  [.aload 0, .getfield 192, .iconst 0, .aaload, .astore 1, .iconst 1, .istore 2, .goto_w 1],
  [.iload 2, .iconst 4, .if_icmp .ge 2, .aload 0, .getfield 192, .iload 2, .iconst 1, .isub, .aload 0, .getfield 192, .iload 2, .aaload, .aastore, .iinc 2 1, .goto 1],
  [.aload 0, .getfield 192, .iconst 3, .aload 1, .aastore, .aload 0, .dup, .getfield 193, .iconst 1, .isub, .putfield 193, .return_]]
-- 34 History.whyEmpty ()I
def zb_34 : List (List Instr) := [
  [.aload 0, .getfield 193, .ifCond .ne 1, .iconst 3, .goto 2],
  [.iconst 0, .goto_w 2],
  [.ireturn]]
-- 35 History.restore (LServiceBudgets$State;)I
def zb_35 : List (List Instr) := [
  [.aload 0, .dup, .getfield 193, .iconst 1, .isub, .putfield 193, .aload 1, .aload 0, .getfield 192, .aload 0, .getfield 193, .aaload, .invokeinterface 66 2, .aload 0, .getfield 193, .ireturn]]
-- 36 Recovery.init ()V
def zb_36 : List (List Instr) := [
  [.aload 0, .pop, .aload 0, .iconst 12, .newarray .int, .putfield 256, .aload 0, .iconst 12, .newarray .int, .putfield 257, .aload 0, .iconst 12, .newarray .int, .putfield 258, .aload 0, .iconst 0, .newarray .int, .putfield 259, .return_]]
-- 37 Recovery.fillBefore (LServiceBudgets$State;)I
def zb_37 : List (List Instr) := [
  [.aload 1, .invokeinterface 92 1, .istore 2, .iconst 0, .istore 3, .goto_w 1],
  [.iload 3, .aload 1, .getfield 448, .if_icmp .ge 3, .iload 2, .iload 3, .invokeinterface 158 2, .ifCond .eq 2, .aload 0, .getfield 256, .iload 3, .aload 1, .iload 3, .invokeinterface 87 2, .iload 2, .iand, .iastore, .goto_w 2],
  [.iinc 3 1, .goto 1],
  [.iload 2, .ireturn]]
-- 38 Recovery.byCrews (LServiceBudgets$State;I)I
def zb_38 : List (List Instr) := [
  [.aload 0, .aload 1, .invokeinterface 37 2, .istore 3, .iconst 0, .istore 4, .iconst 0, .istore 5, .iconst 0, .istore 6, .iconst 0, .istore 7, .goto_w 1],
  [.iload 7, .aload 1, .getfield 448, .if_icmp .gt 6, .aload 0, .aload 1, .iload 4, .iload 6, .invokeinterface 39 4, .istore 8, .iload 4, .iload 8, .iconst (-1), .ixor, .iand, .istore 4, .iload 5, .iload 8, .ior, .istore 5, .iload 2, .iload 4, .invokeinterface 302 1, .isub, .istore 9, .goto_w 2],
  [.iload 9, .ifCond .le 4, .aload 0, .aload 1, .iload 3, .iload 5, .invokeinterface 41 4, .istore 10, .iload 10, .iconst (-1), .if_icmp .ne 3, .goto 4],
  [.aload 0, .getfield 257, .iload 10, .iload 6, .iastore, .aload 0, .getfield 258, .iload 10, .iload 6, .aload 1, .getfield 450, .iconst 3, .aaload, .iload 10, .iaload, .iadd, .iastore, .iload 3, .iconst 1, .iload 10, .ishl, .iconst (-1), .ixor, .iand, .istore 3, .iload 4, .iconst 1, .iload 10, .ishl, .ior, .istore 4, .iinc 9 (-1), .goto 2],
  [.iload 4, .ifCond .ne 5, .iload 6, .ireturn],
  [.aload 0, .aload 1, .iload 4, .invokeinterface 40 3, .istore 6, .iinc 7 1, .goto 1],
  [.iload 6, .ireturn]]
-- 39 Recovery.overAt (LServiceBudgets$State;II)I
def zb_39 : List (List Instr) := [
  [.iconst 0, .istore 4, .iconst 0, .istore 5, .goto_w 1],
  [.iload 5, .aload 1, .getfield 448, .if_icmp .ge 3, .iload 2, .iload 5, .invokeinterface 158 2, .ifCond .eq 2, .aload 0, .getfield 258, .iload 5, .iaload, .iload 3, .if_icmp .gt 2, .iload 4, .iconst 1, .iload 5, .ishl, .ior, .istore 4, .goto_w 2],
  [.iinc 5 1, .goto 1],
  [.iload 4, .ireturn]]
-- 40 Recovery.nextEnd (LServiceBudgets$State;I)I
def zb_40 : List (List Instr) := [
  [.iconst (-1), .istore 3, .iconst 0, .istore 4, .goto_w 1],
  [.iload 4, .aload 1, .getfield 448, .if_icmp .ge 4, .iload 2, .iload 4, .invokeinterface 158 2, .ifCond .eq 3, .iload 3, .iconst (-1), .if_icmp .eq 2, .aload 0, .getfield 258, .iload 4, .iaload, .iload 3, .if_icmp .ge 3, .goto_w 2],
  [.aload 0, .getfield 258, .iload 4, .iaload, .istore 3, .goto_w 3],
  [.iinc 4 1, .goto 1],
  [.iload 3, .ireturn]]
-- 41 Recovery.mostImportant (LServiceBudgets$State;II)I
def zb_41 : List (List Instr) := [
  [.iconst (-1), .istore 4, .iconst 0, .istore 5, .iconst 0, .istore 6, .goto_w 1],
  [.iload 6, .aload 1, .getfield 448, .if_icmp .ge 3, .iload 2, .iload 6, .invokeinterface 158 2, .ifCond .eq 2, .aload 0, .getfield 256, .iload 6, .iaload, .iload 3, .iconst (-1), .ixor, .iand, .ifCond .ne 2, .aload 1, .getfield 450, .iconst 4, .aaload, .iload 6, .iaload, .iload 5, .if_icmp .le 2, .iload 6, .istore 4, .aload 1, .getfield 450, .iconst 4, .aaload, .iload 6, .iaload, .istore 5, .goto_w 2],
  [.iinc 6 1, .goto 1],
  [.iload 4, .ireturn]]
-- 42 Recovery.leastCost (LServiceBudgets$State;)I
def zb_42 : List (List Instr) := [
  [.aload 0, .aload 1, .invokeinterface 37 2, .istore 2, .aload 0, .getfield 259, .arraylength, .ifCond .ne 1, .aload 0, .iconst 4096, .newarray .int, .putfield 259, .goto_w 1],
  [.aload 0, .getfield 259, .iload 2, .iconst 0, .iastore, .iload 2, .istore 3, .goto_w 2],
  [.iload 3, .ifCond .le 3, .iload 3, .iconst 1, .isub, .iload 2, .iand, .istore 3, .aload 0, .aload 1, .iload 2, .iload 3, .invokeinterface 43 4, .pop, .goto 2],
  [.aload 0, .getfield 259, .iconst 0, .iaload, .ireturn]]
-- 43 Recovery.settle (LServiceBudgets$State;II)I
def zb_43 : List (List Instr) := [
  [.aload 1, .iload 3, .invokeinterface 44 2, .istore 4, .iconst (-1), .istore 5, .iconst 0, .istore 6, .iconst 0, .istore 7, .goto_w 1],
  [.iload 7, .aload 1, .getfield 448, .if_icmp .ge 5, .iload 2, .iload 3, .iconst (-1), .ixor, .iand, .iload 7, .invokeinterface 158 2, .ifCond .eq 4, .aload 0, .getfield 256, .iload 7, .iaload, .iload 3, .iconst (-1), .ixor, .iand, .ifCond .eq 2, .goto 4],
  [.iload 4, .aload 1, .getfield 450, .iconst 3, .aaload, .iload 7, .iaload, .iadd, .istore 8, .aload 1, .getfield 450, .iconst 4, .aaload, .iload 7, .iaload, .iload 8, .imul, .aload 0, .getfield 259, .iload 3, .iconst 1, .iload 7, .ishl, .ior, .iaload, .iadd, .istore 9, .iload 5, .iconst (-1), .if_icmp .eq 3, .iload 9, .iload 6, .if_icmp .ge 4, .goto_w 3],
  [.iload 7, .istore 5, .iload 9, .istore 6, .goto_w 4],
  [.iinc 7 1, .goto 1],
  [.aload 0, .getfield 259, .iload 3, .iload 6, .iastore, .iload 5, .ireturn]]
-- 44 Recovery.timeFor (LServiceBudgets$State;I)I
def zb_44 : List (List Instr) := [
  [.iconst 0, .istore 2, .iconst 0, .istore 3, .goto_w 1],
  [.iload 3, .aload 0, .getfield 448, .if_icmp .ge 3, .iload 1, .iload 3, .invokeinterface 158 2, .ifCond .eq 2, .iload 2, .aload 0, .getfield 450, .iconst 3, .aaload, .iload 3, .iaload, .iadd, .istore 2, .goto_w 2],
  [.iinc 3 1, .goto 1],
  [.iload 2, .ireturn]]
-- 45 Recovery.inBestOrder (LServiceBudgets$State;I)I
def zb_45 : List (List Instr) := [
  [.aload 1, .invokeinterface 92 1, .istore 3, .iload 2, .ifCond .lt 1, .iload 2, .iload 3, .invokeinterface 302 1, .if_icmp .lt 2, .goto_w 1],
  [.iconst (-1), .ireturn],
  [.aload 0, .aload 1, .invokeinterface 42 2, .pop, .iconst 0, .istore 4, .aload 0, .aload 1, .iload 3, .iload 4, .invokeinterface 43 4, .istore 5, .iconst 0, .istore 6, .goto_w 3],
  [.iload 6, .iload 2, .if_icmp .ge 4, .iload 5, .iconst (-1), .if_icmp .eq 4, .iload 4, .iconst 1, .iload 5, .ishl, .ior, .istore 4, .aload 0, .aload 1, .iload 3, .iload 4, .invokeinterface 43 4, .istore 5, .iinc 6 1, .goto 3],
  [.iload 5, .ireturn]]
-- 46 Request.init ()V
def zb_46 : List (List Instr) := [
  [.aload 0, .invokeinterface 57 1, .aload 0, .iconst 0, .putfield 320, .aload 0, .iconst 0, .putfield 321, .aload 0, .iconst 0, .putfield 322, .aload 0, .iconst 0, .putfield 323, .aload 0, .iconst (-1), .putfield 324, .aload 0, .iconst (-1), .putfield 325, .aload 0, .iconst 0, .putfield 326, .aload 0, .iconst 0, .putfield 327, .aload 0, .iconst 4, .iconst 60, .multianewarray 0 2, .putfield 328, .aload 0, .iconst 4, .iconst 200, .multianewarray 0 2, .putfield 329, .return_]]
-- 47 Request.begin (LServiceBudgets$State;II)Z
def zb_47 : List (List Instr) := [
  [.aload 0, .iconst 1, .putfield 320, .aload 0, .iconst 0, .putfield 322, .aload 0, .iconst 1, .putfield 323, .aload 0, .iconst (-1), .putfield 324, .aload 0, .iconst (-1), .putfield 325, .aload 0, .iconst 0, .putfield 326, .aload 0, .iconst 0, .putfield 327, .aload 0, .aload 0, .aload 1, .iload 2, .iconst 0, .iload 3, .iconst 1, .invokeinterface 62 6, .putfield 321, .aload 0, .getfield 321, .invokeinterface 60 1, .ireturn]]
-- 48 Request.ask (LServiceBudgets$State;IIII)I
def zb_48 : List (List Instr) := [
  [.iload 5, .iconst 12, .if_icmp .lt 1, .iconst 0, .invokeinterface 59 1, .ireturn],
  [.aload 0, .iload 2, .iload 3, .iload 4, .invokeinterface 49 4, .istore 6, .aload 0, .dup, .getfield 323, .iconst 1, .iadd, .putfield 323, .aload 0, .aload 1, .aload 1, .getfield 451, .iconst 1, .aaload, .iload 2, .iaload, .iload 3, .iload 4, .iload 5, .iconst 1, .iadd, .invokeinterface 62 6, .istore 7, .iload 6, .iconst (-1), .if_icmp .eq 2, .iload 7, .invokeinterface 60 1, .ifCond .eq 2, .aload 0, .getfield 329, .iconst 3, .aaload, .iload 6, .iconst 1, .iastore, .goto_w 2],
  [.iload 7, .ireturn]]
-- 49 Request.noteTry (III)I
def zb_49 : List (List Instr) := [
  [.aload 0, .getfield 327, .iconst 200, .if_icmp .lt 1, .iconst (-1), .ireturn],
  [.aload 0, .getfield 327, .istore 4, .aload 0, .getfield 329, .iconst 0, .aaload, .iload 4, .iload 1, .iastore, .aload 0, .getfield 329, .iconst 1, .aaload, .iload 4, .iload 2, .iastore, .aload 0, .getfield 329, .iconst 2, .aaload, .iload 4, .iload 3, .iastore, .aload 0, .getfield 329, .iconst 3, .aaload, .iload 4, .iconst 0, .iastore, .aload 0, .dup, .getfield 327, .iconst 1, .iadd, .putfield 327, .iload 4, .ireturn]]
-- 50 Request.noteFailure (IIII)V
def zb_50 : List (List Instr) := [
  [.aload 0, .getfield 324, .iconst (-1), .if_icmp .ne 1, .aload 0, .iload 1, .putfield 324, .goto_w 1],
  [.aload 0, .getfield 325, .iconst (-1), .if_icmp .ne 3, .iload 2, .iconst 1, .if_icmp .eq 2, .iload 2, .iconst 2, .if_icmp .ne 3, .goto_w 2],
  [.aload 0, .iload 1, .putfield 325, .goto_w 3],
  [.aload 0, .getfield 326, .iconst 60, .if_icmp .ge 4, .aload 0, .getfield 328, .iconst 0, .aaload, .aload 0, .getfield 326, .iload 1, .iastore, .aload 0, .getfield 328, .iconst 1, .aaload, .aload 0, .getfield 326, .iload 2, .iastore, .aload 0, .getfield 328, .iconst 2, .aaload, .aload 0, .getfield 326, .iload 3, .iastore, .aload 0, .getfield 328, .iconst 3, .aaload, .aload 0, .getfield 326, .iload 4, .iastore, .aload 0, .dup, .getfield 326, .iconst 1, .iadd, .putfield 326, .goto_w 4],
  [.return_]]
-- 51 Request.noteMissing ()V
def zb_51 : List (List Instr) := [
  [.aload 0, .dup, .getfield 322, .iconst 1, .iadd, .putfield 322, .return_]]
-- 52 Request.whyNone ()I
def zb_52 : List (List Instr) := [
  [.aload 0, .getfield 320, .ifCond .eq 1, .iconst 0, .goto 2],
  [.iconst 3, .goto_w 2],
  [.ireturn]]
-- 53 Request.about (I)I
def zb_53 : List (List Instr) := [
  [.iload 1, .lookupswitch 6 #[(0, 1), (1, 2), (2, 3), (3, 4), (4, 5)]],
  [.aload 0, .getfield 321, .invokeinterface 61 1, .ireturn],
  [.aload 0, .getfield 322, .ireturn],
  [.aload 0, .getfield 326, .ireturn],
  [.aload 0, .getfield 327, .ireturn],
  [.aload 0, .invokeinterface 54 1, .ireturn],
  [.aload 0, .getfield 323, .ireturn]]
-- 54 Request.blamed ()I
def zb_54 : List (List Instr) := [
  [.aload 0, .getfield 321, .invokeinterface 60 1, .ifCond .eq 1, .iconst (-1), .ireturn],
  [.aload 0, .getfield 325, .iconst (-1), .if_icmp .eq 2, .aload 0, .getfield 325, .goto 3],
  [.aload 0, .getfield 324, .goto_w 3],
  [.ireturn]]
-- 55 Request.aboutFailure (II)I
def zb_55 : List (List Instr) := [
  [.iload 1, .ifCond .lt 1, .iload 1, .aload 0, .getfield 326, .if_icmp .lt 2, .goto_w 1],
  [.iconst (-1), .goto 3],
  [.aload 0, .getfield 328, .iload 2, .aaload, .iload 1, .iaload, .goto_w 3],
  [.ireturn]]
-- 56 Request.aboutTry (II)I
def zb_56 : List (List Instr) := [
  [.iload 1, .ifCond .lt 1, .iload 1, .aload 0, .getfield 327, .if_icmp .lt 2, .goto_w 1],
  [.iconst (-1), .goto 3],
  [.aload 0, .getfield 329, .iload 2, .aaload, .iload 1, .iaload, .goto_w 3],
  [.ireturn]]
-- 57 Serving.init ()V
def zb_57 : List (List Instr) := [
  [.aload 0, .pop, .return_]]
-- 58 Serving.good (I)I
def zb_58 : List (List Instr) := [
  [.iconst 2, .iload 0, .imul, .iconst 1, .iadd, .ireturn]]
-- 59 Serving.bad (I)I
def zb_59 : List (List Instr) := [
  [.iconst 2, .iload 0, .imul, .ireturn]]
-- 60 Serving.isGood (I)Z
def zb_60 : List (List Instr) := [
  [.iload 0, .iconst 1, .iand, .ifCond .eq 1, .iconst 1, .goto 2],
  [.iconst 0, .goto_w 2],
  [.ireturn]]
-- 61 Serving.timeOf (I)I
def zb_61 : List (List Instr) := [
  [.iload 0, .iconst 1, .ishr, .ireturn]]
-- 62 Serving.serve (LServiceBudgets$State;IIII)I
def zb_62 : List (List Instr) := [
  [.aload 1, .iload 2, .invokeinterface 91 2, .ifCond .ne 1, .aload 0, .iload 2, .iconst 1, .iload 3, .iload 4, .invokevirtual 1, .iconst 0, .invokeinterface 59 1, .ireturn],
  [.aload 1, .iload 2, .invokeinterface 81 2, .istore 6, .iload 6, .iload 4, .if_icmp .le 2, .aload 0, .iload 2, .iconst 2, .iload 3, .iload 4, .iadd, .iload 4, .invokevirtual 1, .iload 4, .invokeinterface 59 1, .ireturn],
  [.iconst 0, .istore 7, .goto_w 3],
  [.iload 7, .aload 1, .getfield 449, .if_icmp .ge 7, .aload 1, .iload 7, .iload 2, .invokeinterface 84 3, .ifCond .ne 4, .goto 6],
  [.aload 0, .aload 1, .iload 7, .iload 3, .iload 4, .iload 6, .iload 5, .invokeinterface 63 7, .istore 8, .iload 8, .invokeinterface 61 1, .istore 6, .iload 8, .invokeinterface 60 1, .ifCond .ne 5, .aload 1, .iload 7, .invokeinterface 86 2, .ifCond .eq 5, .aload 0, .iload 2, .iconst 4, .iload 3, .iload 6, .iadd, .iload 4, .invokevirtual 1, .iload 6, .invokeinterface 59 1, .ireturn],
  [.iload 8, .invokeinterface 60 1, .ifCond .ne 6, .aload 0, .invokevirtual 2, .goto_w 6],
  [.iinc 7 1, .goto 3],
  [.iload 6, .invokeinterface 58 1, .ireturn]]
-- 63 Serving.goThroughGroup (LServiceBudgets$State;IIIII)I
def zb_63 : List (List Instr) := [
  [.iload 5, .istore 7, .iload 2, .istore 8, .goto_w 1],
  [.iload 8, .aload 1, .getfield 449, .if_icmp .ge 4, .aload 1, .iload 8, .iload 2, .invokeinterface 85 3, .ifCond .eq 3, .aload 0, .aload 1, .iload 8, .iload 3, .iload 4, .iload 7, .iload 6, .invokeinterface 64 7, .istore 9, .iload 9, .invokeinterface 60 1, .ifCond .eq 2, .iload 9, .ireturn],
  [.iload 9, .invokeinterface 61 1, .istore 7, .goto_w 3],
  [.iinc 8 1, .goto 1],
  [.iload 7, .invokeinterface 59 1, .ireturn]]
-- 64 Serving.makeCall (LServiceBudgets$State;IIIII)I
def zb_64 : List (List Instr) := [
  [.iload 5, .istore 7, .aload 1, .getfield 451, .iconst 3, .aaload, .iload 2, .iaload, .istore 8, .iconst 0, .istore 9, .goto_w 1],
  [.iload 9, .iload 8, .if_icmp .ge 4, .iload 7, .iload 4, .if_icmp .lt 2, .aload 0, .aload 1, .getfield 451, .iconst 0, .aaload, .iload 2, .iaload, .iconst 3, .iload 3, .iload 7, .iadd, .iload 4, .invokevirtual 1, .iload 7, .invokeinterface 59 1, .ireturn],
  [.aload 1, .getfield 451, .iconst 2, .aaload, .iload 2, .iaload, .iload 4, .iload 7, .isub, .invokeinterface 301 2, .istore 10, .aload 0, .aload 1, .iload 2, .iload 3, .iload 7, .iadd, .iload 10, .iload 6, .invokevirtual 0, .istore 11, .iload 7, .iload 11, .invokeinterface 61 1, .iadd, .istore 7, .iload 11, .invokeinterface 60 1, .ifCond .eq 3, .iload 7, .invokeinterface 58 1, .ireturn],
  [.iinc 9 1, .goto 1],
  [.iload 7, .invokeinterface 59 1, .ireturn]]
-- 65 State.init ()V
def zb_65 : List (List Instr) := [
  [.aload 0, .pop, .aload 0, .iconst 0, .putfield 448, .aload 0, .iconst 0, .putfield 449, .aload 0, .iconst 9, .iconst 12, .multianewarray 0 2, .putfield 450, .aload 0, .iconst 6, .iconst 24, .multianewarray 0 2, .putfield 451, .return_]]
-- 66 State.copyFrom (LServiceBudgets$State;)V
def zb_66 : List (List Instr) := [
  [.aload 0, .aload 1, .getfield 448, .putfield 448, .aload 0, .aload 1, .getfield 449, .putfield 449, .iconst 0, .istore 2, .goto_w 1],
  [.iload 2, .iconst 8, .if_icmp .gt 2, .aload 1, .getfield 450, .iload 2, .aaload, .iconst 0, .aload 0, .getfield 450, .iload 2, .aaload, .iconst 0, .iconst 12, .pop2, .iinc 2 1, .goto 1],
  [.iconst 0, .istore 2, .goto_w 3],
  [.iload 2, .iconst 5, .if_icmp .gt 4, .aload 1, .getfield 451, .iload 2, .aaload, .iconst 0, .aload 0, .getfield 451, .iload 2, .aaload, .iconst 0, .iconst 24, .pop2, .iinc 2 1, .goto 3],
  [.return_]]
-- 67 State.whyNoService (I)I
def zb_67 : List (List Instr) := [
  [.iload 1, .ifCond .lt 1, .iload 1, .aload 0, .getfield 448, .if_icmp .lt 2, .goto_w 1],
  [.iconst 1, .goto 3],
  [.iconst 0, .goto_w 3],
  [.ireturn]]
-- 68 State.whyNoCall (I)I
def zb_68 : List (List Instr) := [
  [.iload 1, .ifCond .lt 1, .iload 1, .aload 0, .getfield 449, .if_icmp .lt 2, .goto_w 1],
  [.iconst 1, .goto 3],
  [.iconst 0, .goto_w 3],
  [.ireturn]]
-- 69 State.whyNoSet (I)I
def zb_69 : List (List Instr) := [
  [.iload 1, .aload 0, .getfield 448, .iushr, .ifCond .eq 1, .iconst 2, .goto 2],
  [.iconst 0, .goto_w 2],
  [.ireturn]]
-- 70 State.whyNotNewService (I)I
def zb_70 : List (List Instr) := [
  [.iload 1, .getstatic 0, .iconst 0, .iaload, .if_icmp .lt 1, .iload 1, .getstatic 1, .iconst 0, .iaload, .if_icmp .le 2, .goto_w 1],
  [.iconst 2, .ireturn],
  [.aload 0, .getfield 448, .iconst 12, .if_icmp .lt 3, .iconst 3, .goto 4],
  [.iconst 0, .goto_w 4],
  [.ireturn]]
-- 71 State.newService (I)I
def zb_71 : List (List Instr) := [
  [.aload 0, .getfield 448, .istore 2, .iconst 0, .istore 3, .goto_w 1],
  [.iload 3, .iconst 5, .if_icmp .gt 2, .aload 0, .getfield 450, .iload 3, .aaload, .iload 2, .getstatic 2, .iload 3, .iaload, .iastore, .iinc 3 1, .goto 1],
  [.aload 0, .getfield 450, .iconst 0, .aaload, .iload 2, .iload 1, .iastore, .aload 0, .getfield 450, .iconst 6, .aaload, .iload 2, .iconst 1, .iastore, .aload 0, .getfield 450, .iconst 7, .aaload, .iload 2, .iconst 0, .iastore, .aload 0, .getfield 450, .iconst 8, .aaload, .iload 2, .iconst (-1), .iastore, .aload 0, .dup, .getfield 448, .iconst 1, .iadd, .putfield 448, .iload 2, .ireturn]]
-- 72 State.whyNotNewCall (IIIII)I
def zb_72 : List (List Instr) := [
  [.aload 0, .iload 1, .invokeinterface 67 2, .ifCond .ne 1, .aload 0, .iload 2, .invokeinterface 67 2, .ifCond .eq 2, .goto_w 1],
  [.iconst 1, .ireturn],
  [.iload 3, .iconst 1, .iconst 500, .invokeinterface 157 3, .ifCond .ne 3, .iload 4, .iconst 1, .iconst 3, .invokeinterface 157 3, .ifCond .ne 3, .iload 5, .iconst 0, .iconst 2, .invokeinterface 157 3, .ifCond .eq 4, .goto_w 3],
  [.iconst 2, .ireturn],
  [.iload 1, .iload 2, .if_icmp .eq 5, .aload 0, .iload 2, .invokeinterface 87 2, .iload 1, .invokeinterface 158 2, .ifCond .eq 6, .goto_w 5],
  [.iconst 3, .ireturn],
  [.iload 5, .iconst 2, .if_icmp .ne 7, .aload 0, .iload 1, .invokeinterface 83 2, .iconst (-1), .if_icmp .ne 7, .iconst 3, .ireturn],
  [.aload 0, .getfield 449, .iconst 24, .if_icmp .lt 8, .iconst 3, .goto 9],
  [.iconst 0, .goto_w 9],
  [.ireturn]]
-- 73 State.newCall (IIIII)I
def zb_73 : List (List Instr) := [
  [.aload 0, .getfield 449, .istore 6, .aload 0, .getfield 451, .iconst 5, .aaload, .iload 6, .iload 5, .iconst 2, .if_icmp .ne 1, .aload 0, .iload 1, .invokeinterface 83 2, .goto 2],
  [.iconst (-1), .goto_w 2],
  [.iastore, .aload 0, .getfield 451, .iconst 0, .aaload, .iload 6, .iload 1, .iastore, .aload 0, .getfield 451, .iconst 1, .aaload, .iload 6, .iload 2, .iastore, .aload 0, .getfield 451, .iconst 2, .aaload, .iload 6, .iload 3, .iastore, .aload 0, .getfield 451, .iconst 3, .aaload, .iload 6, .iload 4, .iastore, .aload 0, .getfield 451, .iconst 4, .aaload, .iload 6, .iload 5, .iastore, .aload 0, .dup, .getfield 449, .iconst 1, .iadd, .putfield 449, .iload 6, .ireturn]]
-- 74 State.whyNotDropCall (I)I
def zb_74 : List (List Instr) := [
  [.aload 0, .iload 1, .invokeinterface 68 2, .ifCond .eq 1, .iconst 1, .ireturn],
  [.iconst 0, .istore 2, .goto_w 2],
  [.iload 2, .aload 0, .getfield 449, .if_icmp .ge 4, .aload 0, .getfield 451, .iconst 5, .aaload, .iload 2, .iaload, .iload 1, .if_icmp .ne 3, .iconst 3, .ireturn],
  [.iinc 2 1, .goto 2],
  [.iconst 0, .ireturn]]
-- 75 State.dropCall (I)I
def zb_75 : List (List Instr) := [
  [.aload 0, .dup, .getfield 449, .iconst 1, .isub, .putfield 449, .iconst 0, .istore 2, .goto_w 1],
  [.iload 2, .iconst 5, .if_icmp .gt 2, .aload 0, .getfield 451, .iload 2, .aaload, .iload 1, .iconst 1, .iadd, .aload 0, .getfield 451, .iload 2, .aaload, .iload 1, .aload 0, .getfield 449, .iload 1, .isub, .pop2, .iinc 2 1, .goto 1],
  [.iconst 0, .istore 2, .goto_w 3],
  [.iload 2, .aload 0, .getfield 449, .if_icmp .ge 5, .aload 0, .getfield 451, .iconst 5, .aaload, .iload 2, .iaload, .iload 1, .if_icmp .le 4, .aload 0, .getfield 451, .iconst 5, .aaload, .iload 2, .dup2, .iaload, .iconst 1, .isub, .iastore, .goto_w 4],
  [.iinc 2 1, .goto 3],
  [.aload 0, .getfield 449, .ireturn]]
-- 76 State.whyNotChange (III)I
def zb_76 : List (List Instr) := [
  [.aload 0, .iload 2, .invokeinterface 67 2, .ifCond .eq 1, .iconst 1, .ireturn],
  [.iload 1, .ifCond .lt 2, .iload 1, .iconst 5, .if_icmp .le 3, .goto_w 2],
  [.iconst 2, .ireturn],
  [.iload 3, .getstatic 0, .iload 1, .iaload, .getstatic 1, .iload 1, .iaload, .invokeinterface 157 3, .ireturn]]
-- 77 State.change (III)I
def zb_77 : List (List Instr) := [
  [.aload 0, .getfield 450, .iload 1, .aaload, .iload 2, .iaload, .istore 4, .aload 0, .getfield 450, .iload 1, .aaload, .iload 2, .iload 3, .iastore, .iload 4, .ireturn]]
-- 78 State.whyNotChangeLimit (II)I
def zb_78 : List (List Instr) := [
  [.aload 0, .iload 1, .invokeinterface 68 2, .ifCond .eq 1, .iconst 1, .goto 2],
  [.iload 2, .iconst 1, .iconst 500, .invokeinterface 157 3, .goto_w 2],
  [.ireturn]]
-- 79 State.changeLimit (II)I
def zb_79 : List (List Instr) := [
  [.aload 0, .getfield 451, .iconst 2, .aaload, .iload 1, .iaload, .istore 3, .aload 0, .getfield 451, .iconst 2, .aaload, .iload 1, .iload 2, .iastore, .iload 3, .ireturn]]
-- 80 State.tellOfService (II)I
def zb_80 : List (List Instr) := [
  [.iload 2, .iconst 8, .if_icmp .gt 1, .aload 0, .getfield 450, .iload 2, .aaload, .iload 1, .iaload, .ireturn],
  [.iload 2, .iconst 9, .if_icmp .ne 2, .aload 0, .iload 1, .invokeinterface 81 2, .goto 3],
  [.aload 0, .iload 1, .invokeinterface 82 2, .goto_w 3],
  [.ireturn]]
-- 81 State.ownTimeOf (I)I
def zb_81 : List (List Instr) := [
  [.aload 0, .getfield 450, .iconst 0, .aaload, .iload 1, .iaload, .aload 0, .getfield 450, .iconst 1, .aaload, .iload 1, .iaload, .imul, .iconst 99, .iadd, .iconst 100, .idiv, .ireturn]]
-- 82 State.countCallsOf (I)I
def zb_82 : List (List Instr) := [
  [.iconst 0, .istore 2, .iconst 0, .istore 3, .goto_w 1],
  [.iload 3, .aload 0, .getfield 449, .if_icmp .ge 3, .aload 0, .getfield 451, .iconst 0, .aaload, .iload 3, .iaload, .iload 1, .if_icmp .ne 2, .iinc 2 1, .goto_w 2],
  [.iinc 3 1, .goto 1],
  [.iload 2, .ireturn]]
-- 83 State.lastHeadOf (I)I
def zb_83 : List (List Instr) := [
  [.aload 0, .getfield 449, .iconst 1, .isub, .istore 2, .goto_w 1],
  [.iload 2, .ifCond .lt 3, .aload 0, .iload 2, .iload 1, .invokeinterface 84 3, .ifCond .eq 2, .iload 2, .ireturn],
  [.iinc 2 (-1), .goto 1],
  [.iconst (-1), .ireturn]]
-- 84 State.isHeadOf (II)Z
def zb_84 : List (List Instr) := [
  [.aload 0, .getfield 451, .iconst 0, .aaload, .iload 1, .iaload, .iload 2, .if_icmp .ne 1, .aload 0, .getfield 451, .iconst 4, .aaload, .iload 1, .iaload, .iconst 2, .if_icmp .eq 1, .iconst 1, .goto 2],
  [.iconst 0, .goto_w 2],
  [.ireturn]]
-- 85 State.isInGroup (II)Z
def zb_85 : List (List Instr) := [
  [.iload 1, .iload 2, .if_icmp .eq 1, .aload 0, .getfield 451, .iconst 5, .aaload, .iload 1, .iaload, .iload 2, .if_icmp .ne 2, .goto_w 1],
  [.iconst 1, .goto 3],
  [.iconst 0, .goto_w 3],
  [.ireturn]]
-- 86 State.isNeeded (I)Z
def zb_86 : List (List Instr) := [
  [.aload 0, .getfield 451, .iconst 4, .aaload, .iload 1, .iaload, .ifCond .ne 1, .iconst 1, .goto 2],
  [.iconst 0, .goto_w 2],
  [.ireturn]]
-- 87 State.needsOf (I)I
def zb_87 : List (List Instr) := [
  [.iconst 1, .iload 1, .ishl, .istore 2, .iconst 0, .istore 3, .iconst 0, .istore 4, .goto_w 1],
  [.iload 4, .aload 0, .getfield 448, .if_icmp .ge 3, .aload 0, .iload 2, .invokeinterface 88 2, .istore 5, .iload 5, .iload 3, .iconst (-1), .ixor, .iand, .ifCond .ne 2, .iload 3, .ireturn],
  [.iload 3, .iload 5, .ior, .istore 3, .iload 2, .iload 5, .ior, .istore 2, .iinc 4 1, .goto 1],
  [.iload 3, .ireturn]]
-- 88 State.calleesOf (I)I
def zb_88 : List (List Instr) := [
  [.iconst 0, .istore 2, .iconst 0, .istore 3, .goto_w 1],
  [.iload 3, .aload 0, .getfield 449, .if_icmp .ge 3, .iload 1, .aload 0, .getfield 451, .iconst 0, .aaload, .iload 3, .iaload, .invokeinterface 158 2, .ifCond .eq 2, .iload 2, .iconst 1, .aload 0, .getfield 451, .iconst 1, .aaload, .iload 3, .iaload, .ishl, .ior, .istore 2, .goto_w 2],
  [.iinc 3 1, .goto 1],
  [.iload 2, .ireturn]]
-- 89 State.lacksNeeded (II)Z
def zb_89 : List (List Instr) := [
  [.iconst 0, .istore 3, .goto_w 1],
  [.iload 3, .aload 0, .getfield 449, .if_icmp .ge 3, .aload 0, .iload 3, .iload 1, .invokeinterface 84 3, .ifCond .eq 2, .aload 0, .iload 3, .invokeinterface 86 2, .ifCond .eq 2, .aload 0, .iload 3, .iload 2, .invokeinterface 90 3, .ifCond .eq 2, .iconst 1, .ireturn],
  [.iinc 3 1, .goto 1],
  [.iconst 0, .ireturn]]
-- 90 State.isGroupWithin (II)Z
def zb_90 : List (List Instr) := [
  [.iload 1, .istore 3, .goto_w 1],
  [.iload 3, .aload 0, .getfield 449, .if_icmp .ge 3, .aload 0, .iload 3, .iload 1, .invokeinterface 85 3, .ifCond .eq 2, .iload 2, .aload 0, .getfield 451, .iconst 1, .aaload, .iload 3, .iaload, .invokeinterface 158 2, .ifCond .ne 2, .iconst 0, .ireturn],
  [.iinc 3 1, .goto 1],
  [.iconst 1, .ireturn]]
-- 91 State.isUp (I)Z
def zb_91 : List (List Instr) := [
  [.aload 0, .getfield 450, .iconst 6, .aaload, .iload 1, .iaload, .iconst 1, .if_icmp .ne 1, .iconst 1, .goto 2],
  [.iconst 0, .goto_w 2],
  [.ireturn]]
-- 92 State.downSet ()I
def zb_92 : List (List Instr) := [
  [.iconst 0, .istore 1, .iconst 0, .istore 2, .goto_w 1],
  [.iload 2, .aload 0, .getfield 448, .if_icmp .ge 3, .aload 0, .iload 2, .invokeinterface 91 2, .ifCond .ne 2, .iload 1, .iconst 1, .iload 2, .ishl, .ior, .istore 1, .goto_w 2],
  [.iinc 2 1, .goto 1],
  [.iload 1, .ireturn]]
-- 93 State.countUp ()I
def zb_93 : List (List Instr) := [
  [.aload 0, .getfield 448, .aload 0, .invokeinterface 92 1, .invokeinterface 302 1, .isub, .ireturn]]
-- 94 State.whyNotGoDown (I)I
def zb_94 : List (List Instr) := [
  [.aload 0, .iload 1, .invokeinterface 67 2, .ifCond .eq 1, .iconst 1, .ireturn],
  [.aload 0, .iload 1, .invokeinterface 91 2, .ifCond .eq 2, .iconst 0, .goto 3],
  [.iconst 3, .goto_w 3],
  [.ireturn]]
-- 95 State.goDown (I)V
def zb_95 : List (List Instr) := [
  [.aload 0, .getfield 450, .iconst 6, .aaload, .iload 1, .iconst 0, .iastore, .aload 0, .getfield 450, .iconst 7, .aaload, .iload 1, .iconst 0, .iastore, .aload 0, .getfield 450, .iconst 8, .aaload, .iload 1, .iconst (-1), .iastore, .return_]]
-- 96 State.whyNotBeginRepair (I)I
def zb_96 : List (List Instr) := [
  [.aload 0, .iload 1, .invokeinterface 67 2, .ifCond .eq 1, .iconst 1, .ireturn],
  [.aload 0, .iload 1, .invokeinterface 91 2, .ifCond .ne 2, .aload 0, .getfield 450, .iconst 8, .aaload, .iload 1, .iaload, .iconst (-1), .if_icmp .eq 3, .goto_w 2],
  [.iconst 3, .goto 4],
  [.iconst 0, .goto_w 4],
  [.ireturn]]
-- 97 State.beginRepair (I)I
def zb_97 : List (List Instr) := [
  [.aload 0, .getfield 450, .iconst 8, .aaload, .iload 1, .aload 0, .getfield 450, .iconst 3, .aaload, .iload 1, .iaload, .iastore, .aload 0, .getfield 450, .iconst 8, .aaload, .iload 1, .iaload, .ireturn]]
-- 98 State.makeSteps (I)V
def zb_98 : List (List Instr) := [
  [.iconst 0, .istore 2, .goto_w 1],
  [.iload 2, .iload 1, .if_icmp .ge 2, .aload 0, .invokeinterface 99 1, .pop, .iinc 2 1, .goto 1],
  [.return_]]
-- 99 State.makeStep ()I
def zb_99 : List (List Instr) := [
  [.aload 0, .invokeinterface 92 1, .istore 1, .iconst 0, .istore 2, .iconst 0, .istore 3, .goto_w 1],
  [.iload 3, .aload 0, .getfield 448, .if_icmp .ge 4, .aload 0, .iload 3, .iload 1, .invokeinterface 89 3, .istore 4, .iload 1, .iload 3, .invokeinterface 158 2, .ifCond .eq 2, .aload 0, .iload 3, .iload 4, .invokeinterface 100 3, .goto 3],
  [.aload 0, .iload 3, .iload 4, .invokeinterface 101 3, .aload 0, .getfield 450, .iconst 7, .aaload, .iload 3, .iaload, .aload 0, .getfield 450, .iconst 2, .aaload, .iload 3, .iaload, .if_icmp .lt 3, .aload 0, .iload 3, .invokeinterface 95 2, .iload 2, .iconst 1, .iload 3, .ishl, .ior, .istore 2, .goto_w 3],
  [.iinc 3 1, .goto 1],
  [.iload 2, .ireturn]]
-- 100 State.mend (IZ)V
def zb_100 : List (List Instr) := [
  [.aload 0, .getfield 450, .iconst 8, .aaload, .iload 1, .iaload, .istore 3, .iload 3, .iconst (-1), .if_icmp .ne 1, .return_],
  [.iload 3, .ifCond .le 2, .iinc 3 (-1), .goto_w 2],
  [.aload 0, .getfield 450, .iconst 8, .aaload, .iload 1, .iload 3, .iastore, .iload 3, .ifCond .ne 3, .iload 2, .ifCond .ne 3, .aload 0, .getfield 450, .iconst 6, .aaload, .iload 1, .iconst 1, .iastore, .aload 0, .getfield 450, .iconst 7, .aaload, .iload 1, .iconst 0, .iastore, .aload 0, .getfield 450, .iconst 8, .aaload, .iload 1, .iconst (-1), .iastore, .goto_w 3],
  [.return_]]
-- 101 State.changeStrain (IZ)V
def zb_101 : List (List Instr) := [
  [.iload 2, .ifCond .eq 1, .aload 0, .getfield 450, .iconst 7, .aaload, .iload 1, .dup2, .iaload, .iconst 1, .iadd, .iastore, .goto 2],
  [.aload 0, .getfield 450, .iconst 7, .aaload, .iload 1, .iaload, .ifCond .le 2, .aload 0, .getfield 450, .iconst 7, .aaload, .iload 1, .dup2, .iaload, .iconst 1, .isub, .iastore, .goto_w 2],
  [.return_]]
-- 102 Text.init ()V
def zb_102 : List (List Instr) := [
  [.aload 0, .pop, .aload 0, .iconst 120, .newarray .int, .putfield 512, .aload 0, .iconst 0, .putfield 513, .aload 0, .iconst 40, .newarray .int, .putfield 514, .aload 0, .iconst 5, .iconst 40, .multianewarray 0 2, .putfield 515, .return_]]
-- 103 Text.whyFull ()I
def zb_103 : List (List Instr) := [
  [.aload 0, .getfield 513, .iconst 120, .if_icmp .lt 1, .iconst 3, .goto 2],
  [.iconst 0, .goto_w 2],
  [.ireturn]]
-- 104 Text.add (I)I
def zb_104 : List (List Instr) := [
  [.aload 0, .getfield 512, .aload 0, .getfield 513, .iload 1, .iastore, .aload 0, .dup, .getfield 513, .iconst 1, .iadd, .putfield 513, .aload 0, .getfield 513, .ireturn]]
-- 105 Text.empty ()I
def zb_105 : List (List Instr) := [
  [.aload 0, .getfield 513, .istore 1, .aload 0, .iconst 0, .putfield 513, .iload 1, .ireturn]]
-- 106 Text.parse ()I
def zb_106 : List (List Instr) := [
  [.iconst 0, .istore 1, .iconst 0, .istore 2, .goto_w 1],
  [.iload 2, .aload 0, .getfield 513, .if_icmp .ge 3, .iload 1, .iconst 40, .if_icmp .ge 3, .aload 0, .iload 2, .iload 1, .invokeinterface 109 3, .istore 2, .iload 2, .ifCond .ge 2, .iconst (-10), .iload 2, .invokeinterface 108 1, .isub, .ireturn],
  [.iinc 1 1, .goto 1],
  [.iload 1, .ireturn]]
-- 107 Text.errorAt (I)I
def zb_107 : List (List Instr) := [
  [.iconst (-1), .iload 0, .isub, .ireturn]]
-- 108 Text.placeOf (I)I
def zb_108 : List (List Instr) := [
  [.iconst (-1), .iload 0, .isub, .ireturn]]
-- 109 Text.parseCommand (II)I
def zb_109 : List (List Instr) := [
  [.aload 0, .getfield 512, .iload 1, .iaload, .invokeinterface 110 1, .istore 3, .iload 3, .ifCond .ne 1, .iload 1, .invokeinterface 107 1, .ireturn],
  [.aload 0, .getfield 514, .iload 2, .aload 0, .getfield 512, .iload 1, .iaload, .iastore, .iload 1, .iconst 1, .iadd, .istore 4, .iconst 0, .istore 5, .goto_w 2],
  [.iload 5, .iload 3, .if_icmp .ge 7, .aload 0, .iload 4, .invokeinterface 111 2, .istore 6, .iload 6, .iload 4, .if_icmp .eq 5, .iload 6, .aload 0, .getfield 513, .if_icmp .ge 5, .aload 0, .getfield 512, .iload 6, .iaload, .iload 5, .iconst 1, .iadd, .iload 3, .if_icmp .ge 3, .iconst 44, .goto 4],
  [.iconst 59, .goto_w 4],
  [.if_icmp .eq 6, .goto_w 5],
  [.iload 6, .invokeinterface 107 1, .ireturn],
  [.aload 0, .getfield 515, .iload 5, .aaload, .iload 2, .aload 0, .iload 4, .iload 6, .invokeinterface 112 3, .iastore, .iload 6, .iconst 1, .iadd, .istore 4, .iinc 5 1, .goto 2],
  [.iload 4, .ireturn]]
-- 110 Text.numbersOf (I)I
def zb_110 : List (List Instr) := [
  [.iload 0, .lookupswitch 4 #[(97, 1), (98, 4), (99, 3), (100, 1), (101, 4), (102, 4), (103, 4), (104, 4), (105, 4), (106, 4), (107, 4), (108, 4), (109, 4), (110, 4), (111, 4), (112, 2), (113, 4), (114, 1), (115, 1)]],
  [.iconst 1, .ireturn],
  [.iconst 3, .ireturn],
  [.iconst 5, .ireturn],
  [.iconst 0, .ireturn]]
-- 111 Text.endOfDigits (I)I
def zb_111 : List (List Instr) := [
  [.iload 1, .istore 2, .goto_w 1],
  [.iload 2, .aload 0, .getfield 513, .if_icmp .ge 2, .iload 2, .iload 1, .iconst 3, .iadd, .if_icmp .ge 2, .aload 0, .getfield 512, .iload 2, .iaload, .iconst 48, .if_icmp .lt 2, .aload 0, .getfield 512, .iload 2, .iaload, .iconst 57, .if_icmp .gt 2, .iinc 2 1, .goto 1],
  [.iload 2, .ireturn]]
-- 112 Text.valueOf (II)I
def zb_112 : List (List Instr) := [
  [.iconst 0, .istore 3, .iload 1, .istore 4, .goto_w 1],
  [.iload 4, .iload 2, .if_icmp .ge 2, .iconst 10, .iload 3, .imul, .aload 0, .getfield 512, .iload 4, .iaload, .iadd, .iconst 48, .isub, .istore 3, .iinc 4 1, .goto 1],
  [.iload 3, .ireturn]]
-- 113 Text.whyNotCommand (LServiceBudgets$State;I)I
def zb_113 : List (List Instr) := [
  [.aload 0, .getfield 515, .iconst 0, .aaload, .iload 2, .iaload, .istore 3, .aload 0, .getfield 515, .iconst 1, .aaload, .iload 2, .iaload, .istore 4, .aload 0, .getfield 515, .iconst 2, .aaload, .iload 2, .iaload, .istore 5, .aload 0, .getfield 514, .iload 2, .iaload, .lookupswitch 6 #[(97, 1), (99, 2), (100, 3), (114, 4), (115, 5)]],
  [.aload 1, .iload 3, .invokeinterface 70 2, .ireturn],
  [.aload 1, .iload 3, .iload 4, .iload 5, .aload 0, .getfield 515, .iconst 3, .aaload, .iload 2, .iaload, .aload 0, .getfield 515, .iconst 4, .aaload, .iload 2, .iaload, .invokeinterface 72 6, .ireturn],
  [.aload 1, .iload 3, .invokeinterface 94 2, .ireturn],
  [.aload 1, .iload 3, .invokeinterface 96 2, .ireturn],
  [.iload 3, .iconst 1, .iconst 50, .invokeinterface 157 3, .ireturn],
  [.aload 1, .iload 3, .iload 4, .iload 5, .invokeinterface 76 4, .ireturn]]
-- 114 Text.carryOut (LServiceBudgets$State;I)V
def zb_114 : List (List Instr) := [
  [.aload 0, .getfield 515, .iconst 0, .aaload, .iload 2, .iaload, .istore 3, .aload 0, .getfield 515, .iconst 1, .aaload, .iload 2, .iaload, .istore 4, .aload 0, .getfield 515, .iconst 2, .aaload, .iload 2, .iaload, .istore 5, .aload 0, .getfield 514, .iload 2, .iaload, .lookupswitch 6 #[(97, 1), (99, 2), (100, 3), (114, 4), (115, 5)]],
  [.aload 1, .iload 3, .invokeinterface 71 2, .pop, .goto 7],
  [.aload 1, .iload 3, .iload 4, .iload 5, .aload 0, .getfield 515, .iconst 3, .aaload, .iload 2, .iaload, .aload 0, .getfield 515, .iconst 4, .aaload, .iload 2, .iaload, .invokeinterface 73 6, .pop, .goto 7],
  [.aload 1, .iload 3, .invokeinterface 95 2, .goto 7],
  [.aload 1, .iload 3, .invokeinterface 97 2, .pop, .goto 7],
  [.aload 1, .iload 3, .invokeinterface 98 2, .goto 7],
  [.aload 1, .iload 3, .iload 4, .iload 5, .invokeinterface 77 4, .pop, .goto_w 7],
  [.return_]]
-- 115 SB.init ()V
def zb_115 : List (List Instr) := [
  [.aload 0, .pop, .aload 0, .new 7, .dup, .invokeinterface 65 1, .putfield 576, .aload 0, .new 7, .dup, .invokeinterface 65 1, .putfield 577, .aload 0, .new 3, .dup, .invokeinterface 31 1, .putfield 578, .aload 0, .new 2, .dup, .invokeinterface 17 1, .putfield 579, .aload 0, .new 5, .dup, .invokeinterface 46 1, .putfield 580, .aload 0, .new 0, .dup, .invokeinterface 0 1, .putfield 581, .aload 0, .new 4, .dup, .invokeinterface 36 1, .putfield 582, .aload 0, .new 1, .dup, .invokeinterface 6 1, .putfield 583, .aload 0, .new 8, .dup, .invokeinterface 102 1, .putfield 584, .return_]]
-- 116 SB.addService (I)I
def zb_116 : List (List Instr) := [
  [.aload 0, .getfield 576, .iload 1, .invokeinterface 70 2, .invokeinterface 156 1, .aload 0, .getfield 578, .aload 0, .getfield 576, .invokeinterface 32 2, .aload 0, .getfield 576, .iload 1, .invokeinterface 71 2, .ireturn]]
-- 117 SB.addCall (IIIII)I
def zb_117 : List (List Instr) := [
  [.aload 0, .getfield 576, .iload 1, .iload 2, .iload 3, .iload 4, .iload 5, .invokeinterface 72 6, .invokeinterface 156 1, .aload 0, .getfield 578, .aload 0, .getfield 576, .invokeinterface 32 2, .aload 0, .getfield 576, .iload 1, .iload 2, .iload 3, .iload 4, .iload 5, .invokeinterface 73 6, .ireturn]]
-- 118 SB.removeCall (I)I
def zb_118 : List (List Instr) := [
  [.aload 0, .getfield 576, .iload 1, .invokeinterface 74 2, .invokeinterface 156 1, .aload 0, .getfield 578, .aload 0, .getfield 576, .invokeinterface 32 2, .aload 0, .getfield 576, .iload 1, .invokeinterface 75 2, .ireturn]]
-- 119 SB.set (III)I
def zb_119 : List (List Instr) := [
  [.aload 0, .getfield 576, .iload 1, .iload 2, .iload 3, .invokeinterface 76 4, .invokeinterface 156 1, .aload 0, .getfield 578, .aload 0, .getfield 576, .invokeinterface 32 2, .aload 0, .getfield 576, .iload 1, .iload 2, .iload 3, .invokeinterface 77 4, .ireturn]]
-- 120 SB.setLimit (II)I
def zb_120 : List (List Instr) := [
  [.aload 0, .getfield 576, .iload 1, .iload 2, .invokeinterface 78 3, .invokeinterface 156 1, .aload 0, .getfield 578, .aload 0, .getfield 576, .invokeinterface 32 2, .aload 0, .getfield 576, .iload 1, .iload 2, .invokeinterface 79 3, .ireturn]]
-- 121 SB.services ()I
def zb_121 : List (List Instr) := [
  [.aload 0, .getfield 576, .getfield 448, .ireturn]]
-- 122 SB.calls ()I
def zb_122 : List (List Instr) := [
  [.aload 0, .getfield 576, .getfield 449, .ireturn]]
-- 123 SB.service (II)I
def zb_123 : List (List Instr) := [
  [.aload 0, .getfield 576, .iload 1, .invokeinterface 67 2, .invokeinterface 156 1, .iload 2, .iconst 0, .iconst 10, .invokeinterface 157 3, .invokeinterface 156 1, .aload 0, .getfield 576, .iload 1, .iload 2, .invokeinterface 80 3, .ireturn]]
-- 124 SB.call (II)I
def zb_124 : List (List Instr) := [
  [.aload 0, .getfield 576, .iload 1, .invokeinterface 68 2, .invokeinterface 156 1, .iload 2, .iconst 0, .iconst 5, .invokeinterface 157 3, .invokeinterface 156 1, .aload 0, .getfield 576, .getfield 451, .iload 2, .aaload, .iload 1, .iaload, .ireturn]]
-- 125 SB.depends (II)Z
def zb_125 : List (List Instr) := [
  [.aload 0, .getfield 576, .iload 1, .invokeinterface 67 2, .invokeinterface 156 1, .aload 0, .getfield 576, .iload 2, .invokeinterface 67 2, .invokeinterface 156 1, .aload 0, .getfield 576, .iload 1, .invokeinterface 87 2, .iload 2, .invokeinterface 158 2, .ireturn]]
-- 126 SB.order (I)I
def zb_126 : List (List Instr) := [
  [.aload 0, .getfield 579, .aload 0, .getfield 576, .invokeinterface 18 2, .aload 0, .getfield 579, .iload 1, .invokeinterface 21 2, .ireturn]]
-- 127 SB.level (I)I
def zb_127 : List (List Instr) := [
  [.aload 0, .getfield 576, .iload 1, .invokeinterface 67 2, .invokeinterface 156 1, .aload 0, .getfield 579, .aload 0, .getfield 576, .invokeinterface 23 2, .aload 0, .getfield 579, .getfield 131, .iload 1, .iaload, .ireturn]]
-- 128 SB.request (II)Z
def zb_128 : List (List Instr) := [
  [.aload 0, .getfield 576, .iload 1, .invokeinterface 67 2, .invokeinterface 156 1, .iload 2, .iconst 0, .iconst 1000, .invokeinterface 157 3, .invokeinterface 156 1, .aload 0, .getfield 580, .aload 0, .getfield 576, .iload 1, .iload 2, .invokeinterface 47 4, .ireturn]]
-- 129 SB.result (I)I
def zb_129 : List (List Instr) := [
  [.iload 1, .iconst 0, .iconst 5, .invokeinterface 157 3, .invokeinterface 156 1, .aload 0, .getfield 580, .invokeinterface 52 1, .invokeinterface 156 1, .aload 0, .getfield 580, .iload 1, .invokeinterface 53 2, .ireturn]]
-- 130 SB.failure (II)I
def zb_130 : List (List Instr) := [
  [.iload 2, .iconst 0, .iconst 3, .invokeinterface 157 3, .invokeinterface 156 1, .aload 0, .getfield 580, .iload 1, .iload 2, .invokeinterface 55 3, .ireturn]]
-- 131 SB.attempt (II)I
def zb_131 : List (List Instr) := [
  [.iload 2, .iconst 0, .iconst 3, .invokeinterface 157 3, .invokeinterface 156 1, .aload 0, .getfield 580, .iload 1, .iload 2, .invokeinterface 56 3, .ireturn]]
-- 132 SB.leastBudget (I)I
def zb_132 : List (List Instr) := [
  [.aload 0, .getfield 576, .iload 1, .invokeinterface 67 2, .invokeinterface 156 1, .aload 0, .getfield 581, .aload 0, .getfield 576, .iload 1, .invokeinterface 1 3, .ireturn]]
-- 133 SB.worst (I)I
def zb_133 : List (List Instr) := [
  [.aload 0, .getfield 576, .iload 1, .invokeinterface 67 2, .invokeinterface 156 1, .aload 0, .getfield 579, .aload 0, .getfield 576, .invokeinterface 25 2, .aload 0, .getfield 579, .getfield 132, .iload 1, .iaload, .ireturn]]
-- 134 SB.unsound ()I
def zb_134 : List (List Instr) := [
  [.aload 0, .getfield 579, .aload 0, .getfield 576, .invokeinterface 25 2, .aload 0, .getfield 579, .aload 0, .getfield 576, .invokeinterface 27 2, .ireturn]]
-- 135 SB.tighten ()I
def zb_135 : List (List Instr) := [
  [.aload 0, .getfield 578, .aload 0, .getfield 576, .invokeinterface 32 2, .aload 0, .getfield 579, .aload 0, .getfield 576, .invokeinterface 28 2, .ireturn]]
-- 136 SB.fail (I)I
def zb_136 : List (List Instr) := [
  [.aload 0, .getfield 576, .iload 1, .invokeinterface 94 2, .invokeinterface 156 1, .aload 0, .getfield 578, .aload 0, .getfield 576, .invokeinterface 32 2, .aload 0, .getfield 576, .iload 1, .invokeinterface 95 2, .aload 0, .getfield 576, .invokeinterface 93 1, .ireturn]]
-- 137 SB.repair (I)I
def zb_137 : List (List Instr) := [
  [.aload 0, .getfield 576, .iload 1, .invokeinterface 96 2, .invokeinterface 156 1, .aload 0, .getfield 578, .aload 0, .getfield 576, .invokeinterface 32 2, .aload 0, .getfield 576, .iload 1, .invokeinterface 97 2, .ireturn]]
-- 138 SB.steps (I)I
def zb_138 : List (List Instr) := [
  [.iload 1, .iconst 1, .iconst 50, .invokeinterface 157 3, .invokeinterface 156 1, .aload 0, .getfield 578, .aload 0, .getfield 576, .invokeinterface 32 2, .aload 0, .getfield 576, .iload 1, .invokeinterface 98 2, .aload 0, .getfield 576, .invokeinterface 93 1, .ireturn]]
-- 139 SB.down ()I
def zb_139 : List (List Instr) := [
  [.aload 0, .getfield 576, .invokeinterface 92 1, .ireturn]]
-- 140 SB.spread (I)I
def zb_140 : List (List Instr) := [
  [.aload 0, .getfield 576, .iload 1, .invokeinterface 94 2, .invokeinterface 156 1, .aload 0, .getfield 577, .aload 0, .getfield 576, .invokeinterface 66 2, .aload 0, .getfield 577, .iload 1, .invokeinterface 95 2, .aload 0, .getfield 577, .iconst 40, .invokeinterface 98 2, .aload 0, .getfield 577, .invokeinterface 92 1, .ireturn]]
-- 141 SB.calm (I)I
def zb_141 : List (List Instr) := [
  [.aload 0, .getfield 576, .iload 1, .invokeinterface 94 2, .invokeinterface 156 1, .aload 0, .getfield 577, .aload 0, .getfield 576, .invokeinterface 66 2, .aload 0, .getfield 577, .iload 1, .invokeinterface 95 2, .iconst 1, .istore 2, .goto_w 1],
  [.iload 2, .iconst 40, .if_icmp .gt 3, .aload 0, .getfield 577, .invokeinterface 99 1, .ifCond .eq 2, .iload 2, .ireturn],
  [.iinc 2 1, .goto 1],
  [.iconst (-1), .ireturn]]
-- 142 SB.recoveryTime (I)I
def zb_142 : List (List Instr) := [
  [.iload 1, .iconst 1, .iconst 4, .invokeinterface 157 3, .invokeinterface 156 1, .aload 0, .getfield 582, .aload 0, .getfield 576, .iload 1, .invokeinterface 38 3, .ireturn]]
-- 143 SB.recoveryStart (II)I
def zb_143 : List (List Instr) := [
  [.iload 1, .iconst 1, .iconst 4, .invokeinterface 157 3, .invokeinterface 156 1, .aload 0, .getfield 576, .iload 2, .invokeinterface 67 2, .invokeinterface 156 1, .aload 0, .getfield 576, .iload 2, .invokeinterface 91 2, .ifCond .eq 1, .iconst (-1), .ireturn],
  [.aload 0, .getfield 582, .aload 0, .getfield 576, .iload 1, .invokeinterface 38 3, .pop, .aload 0, .getfield 582, .getfield 257, .iload 2, .iaload, .ireturn]]
-- 144 SB.bestCost ()I
def zb_144 : List (List Instr) := [
  [.aload 0, .getfield 582, .aload 0, .getfield 576, .invokeinterface 42 2, .ireturn]]
-- 145 SB.bestOrder (I)I
def zb_145 : List (List Instr) := [
  [.aload 0, .getfield 582, .aload 0, .getfield 576, .iload 1, .invokeinterface 45 3, .ireturn]]
-- 146 SB.failsBy (II)Z
def zb_146 : List (List Instr) := [
  [.aload 0, .getfield 576, .iload 1, .invokeinterface 67 2, .invokeinterface 156 1, .aload 0, .getfield 576, .iload 2, .invokeinterface 69 2, .invokeinterface 156 1, .aload 0, .getfield 579, .aload 0, .getfield 576, .invokeinterface 18 2, .aload 0, .getfield 579, .aload 0, .getfield 576, .iload 2, .invokeinterface 30 3, .iload 1, .invokeinterface 158 2, .ireturn]]
-- 147 SB.cuts (II)I
def zb_147 : List (List Instr) := [
  [.aload 0, .getfield 576, .iload 1, .invokeinterface 67 2, .invokeinterface 156 1, .iload 2, .iconst 1, .iconst 12, .invokeinterface 157 3, .invokeinterface 156 1, .aload 0, .getfield 579, .aload 0, .getfield 576, .invokeinterface 18 2, .aload 0, .getfield 583, .aload 0, .getfield 576, .aload 0, .getfield 579, .invokeinterface 7 3, .aload 0, .getfield 583, .aload 0, .getfield 576, .iload 1, .iload 2, .invokeinterface 12 4, .ireturn]]
-- 148 SB.cut (III)I
def zb_148 : List (List Instr) := [
  [.aload 0, .getfield 576, .iload 1, .invokeinterface 67 2, .invokeinterface 156 1, .iload 2, .iconst 1, .iconst 12, .invokeinterface 157 3, .invokeinterface 156 1, .aload 0, .getfield 579, .aload 0, .getfield 576, .invokeinterface 18 2, .aload 0, .getfield 583, .aload 0, .getfield 576, .aload 0, .getfield 579, .invokeinterface 7 3, .aload 0, .getfield 583, .aload 0, .getfield 576, .iload 1, .iload 2, .iload 3, .invokeinterface 13 5, .ireturn]]
-- 149 SB.availability (I)I
def zb_149 : List (List Instr) := [
  [.aload 0, .getfield 576, .iload 1, .invokeinterface 67 2, .invokeinterface 156 1, .aload 0, .getfield 579, .aload 0, .getfield 576, .invokeinterface 18 2, .aload 0, .getfield 583, .aload 0, .getfield 576, .aload 0, .getfield 579, .invokeinterface 7 3, .aload 0, .getfield 583, .aload 0, .getfield 576, .iload 1, .iconst (-1), .invokeinterface 14 4, .d2f, .invokeinterface 159 1, .ireturn]]
-- 150 SB.weakest (I)I
def zb_150 : List (List Instr) := [
  [.aload 0, .getfield 576, .iload 1, .invokeinterface 67 2, .invokeinterface 156 1, .aload 0, .getfield 579, .aload 0, .getfield 576, .invokeinterface 18 2, .aload 0, .getfield 583, .aload 0, .getfield 576, .aload 0, .getfield 579, .invokeinterface 7 3, .aload 0, .getfield 583, .aload 0, .getfield 576, .iload 1, .invokeinterface 16 3, .ireturn]]
-- 151 SB.append (I)I
def zb_151 : List (List Instr) := [
  [.iload 1, .iconst 0, .iconst 127, .invokeinterface 157 3, .invokeinterface 156 1, .aload 0, .getfield 584, .invokeinterface 103 1, .invokeinterface 156 1, .aload 0, .getfield 584, .iload 1, .invokeinterface 104 2, .ireturn]]
-- 152 SB.clearText ()I
def zb_152 : List (List Instr) := [
  [.aload 0, .getfield 584, .invokeinterface 105 1, .ireturn]]
-- 153 SB.execute ()I
def zb_153 : List (List Instr) := [
  [.aload 0, .getfield 584, .invokeinterface 106 1, .istore 1, .iload 1, .ifCond .ge 1, .iload 1, .ireturn],
  [.aload 0, .getfield 577, .aload 0, .getfield 576, .invokeinterface 66 2, .iconst 0, .istore 2, .goto_w 2],
  [.iload 2, .iload 1, .if_icmp .ge 4, .aload 0, .getfield 584, .aload 0, .getfield 576, .iload 2, .invokeinterface 113 3, .ifCond .eq 3, .aload 0, .getfield 576, .aload 0, .getfield 577, .invokeinterface 66 2, .iconst (-1000), .iload 2, .isub, .ireturn],
  [.aload 0, .getfield 584, .aload 0, .getfield 576, .iload 2, .invokeinterface 114 3, .iinc 2 1, .goto 2],
  [.aload 0, .getfield 578, .aload 0, .getfield 577, .invokeinterface 32 2, .iload 1, .ireturn]]
-- 154 SB.undo ()I
def zb_154 : List (List Instr) := [
  [.aload 0, .getfield 578, .invokeinterface 34 1, .invokeinterface 156 1, .aload 0, .getfield 578, .aload 0, .getfield 576, .invokeinterface 35 2, .ireturn]]
-- 155 SB.digest ()J
def zb_155 : List (List Instr) := [
  [.aload 0, .getfield 579, .aload 0, .getfield 576, .invokeinterface 25 2, .jsr_w 57381, .aload 0, .getfield 576, .getfield 448, .i2l, .ladd, .lstore 1, .iconst 0, .istore 3, .goto_w 1],
  [.iload 3, .aload 0, .getfield 576, .getfield 448, .if_icmp .ge 4, .iconst 0, .istore 4, .goto_w 2],
  [.iload 4, .iconst 10, .if_icmp .gt 3, .jsr_w 31, .lload 1, .lmul, .aload 0, .getfield 576, .iload 3, .iload 4, .invokeinterface 80 3, .i2l, .ladd, .lstore 1, .iinc 4 1, .goto 2],
  [.jsr_w 31, .lload 1, .lmul, .aload 0, .getfield 579, .getfield 132, .iload 3, .iaload, .i2l, .ladd, .lstore 1, .iinc 3 1, .goto 1],
  [.jsr_w 31, .lload 1, .lmul, .aload 0, .getfield 576, .getfield 449, .i2l, .ladd, .lstore 1, .iconst 0, .istore 3, .goto_w 5],
  [.iload 3, .aload 0, .getfield 576, .getfield 449, .if_icmp .ge 8, .iconst 0, .istore 4, .goto_w 6],
  [.iload 4, .iconst 5, .if_icmp .gt 7, .jsr_w 31, .lload 1, .lmul, .aload 0, .getfield 576, .getfield 451, .iload 4, .aaload, .iload 3, .iaload, .i2l, .ladd, .lstore 1, .iinc 4 1, .goto 6],
  [.iinc 3 1, .goto 5],
  [.jsr_w 31, .lload 1, .lmul, .aload 0, .getfield 579, .aload 0, .getfield 576, .invokeinterface 27 2, .i2l, .ladd, .lstore 1, .jsr_w 31, .lload 1, .lmul, .aload 0, .getfield 576, .invokeinterface 92 1, .i2l, .ladd, .lstore 1, .jsr_w 31, .lload 1, .lmul, .aload 0, .getfield 582, .aload 0, .getfield 576, .iconst 2, .invokeinterface 38 3, .i2l, .ladd, .lstore 1, .jsr_w 31, .lload 1, .lmul, .aload 0, .getfield 582, .aload 0, .getfield 576, .invokeinterface 42 2, .i2l, .ladd, .lstore 1, .jsr_w 31, .lload 1, .lmul, .aload 0, .getfield 584, .getfield 513, .i2l, .ladd, .lstore 1, .jsr_w 31, .lload 1, .lmul, .aload 0, .getfield 578, .getfield 193, .i2l, .ladd, .lreturn]]
-- 156 SB.refuse (I)V
def zb_156 : List (List Instr) := []
-- 157 SB.whyNotWithin (III)I
def zb_157 : List (List Instr) := [
  [.iload 0, .iload 1, .if_icmp .lt 1, .iload 0, .iload 2, .if_icmp .le 2, .goto_w 1],
  [.iconst 2, .goto 3],
  [.iconst 0, .goto_w 3],
  [.ireturn]]
-- 158 SB.contains (II)Z
def zb_158 : List (List Instr) := [
  [.iload 0, .iload 1, .ishr, .iconst 1, .iand, .ifCond .eq 1, .iconst 1, .goto 2],
  [.iconst 0, .goto_w 2],
  [.ireturn]]
-- 159 SB.bitsOf (F)I
def zb_159 : List (List Instr) := [
  [.fload 0, .f2d, .dstore 1, .dload 1, .jsr 0, .dcmp .g, .ifCond .gt 1, .iconst 0, .ireturn],
  [.iconst 127, .istore 3, .goto_w 2],
  [.dload 1, .jsr 4607182418800017408, .dcmp .g, .ifCond .ge 3, .iload 3, .iconst 1, .if_icmp .le 3, .dload 1, .jsr 4611686018427387904, .dmul, .dstore 1, .iinc 3 (-1), .goto 2],
  [.dload 1, .jsr 4607182418800017408, .dcmp .g, .ifCond .ge 4, .dload 1, .jsr 4710765210229538816, .dmul, .d2i, .ireturn],
  [.iload 3, .iconst 23, .ishl, .dload 1, .jsr 4607182418800017408, .dsub, .jsr 4710765210229538816, .dmul, .d2i, .iadd, .ireturn]]
-- 160 M.init ()V
def zb_160 : List (List Instr) := [
  [.aload 0, .pop, .aload 0, .iconst 230, .newarray .int, .putfield 640, .aload 0, .iconst 920, .newarray .int, .putfield 641, .aload 0, .iconst 230, .newarray .int, .putfield 642, .aload 0, .iconst 120, .newarray .int, .putfield 644, .aload 0, .iconst 12, .newarray .int, .putfield 647, .aload 0, .iconst 12, .newarray .int, .putfield 648, .aload 0, .iconst 12, .newarray .int, .putfield 650, .aload 0, .iconst 13, .newarray .int, .putfield 651, .aload 0, .iconst 13, .newarray .int, .putfield 652, .aload 0, .iconst 13, .newarray .int, .putfield 653, .aload 0, .iconst 13, .newarray .int, .putfield 654, .aload 0, .iconst 13, .newarray .int, .putfield 655, .aload 0, .iconst 13, .newarray .int, .putfield 656, .aload 0, .iconst 13, .newarray .int, .putfield 657, .aload 0, .iconst 13, .newarray .boolean, .putfield 658, .aload 0, .iconst 13, .newarray .int, .putfield 659, .aload 0, .iconst 240, .newarray .int, .putfield 668, .aload 0, .iconst 800, .newarray .int, .putfield 669, .aload 0, .iconst 6, .newarray .int, .putfield 670, .aload 0, .iconst 240, .newarray .int, .putfield 671, .aload 0, .iconst 800, .newarray .int, .putfield 672, .aload 0, .iconst 12, .newarray .int, .putfield 675, .aload 0, .iconst 12, .newarray .int, .putfield 677, .aload 0, .iconst 4096, .newarray .int, .putfield 678, .aload 0, .iconst 4096, .newarray .boolean, .putfield 679, .aload 0, .iconst 5, .newarray .int, .putfield 682, .aload 0, .getfield 640, .iconst 0, .iconst 0, .iastore, .return_]]
-- 161 M.thrown ()I
def zb_161 : List (List Instr) := [
  [.aload 0, .getfield 646, .ireturn]]
-- 162 M.in (III)Z
def zb_162 : List (List Instr) := [
  [.iload 0, .iload 1, .if_icmp .lt 1, .iload 0, .iload 2, .if_icmp .gt 1, .iconst 1, .goto 2],
  [.iconst 0, .goto_w 2],
  [.ireturn]]
-- 163 M.fails (I)I
def zb_163 : List (List Instr) := [
  [.aload 0, .iload 1, .putfield 646, .iconst 0, .ireturn]]
-- 164 M.tells (I)I
def zb_164 : List (List Instr) := [
  [.aload 0, .iconst 0, .putfield 646, .iload 1, .ireturn]]
-- 165 M.hold ()V
def zb_165 : List (List Instr) := [
  [.iconst 0, .istore 1, .goto_w 1],
  [.iload 1, .iconst 230, .if_icmp .ge 2, .aload 0, .getfield 642, .iload 1, .aload 0, .getfield 640, .iload 1, .iaload, .iastore, .iinc 1 1, .goto 1],
  [.return_]]
-- 166 M.restore ()V
def zb_166 : List (List Instr) := [
  [.iconst 0, .istore 1, .goto_w 1],
  [.iload 1, .iconst 230, .if_icmp .ge 2, .aload 0, .getfield 640, .iload 1, .aload 0, .getfield 642, .iload 1, .iaload, .iastore, .iinc 1 1, .goto 1],
  [.return_]]
-- 167 M.ends (I)I
def zb_167 : List (List Instr) := [
  [.aload 0, .getfield 643, .iconst 4, .if_icmp .ne 3, .iconst 0, .istore 2, .goto_w 1],
  [.iload 2, .iconst 690, .if_icmp .ge 2, .aload 0, .getfield 641, .iload 2, .aload 0, .getfield 641, .iload 2, .iconst 230, .iadd, .iaload, .iastore, .iinc 2 1, .goto 1],
  [.aload 0, .dup, .getfield 643, .iconst 1, .isub, .putfield 643, .goto_w 3],
  [.iconst 0, .istore 2, .goto_w 4],
  [.iload 2, .iconst 230, .if_icmp .ge 5, .aload 0, .getfield 641, .iconst 230, .aload 0, .getfield 643, .imul, .iload 2, .iadd, .aload 0, .getfield 642, .iload 2, .iaload, .iastore, .iinc 2 1, .goto 4],
  [.aload 0, .dup, .getfield 643, .iconst 1, .iadd, .putfield 643, .aload 0, .iload 1, .invokeinterface 164 2, .ireturn]]
-- 168 M.of (II)I
def zb_168 : List (List Instr) := [
  [.aload 0, .getfield 640, .iconst 2, .iconst 9, .iload 1, .imul, .iadd, .iload 2, .iadd, .iaload, .ireturn]]
-- 169 M.puts (III)V
def zb_169 : List (List Instr) := [
  [.aload 0, .getfield 640, .iconst 2, .iconst 9, .iload 1, .imul, .iadd, .iload 2, .iadd, .iload 3, .iastore, .return_]]
-- 170 M.callOf (II)I
def zb_170 : List (List Instr) := [
  [.aload 0, .getfield 640, .iconst 110, .iconst 5, .iload 1, .imul, .iadd, .iload 2, .iadd, .iaload, .ireturn]]
-- 171 M.caller (I)I
def zb_171 : List (List Instr) := [
  [.aload 0, .iload 1, .iconst 0, .invokeinterface 170 3, .ireturn]]
-- 172 M.callee (I)I
def zb_172 : List (List Instr) := [
  [.aload 0, .iload 1, .iconst 1, .invokeinterface 170 3, .ireturn]]
-- 173 M.isReplacement (I)Z
def zb_173 : List (List Instr) := [
  [.aload 0, .iload 1, .iconst 4, .invokeinterface 170 3, .iconst 2, .if_icmp .ne 1, .iconst 1, .goto 2],
  [.iconst 0, .goto_w 2],
  [.ireturn]]
-- 174 M.isService (I)Z
def zb_174 : List (List Instr) := [
  [.iload 1, .iconst 0, .aload 0, .getfield 640, .iconst 0, .iaload, .iconst 1, .isub, .invokeinterface 162 3, .ireturn]]
-- 175 M.isCall (I)Z
def zb_175 : List (List Instr) := [
  [.iload 1, .iconst 0, .aload 0, .getfield 640, .iconst 1, .iaload, .iconst 1, .isub, .invokeinterface 162 3, .ireturn]]
-- 176 M.isUp (I)Z
def zb_176 : List (List Instr) := [
  [.aload 0, .iload 1, .iconst 6, .invokeinterface 168 3, .iconst 1, .if_icmp .ne 1, .iconst 1, .goto 2],
  [.iconst 0, .goto_w 2],
  [.ireturn]]
-- 177 M.own (I)I
def zb_177 : List (List Instr) := [
  [.aload 0, .iload 1, .iconst 0, .invokeinterface 168 3, .aload 0, .iload 1, .iconst 1, .invokeinterface 168 3, .imul, .iconst 99, .iadd, .iconst 100, .idiv, .ireturn]]
-- 178 M.nextCall (II)I
def zb_178 : List (List Instr) := [
  [.iload 2, .iconst 1, .iadd, .istore 3, .goto_w 1],
  [.iload 3, .aload 0, .getfield 640, .iconst 1, .iaload, .if_icmp .ge 2, .aload 0, .iload 3, .invokeinterface 171 2, .iload 1, .if_icmp .eq 2, .iinc 3 1, .goto 1],
  [.iload 3, .ireturn]]
-- 179 M.callsOf (I)I
def zb_179 : List (List Instr) := [
  [.iconst 0, .istore 2, .iconst 0, .istore 3, .goto_w 1],
  [.iload 3, .aload 0, .getfield 640, .iconst 1, .iaload, .if_icmp .ge 4, .iload 2, .aload 0, .iload 3, .invokeinterface 171 2, .iload 1, .if_icmp .ne 2, .iconst 1, .goto 3],
  [.iconst 0, .goto_w 3],
  [.iadd, .istore 2, .iinc 3 1, .goto 1],
  [.iload 2, .ireturn]]
-- 180 M.laysNeeds ()V
def zb_180 : List (List Instr) := [
  [.iconst 0, .istore 1, .goto_w 1],
  [.iload 1, .iconst 12, .if_icmp .ge 2, .aload 0, .getfield 647, .iload 1, .iconst 0, .iastore, .iinc 1 1, .goto 1],
  [.iconst 1, .istore 1, .goto_w 3],
  [.iload 1, .ifCond .eq 9, .iconst 0, .istore 1, .iconst 0, .istore 2, .goto_w 4],
  [.iload 2, .aload 0, .getfield 640, .iconst 1, .iaload, .if_icmp .ge 8, .aload 0, .getfield 647, .aload 0, .iload 2, .invokeinterface 171 2, .iaload, .iconst 1, .aload 0, .iload 2, .invokeinterface 172 2, .ishl, .ior, .aload 0, .getfield 647, .aload 0, .iload 2, .invokeinterface 172 2, .iaload, .ior, .istore 3, .iload 1, .ifCond .ne 5, .iload 3, .aload 0, .getfield 647, .aload 0, .iload 2, .invokeinterface 171 2, .iaload, .if_icmp .eq 6, .goto_w 5],
  [.iconst 1, .goto 7],
  [.iconst 0, .goto_w 7],
  [.istore 1, .aload 0, .getfield 647, .aload 0, .iload 2, .invokeinterface 171 2, .iload 3, .iastore, .iinc 2 1, .goto 4],
  [.goto 3],
  [.return_]]
-- 181 M.laysOrder ()V
def zb_181 : List (List Instr) := [
  [.aload 0, .invokeinterface 180 1, .iconst 0, .istore 1, .iconst 0, .istore 2, .goto_w 1],
  [.iload 2, .aload 0, .getfield 640, .iconst 0, .iaload, .if_icmp .ge 5, .iconst 0, .istore 3, .goto_w 2],
  [.iload 1, .iload 3, .ishr, .iconst 1, .iand, .iconst 1, .if_icmp .eq 3, .aload 0, .getfield 647, .iload 3, .iaload, .iload 1, .iconst (-1), .ixor, .iand, .ifCond .eq 4, .goto_w 3],
  [.iinc 3 1, .goto 2],
  [.aload 0, .getfield 648, .iload 2, .iload 3, .iastore, .iload 1, .iconst 1, .iload 3, .ishl, .ior, .istore 1, .iinc 2 1, .goto 1],
  [.return_]]
-- 182 M.dependsOn (II)Z
def zb_182 : List (List Instr) := [
  [.aload 0, .invokeinterface 180 1, .aload 0, .getfield 647, .iload 1, .iaload, .iload 2, .ishr, .iconst 1, .iand, .iconst 1, .if_icmp .ne 1, .iconst 1, .goto 2],
  [.iconst 0, .goto_w 2],
  [.ireturn]]
-- 183 M.addsService (I)I
def zb_183 : List (List Instr) := [
  [.iload 1, .iconst 1, .iconst 100, .invokeinterface 162 3, .ifCond .ne 1, .iconst 1, .ireturn],
  [.aload 0, .getfield 640, .iconst 0, .iaload, .iconst 12, .if_icmp .ne 2, .iconst 2, .ireturn],
  [.aload 0, .getfield 640, .iconst 0, .iaload, .istore 2, .aload 0, .iload 2, .iconst 0, .iload 1, .invokeinterface 169 4, .aload 0, .iload 2, .iconst 1, .iconst 100, .invokeinterface 169 4, .aload 0, .iload 2, .iconst 2, .iconst 2, .invokeinterface 169 4, .aload 0, .iload 2, .iconst 3, .iconst 3, .invokeinterface 169 4, .aload 0, .iload 2, .iconst 4, .iconst 1, .invokeinterface 169 4, .aload 0, .iload 2, .iconst 5, .iconst 990, .invokeinterface 169 4, .aload 0, .iload 2, .iconst 6, .iconst 1, .invokeinterface 169 4, .aload 0, .iload 2, .iconst 7, .iconst 0, .invokeinterface 169 4, .aload 0, .iload 2, .iconst 8, .iconst (-1), .invokeinterface 169 4, .aload 0, .getfield 640, .iconst 0, .dup2, .iaload, .iconst 1, .iadd, .iastore, .aload 0, .iload 2, .putfield 649, .iconst 0, .ireturn]]
-- 184 M.addsCall (IIIII)I
def zb_184 : List (List Instr) := [
  [.aload 0, .iload 1, .invokeinterface 174 2, .ifCond .eq 1, .aload 0, .iload 2, .invokeinterface 174 2, .ifCond .ne 2, .goto_w 1],
  [.iconst 1, .ireturn],
  [.iload 3, .iconst 1, .iconst 500, .invokeinterface 162 3, .ifCond .eq 3, .iload 4, .iconst 1, .iconst 3, .invokeinterface 162 3, .ifCond .eq 3, .iload 5, .iconst 0, .iconst 2, .invokeinterface 162 3, .ifCond .ne 4, .goto_w 3],
  [.iconst 2, .ireturn],
  [.iload 1, .iload 2, .if_icmp .eq 6, .aload 0, .iload 2, .iload 1, .invokeinterface 182 3, .ifCond .ne 6, .iload 5, .iconst 2, .if_icmp .ne 5, .aload 0, .iload 1, .invokeinterface 179 2, .ifCond .eq 6, .goto_w 5],
  [.aload 0, .getfield 640, .iconst 1, .iaload, .iconst 24, .if_icmp .ne 7, .goto_w 6],
  [.iconst 3, .ireturn],
  [.iconst 110, .iconst 5, .aload 0, .getfield 640, .iconst 1, .iaload, .imul, .iadd, .istore 6, .aload 0, .getfield 640, .iload 6, .iload 1, .iastore, .aload 0, .getfield 640, .iload 6, .iconst 1, .iadd, .iload 2, .iastore, .aload 0, .getfield 640, .iload 6, .iconst 2, .iadd, .iload 3, .iastore, .aload 0, .getfield 640, .iload 6, .iconst 3, .iadd, .iload 4, .iastore, .aload 0, .getfield 640, .iload 6, .iconst 4, .iadd, .iload 5, .iastore, .aload 0, .aload 0, .getfield 640, .iconst 1, .iaload, .putfield 649, .aload 0, .getfield 640, .iconst 1, .dup2, .iaload, .iconst 1, .iadd, .iastore, .iconst 0, .ireturn]]
-- 185 M.isValue (II)Z
def zb_185 : List (List Instr) := [
  [.iload 0, .lookupswitch 6 #[(0, 1), (1, 2), (2, 3), (3, 4), (4, 3), (5, 5)]],
  [.iload 1, .iconst 1, .iconst 100, .invokeinterface 162 3, .ireturn],
  [.iload 1, .iconst 50, .iconst 400, .invokeinterface 162 3, .ireturn],
  [.iload 1, .iconst 1, .iconst 9, .invokeinterface 162 3, .ireturn],
  [.iload 1, .iconst 1, .iconst 20, .invokeinterface 162 3, .ireturn],
  [.iload 1, .iconst 0, .iconst 1000, .invokeinterface 162 3, .ireturn],
  [.iconst 0, .ireturn]]
-- 186 M.changes (III)I
def zb_186 : List (List Instr) := [
  [.aload 0, .iload 2, .invokeinterface 174 2, .ifCond .ne 1, .iconst 1, .ireturn],
  [.iload 1, .iload 3, .invokeinterface 185 2, .ifCond .ne 2, .iconst 2, .ireturn],
  [.aload 0, .aload 0, .iload 2, .iload 1, .invokeinterface 168 3, .putfield 649, .aload 0, .iload 2, .iload 1, .iload 3, .invokeinterface 169 4, .iconst 0, .ireturn]]
-- 187 M.ups ()I
def zb_187 : List (List Instr) := [
  [.iconst 0, .istore 1, .iconst 0, .istore 2, .goto_w 1],
  [.iload 2, .aload 0, .getfield 640, .iconst 0, .iaload, .if_icmp .ge 2, .iload 1, .aload 0, .iload 2, .iconst 6, .invokeinterface 168 3, .iadd, .istore 1, .iinc 2 1, .goto 1],
  [.iload 1, .ireturn]]
-- 188 M.drops (I)I
def zb_188 : List (List Instr) := [
  [.aload 0, .iload 1, .invokeinterface 174 2, .ifCond .ne 1, .iconst 1, .ireturn],
  [.aload 0, .iload 1, .invokeinterface 176 2, .ifCond .ne 2, .iconst 2, .ireturn],
  [.aload 0, .iload 1, .invokeinterface 189 2, .aload 0, .aload 0, .invokeinterface 187 1, .putfield 649, .iconst 0, .ireturn]]
-- 189 M.goesDown (I)V
def zb_189 : List (List Instr) := [
  [.aload 0, .iload 1, .iconst 6, .iconst 0, .invokeinterface 169 4, .aload 0, .iload 1, .iconst 7, .iconst 0, .invokeinterface 169 4, .aload 0, .iload 1, .iconst 8, .iconst (-1), .invokeinterface 169 4, .return_]]
-- 190 M.mends (I)I
def zb_190 : List (List Instr) := [
  [.aload 0, .iload 1, .invokeinterface 174 2, .ifCond .ne 1, .iconst 1, .ireturn],
  [.aload 0, .iload 1, .invokeinterface 176 2, .ifCond .ne 2, .aload 0, .iload 1, .iconst 8, .invokeinterface 168 3, .iconst (-1), .if_icmp .eq 3, .goto_w 2],
  [.iconst 2, .ireturn],
  [.aload 0, .iload 1, .iconst 8, .aload 0, .iload 1, .iconst 3, .invokeinterface 168 3, .invokeinterface 169 4, .aload 0, .aload 0, .iload 1, .iconst 8, .invokeinterface 168 3, .putfield 649, .iconst 0, .ireturn]]
-- 191 M.goes (I)I
def zb_191 : List (List Instr) := [
  [.iload 1, .iconst 1, .iconst 50, .invokeinterface 162 3, .ifCond .ne 1, .iconst 1, .ireturn],
  [.iconst 0, .istore 2, .goto_w 2],
  [.iload 2, .iload 1, .if_icmp .ge 3, .aload 0, .invokeinterface 231 1, .istore 3, .aload 0, .iload 3, .putfield 649, .iinc 2 1, .goto 2],
  [.aload 0, .aload 0, .invokeinterface 187 1, .putfield 649, .iconst 0, .ireturn]]
-- 192 M.done (I)I
def zb_192 : List (List Instr) := [
  [.iload 1, .ifCond .le 1, .aload 0, .iload 1, .invokeinterface 163 2, .goto 2],
  [.aload 0, .aload 0, .getfield 649, .invokeinterface 167 2, .goto_w 2],
  [.ireturn]]
-- 193 M.addService (I)I
def zb_193 : List (List Instr) := [
  [.aload 0, .invokeinterface 165 1, .aload 0, .aload 0, .iload 1, .invokeinterface 183 2, .invokeinterface 192 2, .ireturn]]
-- 194 M.addCall (IIIII)I
def zb_194 : List (List Instr) := [
  [.aload 0, .invokeinterface 165 1, .aload 0, .aload 0, .iload 1, .iload 2, .iload 3, .iload 4, .iload 5, .invokeinterface 184 6, .invokeinterface 192 2, .ireturn]]
-- 195 M.leader (I)I
def zb_195 : List (List Instr) := [
  [.iconst (-1), .istore 2, .iconst 0, .istore 3, .goto_w 1],
  [.iload 3, .iload 1, .if_icmp .ge 4, .aload 0, .iload 1, .invokeinterface 173 2, .ifCond .eq 4, .aload 0, .iload 3, .invokeinterface 171 2, .aload 0, .iload 1, .invokeinterface 171 2, .if_icmp .ne 2, .aload 0, .iload 3, .invokeinterface 173 2, .ifCond .ne 2, .iload 3, .goto 3],
  [.iload 2, .goto_w 3],
  [.istore 2, .iinc 3 1, .goto 1],
  [.iload 2, .ireturn]]
-- 196 M.removeCall (I)I
def zb_196 : List (List Instr) := [
  [.aload 0, .iload 1, .invokeinterface 175 2, .ifCond .ne 1, .aload 0, .iconst 1, .invokeinterface 163 2, .ireturn],
  [.iload 1, .iconst 1, .iadd, .istore 2, .goto_w 2],
  [.iload 2, .aload 0, .getfield 640, .iconst 1, .iaload, .if_icmp .ge 4, .aload 0, .iload 2, .invokeinterface 195 2, .iload 1, .if_icmp .ne 3, .aload 0, .iconst 2, .invokeinterface 163 2, .ireturn],
  [.iinc 2 1, .goto 2],
  [.aload 0, .invokeinterface 165 1, .aload 0, .getfield 640, .iconst 1, .dup2, .iaload, .iconst 1, .isub, .iastore, .iconst 110, .iconst 5, .iload 1, .imul, .iadd, .istore 2, .goto_w 5],
  [.iload 2, .iconst 110, .iconst 5, .aload 0, .getfield 640, .iconst 1, .iaload, .imul, .iadd, .if_icmp .ge 6, .aload 0, .getfield 640, .iload 2, .aload 0, .getfield 640, .iload 2, .iconst 5, .iadd, .iaload, .iastore, .iinc 2 1, .goto 5],
  [.aload 0, .aload 0, .getfield 640, .iconst 1, .iaload, .invokeinterface 167 2, .ireturn]]
-- 197 M.set (III)I
def zb_197 : List (List Instr) := [
  [.aload 0, .invokeinterface 165 1, .aload 0, .aload 0, .iload 1, .iload 2, .iload 3, .invokeinterface 186 4, .invokeinterface 192 2, .ireturn]]
-- 198 M.setLimit (II)I
def zb_198 : List (List Instr) := [
  [.aload 0, .iload 1, .invokeinterface 175 2, .ifCond .ne 1, .aload 0, .iconst 1, .invokeinterface 163 2, .ireturn],
  [.iload 2, .iconst 1, .iconst 500, .invokeinterface 162 3, .ifCond .ne 2, .aload 0, .iconst 2, .invokeinterface 163 2, .ireturn],
  [.aload 0, .invokeinterface 165 1, .aload 0, .iload 1, .iconst 2, .invokeinterface 170 3, .istore 3, .aload 0, .getfield 640, .iconst 110, .iconst 5, .iload 1, .imul, .iadd, .iconst 2, .iadd, .iload 2, .iastore, .aload 0, .iload 3, .invokeinterface 167 2, .ireturn]]
-- 199 M.services ()I
def zb_199 : List (List Instr) := [
  [.aload 0, .aload 0, .getfield 640, .iconst 0, .iaload, .invokeinterface 164 2, .ireturn]]
-- 200 M.calls ()I
def zb_200 : List (List Instr) := [
  [.aload 0, .aload 0, .getfield 640, .iconst 1, .iaload, .invokeinterface 164 2, .ireturn]]
-- 201 M.value (II)I
def zb_201 : List (List Instr) := [
  [.iload 2, .iconst 9, .if_icmp .ge 1, .aload 0, .iload 1, .iload 2, .invokeinterface 168 3, .goto 3],
  [.iload 2, .iconst 9, .if_icmp .ne 2, .aload 0, .iload 1, .invokeinterface 177 2, .goto 3],
  [.aload 0, .iload 1, .invokeinterface 179 2, .goto_w 3],
  [.ireturn]]
-- 202 M.service (II)I
def zb_202 : List (List Instr) := [
  [.aload 0, .iload 1, .invokeinterface 174 2, .ifCond .ne 1, .aload 0, .iconst 1, .invokeinterface 163 2, .ireturn],
  [.iload 2, .iconst 0, .iconst 10, .invokeinterface 162 3, .ifCond .eq 2, .aload 0, .aload 0, .iload 1, .iload 2, .invokeinterface 201 3, .invokeinterface 164 2, .goto 3],
  [.aload 0, .iconst 2, .invokeinterface 163 2, .goto_w 3],
  [.ireturn]]
-- 203 M.callValue (II)I
def zb_203 : List (List Instr) := [
  [.iload 2, .iconst 5, .if_icmp .ge 1, .aload 0, .iload 1, .iload 2, .invokeinterface 170 3, .goto 2],
  [.aload 0, .iload 1, .invokeinterface 195 2, .goto_w 2],
  [.ireturn]]
-- 204 M.call (II)I
def zb_204 : List (List Instr) := [
  [.aload 0, .iload 1, .invokeinterface 175 2, .ifCond .ne 1, .aload 0, .iconst 1, .invokeinterface 163 2, .ireturn],
  [.iload 2, .iconst 0, .iconst 5, .invokeinterface 162 3, .ifCond .eq 2, .aload 0, .aload 0, .iload 1, .iload 2, .invokeinterface 203 3, .invokeinterface 164 2, .goto 3],
  [.aload 0, .iconst 2, .invokeinterface 163 2, .goto_w 3],
  [.ireturn]]
-- 205 M.depends (II)Z
def zb_205 : List (List Instr) := [
  [.aload 0, .iload 1, .invokeinterface 174 2, .ifCond .eq 1, .aload 0, .iload 2, .invokeinterface 174 2, .ifCond .ne 4, .goto_w 1],
  [.aload 0, .iconst 1, .invokeinterface 163 2, .ifCond .eq 2, .iconst 1, .goto 3],
  [.iconst 0, .goto_w 3],
  [.ireturn],
  [.aload 0, .iconst 0, .putfield 646, .aload 0, .iload 1, .iload 2, .invokeinterface 182 3, .ireturn]]
-- 206 M.order (I)I
def zb_206 : List (List Instr) := [
  [.aload 0, .invokeinterface 181 1, .aload 0, .aload 0, .iload 1, .invokeinterface 174 2, .ifCond .eq 1, .aload 0, .getfield 648, .iload 1, .iaload, .goto 2],
  [.iconst (-1), .goto_w 2],
  [.invokeinterface 164 2, .ireturn]]
-- 207 M.laysLevels ()V
def zb_207 : List (List Instr) := [
  [.aload 0, .invokeinterface 181 1, .iconst 0, .istore 1, .goto_w 1],
  [.iload 1, .aload 0, .getfield 640, .iconst 0, .iaload, .if_icmp .ge 8, .aload 0, .getfield 648, .iload 1, .iaload, .istore 2, .aload 0, .getfield 650, .iload 2, .iconst 0, .iastore, .iconst 0, .istore 3, .goto_w 2],
  [.iload 3, .aload 0, .getfield 640, .iconst 1, .iaload, .if_icmp .ge 7, .aload 0, .iload 3, .invokeinterface 171 2, .iload 2, .if_icmp .ne 3, .aload 0, .getfield 650, .aload 0, .iload 3, .invokeinterface 172 2, .iaload, .iconst 1, .iadd, .goto 4],
  [.iconst 0, .goto_w 4],
  [.istore 4, .aload 0, .getfield 650, .iload 2, .iload 4, .aload 0, .getfield 650, .iload 2, .iaload, .if_icmp .le 5, .iload 4, .goto 6],
  [.aload 0, .getfield 650, .iload 2, .iaload, .goto_w 6],
  [.iastore, .iinc 3 1, .goto 2],
  [.iinc 1 1, .goto 1],
  [.return_]]
-- 208 M.level (I)I
def zb_208 : List (List Instr) := [
  [.aload 0, .iload 1, .invokeinterface 174 2, .ifCond .ne 1, .aload 0, .iconst 1, .invokeinterface 163 2, .ireturn],
  [.aload 0, .invokeinterface 207 1, .aload 0, .aload 0, .getfield 650, .iload 1, .iaload, .invokeinterface 164 2, .ireturn]]
-- 209 M.notesFailure (I)V
def zb_209 : List (List Instr) := [
  [.aload 0, .getfield 663, .iconst 60, .if_icmp .ge 1, .aload 0, .getfield 668, .iconst 4, .aload 0, .getfield 663, .imul, .aload 0, .getfield 651, .aload 0, .getfield 660, .iaload, .iastore, .aload 0, .getfield 668, .iconst 4, .aload 0, .getfield 663, .imul, .iconst 1, .iadd, .iload 1, .iastore, .aload 0, .getfield 668, .iconst 4, .aload 0, .getfield 663, .imul, .iconst 2, .iadd, .aload 0, .getfield 652, .aload 0, .getfield 660, .iaload, .aload 0, .getfield 654, .aload 0, .getfield 660, .iaload, .iadd, .iastore, .aload 0, .getfield 668, .iconst 4, .aload 0, .getfield 663, .imul, .iconst 3, .iadd, .aload 0, .getfield 653, .aload 0, .getfield 660, .iaload, .iastore, .aload 0, .dup, .getfield 663, .iconst 1, .iadd, .putfield 663, .goto_w 1],
  [.aload 0, .aload 0, .getfield 665, .iconst (-1), .if_icmp .ne 2, .iload 1, .iconst 3, .if_icmp .ge 2, .aload 0, .getfield 651, .aload 0, .getfield 660, .iaload, .goto 3],
  [.aload 0, .getfield 665, .goto_w 3],
  [.putfield 665, .aload 0, .aload 0, .getfield 666, .iconst (-1), .if_icmp .ne 4, .aload 0, .getfield 651, .aload 0, .getfield 660, .iaload, .goto 5],
  [.aload 0, .getfield 666, .goto_w 5],
  [.putfield 666, .return_]]
-- 210 M.enters (III)V
def zb_210 : List (List Instr) := [
  [.aload 0, .getfield 651, .aload 0, .getfield 660, .iload 1, .iastore, .aload 0, .getfield 652, .aload 0, .getfield 660, .iload 2, .iastore, .aload 0, .getfield 653, .aload 0, .getfield 660, .iload 3, .iastore, .aload 0, .getfield 654, .aload 0, .getfield 660, .iconst 0, .iastore, .aload 0, .dup, .getfield 667, .iconst 1, .iadd, .putfield 667, .return_]]
-- 211 M.begins ()Z
def zb_211 : List (List Instr) := [
  [.aload 0, .getfield 651, .aload 0, .getfield 660, .iaload, .istore 1, .aload 0, .iconst 0, .putfield 674, .aload 0, .iload 1, .invokeinterface 176 2, .ifCond .ne 1, .aload 0, .iconst 1, .invokeinterface 209 2, .iconst 0, .ireturn],
  [.aload 0, .iload 1, .invokeinterface 177 2, .aload 0, .getfield 653, .aload 0, .getfield 660, .iaload, .if_icmp .le 2, .aload 0, .getfield 654, .aload 0, .getfield 660, .aload 0, .getfield 653, .aload 0, .getfield 660, .iaload, .iastore, .aload 0, .iconst 2, .invokeinterface 209 2, .iconst 0, .ireturn],
  [.aload 0, .getfield 654, .aload 0, .getfield 660, .aload 0, .iload 1, .invokeinterface 177 2, .iastore, .aload 0, .aload 0, .iload 1, .iconst (-1), .invokeinterface 178 3, .invokeinterface 212 2, .iconst 1, .ireturn]]
-- 212 M.opens (I)V
def zb_212 : List (List Instr) := [
  [.aload 0, .getfield 655, .aload 0, .getfield 660, .iload 1, .iastore, .aload 0, .getfield 656, .aload 0, .getfield 660, .iload 1, .iastore, .aload 0, .getfield 657, .aload 0, .getfield 660, .iconst 0, .iastore, .aload 0, .getfield 658, .aload 0, .getfield 660, .iconst 0, .bastore, .return_]]
-- 213 M.acts ()I
def zb_213 : List (List Instr) := [
  [.aload 0, .getfield 651, .aload 0, .getfield 660, .iaload, .istore 1, .aload 0, .getfield 655, .aload 0, .getfield 660, .iaload, .istore 2, .iload 2, .aload 0, .getfield 640, .iconst 1, .iaload, .if_icmp .ne 1, .aload 0, .iconst 1, .putfield 674, .iconst 2, .ireturn],
  [.aload 0, .getfield 658, .aload 0, .getfield 660, .baload, .ifCond .ne 2, .aload 0, .getfield 657, .aload 0, .getfield 660, .iaload, .aload 0, .iload 2, .iconst 3, .invokeinterface 170 3, .if_icmp .ne 3, .goto_w 2],
  [.aload 0, .iload 1, .iload 2, .invokeinterface 214 3, .ireturn],
  [.aload 0, .getfield 653, .aload 0, .getfield 660, .iaload, .aload 0, .getfield 654, .aload 0, .getfield 660, .iaload, .isub, .ifCond .gt 4, .aload 0, .iconst 3, .invokeinterface 209 2, .aload 0, .getfield 657, .aload 0, .getfield 660, .aload 0, .iload 2, .iconst 3, .invokeinterface 170 3, .iastore, .iconst 0, .ireturn],
  [.iconst 1, .ireturn]]
-- 214 M.closes (II)I
def zb_214 : List (List Instr) := [
  [.aload 0, .iload 1, .iload 2, .invokeinterface 178 3, .istore 3, .goto_w 1],
  [.aload 0, .getfield 658, .aload 0, .getfield 660, .baload, .ifCond .eq 2, .iload 3, .aload 0, .getfield 640, .iconst 1, .iaload, .if_icmp .ge 2, .aload 0, .iload 3, .invokeinterface 173 2, .ifCond .eq 2, .aload 0, .iload 1, .iload 3, .invokeinterface 178 3, .istore 3, .goto 1],
  [.aload 0, .getfield 658, .aload 0, .getfield 660, .baload, .ifCond .ne 3, .iload 3, .aload 0, .getfield 640, .iconst 1, .iaload, .if_icmp .ge 3, .aload 0, .iload 3, .invokeinterface 173 2, .ifCond .eq 3, .aload 0, .getfield 655, .aload 0, .getfield 660, .iload 3, .iastore, .aload 0, .getfield 657, .aload 0, .getfield 660, .iconst 0, .iastore, .iconst 0, .ireturn],
  [.aload 0, .getfield 658, .aload 0, .getfield 660, .baload, .ifCond .ne 4, .aload 0, .aload 0, .getfield 656, .aload 0, .getfield 660, .iaload, .iconst 4, .invokeinterface 170 3, .ifCond .ne 4, .aload 0, .iconst 4, .invokeinterface 209 2, .aload 0, .iconst 0, .putfield 674, .iconst 2, .ireturn],
  [.aload 0, .dup, .getfield 662, .aload 0, .getfield 658, .aload 0, .getfield 660, .baload, .ifCond .eq 5, .iconst 0, .goto 6],
  [.iconst 1, .goto_w 6],
  [.iadd, .putfield 662, .aload 0, .iload 3, .invokeinterface 212 2, .iconst 0, .ireturn]]
-- 215 M.begunTry ()V
def zb_215 : List (List Instr) := [
  [.aload 0, .getfield 655, .aload 0, .getfield 660, .iaload, .istore 1, .aload 0, .getfield 653, .aload 0, .getfield 660, .iaload, .aload 0, .getfield 654, .aload 0, .getfield 660, .iaload, .isub, .istore 2, .aload 0, .iload 1, .iconst 2, .invokeinterface 170 3, .iload 2, .if_icmp .ge 1, .aload 0, .iload 1, .iconst 2, .invokeinterface 170 3, .goto 2],
  [.iload 2, .goto_w 2],
  [.istore 3, .aload 0, .getfield 652, .aload 0, .getfield 660, .iaload, .aload 0, .getfield 654, .aload 0, .getfield 660, .iaload, .iadd, .istore 4, .aload 0, .getfield 659, .aload 0, .getfield 660, .iconst (-1), .iastore, .aload 0, .getfield 664, .iconst 200, .if_icmp .ge 3, .aload 0, .getfield 669, .iconst 4, .aload 0, .getfield 664, .imul, .iload 1, .iastore, .aload 0, .getfield 669, .iconst 4, .aload 0, .getfield 664, .imul, .iconst 1, .iadd, .iload 4, .iastore, .aload 0, .getfield 669, .iconst 4, .aload 0, .getfield 664, .imul, .iconst 2, .iadd, .iload 3, .iastore, .aload 0, .getfield 669, .iconst 4, .aload 0, .getfield 664, .imul, .iconst 3, .iadd, .iconst 0, .iastore, .aload 0, .getfield 659, .aload 0, .getfield 660, .aload 0, .getfield 664, .iastore, .aload 0, .dup, .getfield 664, .iconst 1, .iadd, .putfield 664, .goto_w 3],
  [.aload 0, .dup, .getfield 660, .iconst 1, .iadd, .putfield 660, .aload 0, .aload 0, .iload 1, .invokeinterface 172 2, .iload 4, .iload 3, .invokeinterface 210 4, .return_]]
-- 216 M.returns ()V
def zb_216 : List (List Instr) := [
  [.aload 0, .getfield 654, .aload 0, .getfield 660, .iaload, .istore 1, .aload 0, .dup, .getfield 660, .iconst 1, .isub, .putfield 660, .aload 0, .getfield 654, .aload 0, .getfield 660, .dup2, .iaload, .iload 1, .iadd, .iastore, .aload 0, .getfield 657, .aload 0, .getfield 660, .dup2, .iaload, .iconst 1, .iadd, .iastore, .aload 0, .getfield 658, .aload 0, .getfield 660, .aload 0, .getfield 674, .bastore, .aload 0, .getfield 674, .ifCond .eq 1, .aload 0, .getfield 659, .aload 0, .getfield 660, .iaload, .iconst (-1), .if_icmp .eq 1, .aload 0, .getfield 669, .iconst 4, .aload 0, .getfield 659, .aload 0, .getfield 660, .iaload, .imul, .iconst 3, .iadd, .iconst 1, .iastore, .goto_w 1],
  [.return_]]
-- 217 M.serves (II)Z
def zb_217 : List (List Instr) := [
  [.aload 0, .iconst 0, .putfield 662, .aload 0, .iconst 0, .putfield 663, .aload 0, .iconst 0, .putfield 664, .aload 0, .iconst (-1), .putfield 665, .aload 0, .iconst (-1), .putfield 666, .aload 0, .iconst 0, .putfield 667, .aload 0, .iconst 0, .putfield 660, .aload 0, .iload 1, .iconst 0, .iload 2, .invokeinterface 210 4, .aload 0, .invokeinterface 211 1, .istore 3, .iconst 0, .istore 4, .goto_w 1],
  [.iload 4, .ifCond .ne 7, .iload 3, .ifCond .eq 2, .aload 0, .invokeinterface 213 1, .goto 3],
  [.iconst 2, .goto_w 3],
  [.istore 5, .iload 5, .iconst 1, .if_icmp .ne 4, .aload 0, .invokeinterface 215 1, .aload 0, .invokeinterface 211 1, .istore 3, .goto 6],
  [.iload 5, .iconst 2, .if_icmp .ne 5, .aload 0, .getfield 660, .ifCond .ne 5, .iconst 1, .istore 4, .goto 6],
  [.iload 5, .iconst 2, .if_icmp .ne 6, .aload 0, .invokeinterface 216 1, .iconst 1, .istore 3, .goto_w 6],
  [.goto 1],
  [.aload 0, .aload 0, .getfield 654, .iconst 0, .iaload, .putfield 661, .aload 0, .getfield 674, .ireturn]]
-- 218 M.request (II)Z
def zb_218 : List (List Instr) := [
  [.aload 0, .iload 1, .invokeinterface 174 2, .ifCond .ne 3, .aload 0, .iconst 1, .invokeinterface 163 2, .ifCond .eq 1, .iconst 1, .goto 2],
  [.iconst 0, .goto_w 2],
  [.ireturn],
  [.iload 2, .iconst 0, .iconst 1000, .invokeinterface 162 3, .ifCond .ne 6, .aload 0, .iconst 2, .invokeinterface 163 2, .ifCond .eq 4, .iconst 1, .goto 5],
  [.iconst 0, .goto_w 5],
  [.ireturn],
  [.aload 0, .iconst 0, .putfield 646, .aload 0, .iload 1, .iload 2, .invokeinterface 217 3, .istore 3, .aload 0, .getfield 670, .iconst 0, .aload 0, .getfield 661, .iastore, .aload 0, .getfield 670, .iconst 1, .aload 0, .getfield 662, .iastore, .aload 0, .getfield 670, .iconst 2, .aload 0, .getfield 663, .iastore, .aload 0, .getfield 670, .iconst 3, .aload 0, .getfield 664, .iastore, .aload 0, .getfield 670, .iconst 4, .iload 3, .ifCond .eq 7, .iconst (-1), .goto 9],
  [.aload 0, .getfield 665, .iconst (-1), .if_icmp .ne 8, .aload 0, .getfield 666, .goto 9],
  [.aload 0, .getfield 665, .goto_w 9],
  [.iastore, .aload 0, .getfield 670, .iconst 5, .aload 0, .getfield 667, .iastore, .iconst 0, .istore 4, .goto_w 10],
  [.iload 4, .iconst 240, .if_icmp .ge 11, .aload 0, .getfield 671, .iload 4, .aload 0, .getfield 668, .iload 4, .iaload, .iastore, .iinc 4 1, .goto 10],
  [.iconst 0, .istore 4, .goto_w 12],
  [.iload 4, .iconst 800, .if_icmp .ge 13, .aload 0, .getfield 672, .iload 4, .aload 0, .getfield 669, .iload 4, .iaload, .iastore, .iinc 4 1, .goto 12],
  [.aload 0, .iconst 1, .putfield 673, .iload 3, .ireturn]]
-- 219 M.result (I)I
def zb_219 : List (List Instr) := [
  [.iload 1, .iconst 0, .iconst 5, .invokeinterface 162 3, .ifCond .ne 1, .aload 0, .iconst 1, .invokeinterface 163 2, .ireturn],
  [.aload 0, .getfield 673, .ifCond .eq 2, .aload 0, .aload 0, .getfield 670, .iload 1, .iaload, .invokeinterface 164 2, .goto 3],
  [.aload 0, .iconst 2, .invokeinterface 163 2, .goto_w 3],
  [.ireturn]]
-- 220 M.failure (II)I
def zb_220 : List (List Instr) := [
  [.iload 2, .iconst 0, .iconst 3, .invokeinterface 162 3, .ifCond .ne 1, .aload 0, .iconst 1, .invokeinterface 163 2, .ireturn],
  [.aload 0, .aload 0, .getfield 673, .ifCond .eq 2, .iload 1, .iconst 0, .aload 0, .getfield 670, .iconst 2, .iaload, .iconst 1, .isub, .invokeinterface 162 3, .ifCond .eq 2, .aload 0, .getfield 671, .iconst 4, .iload 1, .imul, .iload 2, .iadd, .iaload, .goto 3],
  [.iconst (-1), .goto_w 3],
  [.invokeinterface 164 2, .ireturn]]
-- 221 M.attempt (II)I
def zb_221 : List (List Instr) := [
  [.iload 2, .iconst 0, .iconst 3, .invokeinterface 162 3, .ifCond .ne 1, .aload 0, .iconst 1, .invokeinterface 163 2, .ireturn],
  [.aload 0, .aload 0, .getfield 673, .ifCond .eq 2, .iload 1, .iconst 0, .aload 0, .getfield 670, .iconst 3, .iaload, .iconst 1, .isub, .invokeinterface 162 3, .ifCond .eq 2, .aload 0, .getfield 672, .iconst 4, .iload 1, .imul, .iload 2, .iadd, .iaload, .goto 3],
  [.iconst (-1), .goto_w 3],
  [.invokeinterface 164 2, .ireturn]]
-- 222 M.leastBudget (I)I
def zb_222 : List (List Instr) := [
  [.aload 0, .iload 1, .invokeinterface 174 2, .ifCond .ne 1, .aload 0, .iconst 1, .invokeinterface 163 2, .ireturn],
  [.iconst 0, .istore 2, .goto_w 2],
  [.iload 2, .iconst 1000, .if_icmp .gt 3, .aload 0, .iload 1, .iload 2, .invokeinterface 217 3, .ifCond .ne 3, .iinc 2 1, .goto 2],
  [.aload 0, .iload 2, .iconst 1000, .if_icmp .gt 4, .iload 2, .goto 5],
  [.iconst (-1), .goto_w 5],
  [.invokeinterface 164 2, .ireturn]]
-- 223 M.bounds (I)V
def zb_223 : List (List Instr) := [
  [.aload 0, .iload 1, .invokeinterface 177 2, .istore 2, .iconst 0, .istore 3, .goto_w 1],
  [.iload 3, .aload 0, .getfield 640, .iconst 1, .iaload, .if_icmp .ge 5, .aload 0, .iload 3, .invokeinterface 171 2, .iload 1, .if_icmp .ne 4, .aload 0, .iload 3, .iconst 2, .invokeinterface 170 3, .istore 4, .iload 2, .aload 0, .iload 3, .iconst 3, .invokeinterface 170 3, .iload 4, .aload 0, .getfield 675, .aload 0, .iload 3, .invokeinterface 172 2, .iaload, .if_icmp .ge 2, .iload 4, .goto 3],
  [.aload 0, .getfield 675, .aload 0, .iload 3, .invokeinterface 172 2, .iaload, .goto_w 3],
  [.imul, .iadd, .istore 2, .goto_w 4],
  [.iinc 3 1, .goto 1],
  [.aload 0, .getfield 675, .iload 1, .iload 2, .iconst 100000, .if_icmp .ge 6, .iload 2, .goto 7],
  [.iconst 100000, .goto_w 7],
  [.iastore, .return_]]
-- 224 M.laysBounds ()V
def zb_224 : List (List Instr) := [
  [.aload 0, .invokeinterface 181 1, .iconst 0, .istore 1, .goto_w 1],
  [.iload 1, .aload 0, .getfield 640, .iconst 0, .iaload, .if_icmp .ge 2, .aload 0, .aload 0, .getfield 648, .iload 1, .iaload, .invokeinterface 223 2, .iinc 1 1, .goto 1],
  [.return_]]
-- 225 M.worst (I)I
def zb_225 : List (List Instr) := [
  [.aload 0, .iload 1, .invokeinterface 174 2, .ifCond .ne 1, .aload 0, .iconst 1, .invokeinterface 163 2, .ireturn],
  [.aload 0, .invokeinterface 224 1, .aload 0, .aload 0, .getfield 675, .iload 1, .iaload, .invokeinterface 164 2, .ireturn]]
-- 226 M.unsoundMany ()I
def zb_226 : List (List Instr) := [
  [.aload 0, .invokeinterface 224 1, .iconst 0, .istore 1, .iconst 0, .istore 2, .goto_w 1],
  [.iload 2, .aload 0, .getfield 640, .iconst 1, .iaload, .if_icmp .ge 4, .iload 1, .aload 0, .iload 2, .iconst 2, .invokeinterface 170 3, .aload 0, .getfield 675, .aload 0, .iload 2, .invokeinterface 172 2, .iaload, .if_icmp .ge 2, .iconst 1, .goto 3],
  [.iconst 0, .goto_w 3],
  [.iadd, .istore 1, .iinc 2 1, .goto 1],
  [.iload 1, .ireturn]]
-- 227 M.unsound ()I
def zb_227 : List (List Instr) := [
  [.aload 0, .aload 0, .invokeinterface 226 1, .invokeinterface 164 2, .ireturn]]
-- 228 M.tighten ()I
def zb_228 : List (List Instr) := [
  [.aload 0, .invokeinterface 165 1, .aload 0, .invokeinterface 181 1, .iconst 0, .istore 1, .goto_w 1],
  [.iload 1, .aload 0, .getfield 640, .iconst 0, .iaload, .if_icmp .ge 7, .aload 0, .getfield 648, .iload 1, .iaload, .istore 2, .aload 0, .iload 2, .invokeinterface 223 2, .iconst 0, .istore 3, .goto_w 2],
  [.iload 3, .aload 0, .getfield 640, .iconst 1, .iaload, .if_icmp .ge 6, .aload 0, .iload 3, .invokeinterface 172 2, .iload 2, .if_icmp .ne 5, .aload 0, .getfield 640, .iconst 110, .iconst 5, .iload 3, .imul, .iadd, .iconst 2, .iadd, .aload 0, .getfield 675, .iload 2, .iaload, .iconst 500, .if_icmp .ge 3, .aload 0, .getfield 675, .iload 2, .iaload, .goto 4],
  [.iconst 500, .goto_w 4],
  [.iastore, .goto_w 5],
  [.iinc 3 1, .goto 2],
  [.iinc 1 1, .goto 1],
  [.iconst 0, .istore 1, .iconst 0, .istore 2, .goto_w 8],
  [.iload 2, .aload 0, .getfield 640, .iconst 1, .iaload, .if_icmp .ge 11, .iconst 110, .iconst 5, .iload 2, .imul, .iadd, .iconst 2, .iadd, .istore 3, .iload 1, .aload 0, .getfield 640, .iload 3, .iaload, .aload 0, .getfield 642, .iload 3, .iaload, .if_icmp .ne 9, .iconst 0, .goto 10],
  [.iconst 1, .goto_w 10],
  [.iadd, .istore 1, .iinc 2 1, .goto 8],
  [.aload 0, .iload 1, .invokeinterface 167 2, .ireturn]]
-- 229 M.downs ()I
def zb_229 : List (List Instr) := [
  [.iconst 0, .istore 1, .iconst 0, .istore 2, .goto_w 1],
  [.iload 2, .aload 0, .getfield 640, .iconst 0, .iaload, .if_icmp .ge 4, .iload 1, .aload 0, .iload 2, .invokeinterface 176 2, .ifCond .eq 2, .iconst 0, .goto 3],
  [.iconst 1, .iload 2, .ishl, .goto_w 3],
  [.ior, .istore 1, .iinc 2 1, .goto 1],
  [.iload 1, .ireturn]]
-- 230 M.isCutOff (II)Z
def zb_230 : List (List Instr) := [
  [.iconst 0, .istore 3, .aload 0, .iload 1, .iconst (-1), .invokeinterface 178 3, .istore 4, .goto_w 1],
  [.iload 4, .aload 0, .getfield 640, .iconst 1, .iaload, .if_icmp .ge 13, .iload 2, .aload 0, .iload 4, .invokeinterface 172 2, .ishr, .iconst 1, .iand, .iconst 1, .if_icmp .ne 2, .iconst 1, .goto 3],
  [.iconst 0, .goto_w 3],
  [.istore 5, .aload 0, .iload 4, .iconst 4, .invokeinterface 170 3, .ifCond .ne 4, .iconst 1, .goto 5],
  [.iconst 0, .goto_w 5],
  [.istore 6, .aload 0, .iload 1, .iload 4, .invokeinterface 178 3, .istore 4, .goto_w 6],
  [.iload 4, .aload 0, .getfield 640, .iconst 1, .iaload, .if_icmp .ge 9, .aload 0, .iload 4, .invokeinterface 173 2, .ifCond .eq 9, .iload 5, .ifCond .eq 7, .iload 2, .aload 0, .iload 4, .invokeinterface 172 2, .ishr, .iconst 1, .iand, .iconst 1, .if_icmp .ne 7, .iconst 1, .goto 8],
  [.iconst 0, .goto_w 8],
  [.istore 5, .aload 0, .iload 1, .iload 4, .invokeinterface 178 3, .istore 4, .goto 6],
  [.iload 3, .ifCond .ne 10, .iload 6, .ifCond .eq 11, .iload 5, .ifCond .eq 11, .goto_w 10],
  [.iconst 1, .goto 12],
  [.iconst 0, .goto_w 12],
  [.istore 3, .goto 1],
  [.iload 3, .ireturn]]
-- 231 M.step ()I
def zb_231 : List (List Instr) := [
  [.aload 0, .invokeinterface 229 1, .istore 1, .iconst 0, .istore 2, .iconst 0, .istore 3, .goto_w 1],
  [.iload 3, .aload 0, .getfield 640, .iconst 0, .iaload, .if_icmp .ge 10, .aload 0, .iload 3, .iload 1, .invokeinterface 230 3, .istore 4, .iload 1, .iload 3, .ishr, .iconst 1, .iand, .ifCond .ne 6, .aload 0, .iload 3, .iconst 7, .invokeinterface 168 3, .istore 5, .aload 0, .iload 3, .iconst 7, .iload 4, .ifCond .eq 2, .iload 5, .iconst 1, .iadd, .goto 4],
  [.iload 5, .ifCond .le 3, .iload 5, .iconst 1, .isub, .goto 4],
  [.iconst 0, .goto_w 4],
  [.invokeinterface 169 4, .aload 0, .iload 3, .iconst 7, .invokeinterface 168 3, .aload 0, .iload 3, .iconst 2, .invokeinterface 168 3, .if_icmp .lt 5, .aload 0, .iload 3, .invokeinterface 189 2, .iload 2, .iconst 1, .iload 3, .ishl, .ior, .istore 2, .goto_w 5],
  [.goto 9],
  [.aload 0, .iload 3, .iconst 8, .invokeinterface 168 3, .iconst (-1), .if_icmp .eq 9, .aload 0, .iload 3, .iconst 8, .aload 0, .iload 3, .iconst 8, .invokeinterface 168 3, .ifCond .le 7, .aload 0, .iload 3, .iconst 8, .invokeinterface 168 3, .iconst 1, .isub, .goto 8],
  [.iconst 0, .goto_w 8],
  [.invokeinterface 169 4, .aload 0, .iload 3, .iconst 8, .invokeinterface 168 3, .ifCond .ne 9, .iload 4, .ifCond .ne 9, .aload 0, .iload 3, .iconst 6, .iconst 1, .invokeinterface 169 4, .aload 0, .iload 3, .iconst 7, .iconst 0, .invokeinterface 169 4, .aload 0, .iload 3, .iconst 8, .iconst (-1), .invokeinterface 169 4, .goto_w 9],
  [.iinc 3 1, .goto 1],
  [.iload 2, .ireturn]]
-- 232 M.fail (I)I
def zb_232 : List (List Instr) := [
  [.aload 0, .invokeinterface 165 1, .aload 0, .aload 0, .iload 1, .invokeinterface 188 2, .invokeinterface 192 2, .ireturn]]
-- 233 M.repair (I)I
def zb_233 : List (List Instr) := [
  [.aload 0, .invokeinterface 165 1, .aload 0, .aload 0, .iload 1, .invokeinterface 190 2, .invokeinterface 192 2, .ireturn]]
-- 234 M.steps (I)I
def zb_234 : List (List Instr) := [
  [.aload 0, .invokeinterface 165 1, .aload 0, .aload 0, .iload 1, .invokeinterface 191 2, .invokeinterface 192 2, .ireturn]]
-- 235 M.down ()I
def zb_235 : List (List Instr) := [
  [.aload 0, .aload 0, .invokeinterface 229 1, .invokeinterface 164 2, .ireturn]]
-- 236 M.spreads (I)I
def zb_236 : List (List Instr) := [
  [.aload 0, .invokeinterface 165 1, .aload 0, .iload 1, .invokeinterface 189 2, .aload 0, .iconst (-1), .putfield 676, .iconst 1, .istore 2, .goto_w 1],
  [.iload 2, .iconst 40, .if_icmp .gt 4, .aload 0, .invokeinterface 231 1, .iconst 1, .iload 1, .ishl, .iconst (-1), .ixor, .iand, .istore 3, .aload 0, .aload 0, .getfield 676, .iconst (-1), .if_icmp .ne 2, .iload 3, .ifCond .eq 2, .iload 2, .goto 3],
  [.aload 0, .getfield 676, .goto_w 3],
  [.putfield 676, .iinc 2 1, .goto 1],
  [.aload 0, .invokeinterface 229 1, .istore 2, .aload 0, .invokeinterface 166 1, .iload 2, .ireturn]]
-- 237 M.spread (I)I
def zb_237 : List (List Instr) := [
  [.aload 0, .iload 1, .invokeinterface 174 2, .ifCond .ne 1, .aload 0, .iconst 1, .invokeinterface 163 2, .ireturn],
  [.aload 0, .iload 1, .invokeinterface 176 2, .ifCond .eq 2, .aload 0, .aload 0, .iload 1, .invokeinterface 236 2, .invokeinterface 164 2, .goto 3],
  [.aload 0, .iconst 2, .invokeinterface 163 2, .goto_w 3],
  [.ireturn]]
-- 238 M.calm (I)I
def zb_238 : List (List Instr) := [
  [.aload 0, .iload 1, .invokeinterface 174 2, .ifCond .ne 1, .aload 0, .iconst 1, .invokeinterface 163 2, .ireturn],
  [.aload 0, .iload 1, .invokeinterface 176 2, .ifCond .ne 2, .aload 0, .iconst 2, .invokeinterface 163 2, .ireturn],
  [.aload 0, .iload 1, .invokeinterface 236 2, .istore 2, .aload 0, .iload 2, .ifCond .ne 3, .iconst (-1), .goto 4],
  [.aload 0, .getfield 676, .goto_w 4],
  [.invokeinterface 164 2, .ireturn]]
-- 239 M.nextBegun (II)I
def zb_239 : List (List Instr) := [
  [.iconst (-1), .istore 3, .iconst 0, .istore 4, .goto_w 1],
  [.iload 4, .aload 0, .getfield 640, .iconst 0, .iaload, .if_icmp .ge 7, .iload 1, .iload 4, .ishr, .iconst 1, .iand, .iconst 1, .if_icmp .ne 2, .aload 0, .getfield 677, .iload 4, .iaload, .iconst (-1), .if_icmp .ne 2, .aload 0, .getfield 647, .iload 4, .iaload, .iload 1, .iand, .iload 2, .iconst (-1), .ixor, .iand, .ifCond .ne 2, .iconst 1, .goto 3],
  [.iconst 0, .goto_w 3],
  [.istore 5, .iload 5, .ifCond .eq 5, .iload 3, .iconst (-1), .if_icmp .eq 4, .aload 0, .iload 4, .iconst 4, .invokeinterface 168 3, .aload 0, .iload 3, .iconst 4, .invokeinterface 168 3, .if_icmp .le 5, .goto_w 4],
  [.iload 4, .goto 6],
  [.iload 3, .goto_w 6],
  [.istore 3, .iinc 4 1, .goto 1],
  [.iload 3, .ireturn]]
-- 240 M.recovers (I)I
def zb_240 : List (List Instr) := [
  [.aload 0, .invokeinterface 180 1, .aload 0, .invokeinterface 229 1, .istore 2, .iconst 0, .istore 3, .iconst 0, .istore 4, .goto_w 1],
  [.iload 4, .iconst 12, .if_icmp .ge 2, .aload 0, .getfield 677, .iload 4, .iconst (-1), .iastore, .iinc 4 1, .goto 1],
  [.iconst 0, .istore 4, .goto_w 3],
  [.iload 3, .iload 2, .if_icmp .eq 17, .iload 1, .istore 5, .iconst 0, .istore 6, .goto_w 4],
  [.iload 6, .aload 0, .getfield 640, .iconst 0, .iaload, .if_icmp .ge 12, .aload 0, .getfield 677, .iload 6, .iaload, .iconst (-1), .if_icmp .eq 11, .iload 3, .iload 6, .ishr, .iconst 1, .iand, .ifCond .ne 11, .aload 0, .getfield 677, .iload 6, .iaload, .aload 0, .iload 6, .iconst 3, .invokeinterface 168 3, .iadd, .iload 4, .if_icmp .gt 5, .iconst 1, .goto 6],
  [.iconst 0, .goto_w 6],
  [.istore 7, .iload 3, .iload 7, .ifCond .eq 7, .iconst 1, .iload 6, .ishl, .goto 8],
  [.iconst 0, .goto_w 8],
  [.ior, .istore 3, .iload 5, .iload 7, .ifCond .eq 9, .iconst 0, .goto 10],
  [.iconst 1, .goto_w 10],
  [.isub, .istore 5, .goto_w 11],
  [.iinc 6 1, .goto 4],
  [.aload 0, .iload 2, .iload 3, .invokeinterface 239 3, .istore 6, .goto_w 13],
  [.iload 5, .ifCond .le 14, .iload 6, .iconst (-1), .if_icmp .eq 14, .aload 0, .getfield 677, .iload 6, .iload 4, .iastore, .iinc 5 (-1), .aload 0, .iload 2, .iload 3, .invokeinterface 239 3, .istore 6, .goto 13],
  [.iload 4, .iload 3, .iload 2, .if_icmp .ne 15, .iconst 0, .goto 16],
  [.iconst 1, .goto_w 16],
  [.iadd, .istore 4, .goto 3],
  [.iload 4, .ireturn]]
-- 241 M.recoveryTime (I)I
def zb_241 : List (List Instr) := [
  [.iload 1, .iconst 1, .iconst 4, .invokeinterface 162 3, .ifCond .eq 1, .aload 0, .aload 0, .iload 1, .invokeinterface 240 2, .invokeinterface 164 2, .goto 2],
  [.aload 0, .iconst 1, .invokeinterface 163 2, .goto_w 2],
  [.ireturn]]
-- 242 M.recoveryStart (II)I
def zb_242 : List (List Instr) := [
  [.iload 1, .iconst 1, .iconst 4, .invokeinterface 162 3, .ifCond .ne 1, .aload 0, .iconst 1, .invokeinterface 163 2, .ireturn],
  [.aload 0, .iload 2, .invokeinterface 174 2, .ifCond .ne 2, .aload 0, .iconst 2, .invokeinterface 163 2, .ireturn],
  [.aload 0, .iload 1, .invokeinterface 240 2, .istore 3, .aload 0, .iload 3, .ifCond .ge 3, .iconst (-1), .goto 4],
  [.aload 0, .getfield 677, .iload 2, .iaload, .goto_w 4],
  [.invokeinterface 164 2, .ireturn]]
-- 243 M.timeOf (I)I
def zb_243 : List (List Instr) := [
  [.iconst 0, .istore 2, .iconst 0, .istore 3, .goto_w 1],
  [.iload 3, .aload 0, .getfield 640, .iconst 0, .iaload, .if_icmp .ge 4, .iload 2, .iload 1, .iload 3, .ishr, .iconst 1, .iand, .iconst 1, .if_icmp .ne 2, .aload 0, .iload 3, .iconst 3, .invokeinterface 168 3, .goto 3],
  [.iconst 0, .goto_w 3],
  [.iadd, .istore 2, .iinc 3 1, .goto 1],
  [.iload 2, .ireturn]]
-- 244 M.costWith (III)I
def zb_244 : List (List Instr) := [
  [.iload 2, .iload 3, .iconst (-1), .ixor, .iand, .iload 1, .ishr, .iconst 1, .iand, .iconst 1, .if_icmp .ne 1, .aload 0, .getfield 647, .iload 1, .iaload, .iload 2, .iand, .iload 3, .iconst (-1), .ixor, .iand, .ifCond .ne 1, .iconst 1, .goto 2],
  [.iconst 0, .goto_w 2],
  [.istore 4, .iload 4, .ifCond .eq 3, .aload 0, .iload 1, .iconst 4, .invokeinterface 168 3, .aload 0, .iload 3, .invokeinterface 243 2, .aload 0, .iload 1, .iconst 3, .invokeinterface 168 3, .iadd, .imul, .aload 0, .getfield 678, .iload 3, .iconst 1, .iload 1, .ishl, .ior, .iaload, .iadd, .goto 4],
  [.iconst 100000000, .goto_w 4],
  [.ireturn]]
-- 245 M.laysBest ()I
def zb_245 : List (List Instr) := [
  [.aload 0, .invokeinterface 180 1, .aload 0, .invokeinterface 229 1, .istore 1, .iload 1, .istore 2, .goto_w 1],
  [.iload 2, .ifCond .lt 9, .iload 2, .iload 1, .iconst (-1), .ixor, .iand, .ifCond .ne 8, .iload 2, .iload 1, .if_icmp .ne 2, .iconst 0, .goto 3],
  [.iconst 100000000, .goto_w 3],
  [.istore 3, .iconst 0, .istore 4, .goto_w 4],
  [.iload 4, .aload 0, .getfield 640, .iconst 0, .iaload, .if_icmp .ge 7, .aload 0, .iload 4, .iload 1, .iload 2, .invokeinterface 244 4, .istore 5, .iload 5, .iload 3, .if_icmp .ge 5, .iload 5, .goto 6],
  [.iload 3, .goto_w 6],
  [.istore 3, .iinc 4 1, .goto 4],
  [.aload 0, .getfield 678, .iload 2, .iload 3, .iastore, .goto_w 8],
  [.iinc 2 (-1), .goto 1],
  [.aload 0, .getfield 678, .iconst 0, .iaload, .ireturn]]
-- 246 M.bestCost ()I
def zb_246 : List (List Instr) := [
  [.aload 0, .aload 0, .invokeinterface 245 1, .invokeinterface 164 2, .ireturn]]
-- 247 M.bestOrder (I)I
def zb_247 : List (List Instr) := [
  [.aload 0, .invokeinterface 245 1, .istore 2, .aload 0, .invokeinterface 229 1, .istore 3, .iconst 0, .istore 4, .iload 1, .istore 5, .iconst (-1), .istore 6, .goto_w 1],
  [.iload 4, .iload 3, .if_icmp .eq 6, .iload 5, .ifCond .lt 6, .iload 2, .ifCond .lt 6, .iconst 0, .istore 7, .goto_w 2],
  [.aload 0, .iload 7, .iload 3, .iload 4, .invokeinterface 244 4, .aload 0, .getfield 678, .iload 4, .iaload, .if_icmp .eq 3, .iinc 7 1, .goto 2],
  [.iload 5, .ifCond .ne 4, .iload 7, .goto 5],
  [.iload 6, .goto_w 5],
  [.istore 6, .iinc 5 (-1), .iload 4, .iconst 1, .iload 7, .ishl, .ior, .istore 4, .goto 1],
  [.aload 0, .iload 6, .invokeinterface 164 2, .ireturn]]
-- 248 M.failing (I)I
def zb_248 : List (List Instr) := [
  [.iload 1, .istore 2, .iconst 0, .istore 3, .goto_w 1],
  [.iload 3, .aload 0, .getfield 640, .iconst 0, .iaload, .if_icmp .ge 4, .iload 2, .aload 0, .aload 0, .getfield 648, .iload 3, .iaload, .iload 2, .invokeinterface 230 3, .ifCond .eq 2, .iconst 1, .aload 0, .getfield 648, .iload 3, .iaload, .ishl, .goto 3],
  [.iconst 0, .goto_w 3],
  [.ior, .istore 2, .iinc 3 1, .goto 1],
  [.iload 2, .ireturn]]
-- 249 M.failsBy (II)Z
def zb_249 : List (List Instr) := [
  [.aload 0, .iload 1, .invokeinterface 174 2, .ifCond .ne 3, .aload 0, .iconst 1, .invokeinterface 163 2, .ifCond .eq 1, .iconst 1, .goto 2],
  [.iconst 0, .goto_w 2],
  [.ireturn],
  [.iload 2, .ifCond .lt 4, .iload 2, .iconst 1, .aload 0, .getfield 640, .iconst 0, .iaload, .ishl, .if_icmp .lt 7, .goto_w 4],
  [.aload 0, .iconst 2, .invokeinterface 163 2, .ifCond .eq 5, .iconst 1, .goto 6],
  [.iconst 0, .goto_w 6],
  [.ireturn],
  [.aload 0, .iconst 0, .putfield 646, .aload 0, .invokeinterface 181 1, .aload 0, .iload 2, .invokeinterface 248 2, .iload 1, .ishr, .iconst 1, .iand, .iconst 1, .if_icmp .ne 8, .iconst 1, .goto 9],
  [.iconst 0, .goto_w 9],
  [.ireturn]]
-- 250 M.laysFailing (I)V
def zb_250 : List (List Instr) := [
  [.aload 0, .invokeinterface 181 1, .iconst 0, .istore 2, .goto_w 1],
  [.iload 2, .iconst 1, .aload 0, .getfield 640, .iconst 0, .iaload, .ishl, .if_icmp .ge 4, .aload 0, .getfield 679, .iload 2, .aload 0, .iload 2, .invokeinterface 248 2, .iload 1, .ishr, .iconst 1, .iand, .iconst 1, .if_icmp .ne 2, .iconst 1, .goto 3],
  [.iconst 0, .goto_w 3],
  [.bastore, .iinc 2 1, .goto 1],
  [.return_]]
-- 251 M.size (I)I
def zb_251 : List (List Instr) := [
  [.iconst 0, .istore 1, .iconst 0, .istore 2, .goto_w 1],
  [.iload 2, .iconst 12, .if_icmp .ge 2, .iload 1, .iload 0, .iload 2, .ishr, .iconst 1, .iand, .iadd, .istore 1, .iinc 2 1, .goto 1],
  [.iload 1, .ireturn]]
-- 252 M.isCut (I)Z
def zb_252 : List (List Instr) := [
  [.aload 0, .getfield 679, .iload 1, .baload, .istore 2, .iconst 0, .istore 3, .goto_w 1],
  [.iload 3, .iconst 12, .if_icmp .ge 5, .iload 2, .ifCond .eq 5, .iload 1, .iload 3, .ishr, .iconst 1, .iand, .ifCond .eq 2, .aload 0, .getfield 679, .iload 1, .iconst 1, .iload 3, .ishl, .iconst (-1), .ixor, .iand, .baload, .ifCond .ne 3, .goto_w 2],
  [.iconst 1, .goto 4],
  [.iconst 0, .goto_w 4],
  [.istore 2, .iinc 3 1, .goto 1],
  [.iload 2, .ireturn]]
-- 253 M.cutAt (III)I
def zb_253 : List (List Instr) := [
  [.aload 0, .iload 1, .invokeinterface 250 2, .iconst 0, .istore 4, .iconst (-1), .istore 5, .iconst 0, .istore 6, .goto_w 1],
  [.iload 6, .iconst 1, .aload 0, .getfield 640, .iconst 0, .iaload, .ishl, .if_icmp .ge 5, .iload 6, .invokeinterface 251 1, .iload 2, .if_icmp .ne 4, .aload 0, .iload 6, .invokeinterface 252 2, .ifCond .eq 4, .iload 4, .iload 3, .if_icmp .ne 2, .iload 6, .goto 3],
  [.iload 5, .goto_w 3],
  [.istore 5, .iinc 4 1, .goto_w 4],
  [.iinc 6 1, .goto 1],
  [.iload 3, .ifCond .ge 6, .iload 4, .goto 7],
  [.iload 5, .goto_w 7],
  [.ireturn]]
-- 254 M.cuts (II)I
def zb_254 : List (List Instr) := [
  [.aload 0, .iload 1, .invokeinterface 174 2, .ifCond .ne 1, .aload 0, .iconst 1, .invokeinterface 163 2, .ireturn],
  [.iload 2, .iconst 1, .iconst 12, .invokeinterface 162 3, .ifCond .eq 2, .aload 0, .aload 0, .iload 1, .iload 2, .iconst (-1), .invokeinterface 253 4, .invokeinterface 164 2, .goto 3],
  [.aload 0, .iconst 2, .invokeinterface 163 2, .goto_w 3],
  [.ireturn]]
-- 255 M.cut (III)I
def zb_255 : List (List Instr) := [
  [.aload 0, .iload 1, .invokeinterface 174 2, .ifCond .ne 1, .aload 0, .iconst 1, .invokeinterface 163 2, .ireturn],
  [.iload 2, .iconst 1, .iconst 12, .invokeinterface 162 3, .ifCond .ne 2, .aload 0, .iconst 2, .invokeinterface 163 2, .ireturn],
  [.aload 0, .iload 3, .ifCond .ge 3, .iconst (-1), .goto 4],
  [.aload 0, .iload 1, .iload 2, .iload 3, .invokeinterface 253 4, .goto_w 4],
  [.invokeinterface 164 2, .ireturn]]
-- 256 M.available (I)D
def zb_256 : List (List Instr) := [
  [.jsr 0, .dstore 2, .iconst 0, .istore 4, .goto_w 1],
  [.iload 4, .iconst 1, .aload 0, .getfield 640, .iconst 0, .iaload, .ishl, .if_icmp .ge 9, .aload 0, .getfield 679, .iload 4, .baload, .ifCond .ne 8, .jsr 4607182418800017408, .dstore 5, .iconst 0, .istore 7, .goto_w 2],
  [.iload 7, .aload 0, .getfield 640, .iconst 0, .iaload, .if_icmp .ge 7, .iload 7, .iload 1, .if_icmp .ne 3, .iconst 1000, .goto 4],
  [.aload 0, .iload 7, .iconst 5, .invokeinterface 168 3, .goto_w 4],
  [.istore 8, .dload 5, .iload 4, .iload 7, .ishr, .iconst 1, .iand, .ifCond .ne 5, .iload 8, .i2d, .jsr 4652007308841189376, .ddiv, .goto 6],
  [.iconst 1000, .iload 8, .isub, .i2d, .jsr 4652007308841189376, .ddiv, .goto_w 6],
  [.dmul, .dstore 5, .iinc 7 1, .goto 2],
  [.dload 2, .dload 5, .dadd, .dstore 2, .goto_w 8],
  [.iinc 4 1, .goto 1],
  [.dload 2, .dreturn]]
-- 257 M.availability (I)I
def zb_257 : List (List Instr) := [
  [.aload 0, .iload 1, .invokeinterface 174 2, .ifCond .ne 1, .aload 0, .iconst 1, .invokeinterface 163 2, .ireturn],
  [.aload 0, .iload 1, .invokeinterface 250 2, .aload 0, .aload 0, .iconst (-1), .invokeinterface 256 2, .d2f, .invokeinterface 303 1, .invokeinterface 164 2, .ireturn]]
-- 258 M.weakest (I)I
def zb_258 : List (List Instr) := [
  [.aload 0, .iload 1, .invokeinterface 174 2, .ifCond .ne 1, .aload 0, .iconst 1, .invokeinterface 163 2, .ireturn],
  [.aload 0, .iload 1, .invokeinterface 250 2, .iconst (-1), .istore 2, .jsr 0, .dstore 3, .iconst 0, .istore 5, .goto_w 2],
  [.iload 5, .aload 0, .getfield 640, .iconst 0, .iaload, .if_icmp .ge 5, .aload 0, .iload 5, .invokeinterface 256 2, .dstore 6, .iload 2, .iconst (-1), .if_icmp .eq 3, .dload 6, .dload 3, .dcmp .l, .ifCond .le 4, .goto_w 3],
  [.iload 5, .istore 2, .dload 6, .dstore 3, .goto_w 4],
  [.iinc 5 1, .goto 2],
  [.aload 0, .iload 2, .invokeinterface 164 2, .ireturn]]
-- 259 M.append (I)I
def zb_259 : List (List Instr) := [
  [.iload 1, .iconst 0, .iconst 127, .invokeinterface 162 3, .ifCond .ne 1, .aload 0, .iconst 1, .invokeinterface 163 2, .ireturn],
  [.aload 0, .getfield 645, .iconst 120, .if_icmp .ne 2, .aload 0, .iconst 2, .invokeinterface 163 2, .ireturn],
  [.aload 0, .getfield 644, .aload 0, .getfield 645, .iload 1, .iastore, .aload 0, .dup, .getfield 645, .iconst 1, .iadd, .putfield 645, .aload 0, .aload 0, .getfield 645, .invokeinterface 164 2, .ireturn]]
-- 260 M.clearText ()I
def zb_260 : List (List Instr) := [
  [.aload 0, .getfield 645, .istore 1, .aload 0, .iconst 0, .putfield 645, .aload 0, .iload 1, .invokeinterface 164 2, .ireturn]]
-- 261 M.isAt (II)Z
def zb_261 : List (List Instr) := [
  [.aload 0, .getfield 680, .aload 0, .getfield 645, .if_icmp .ge 1, .aload 0, .getfield 644, .aload 0, .getfield 680, .iaload, .iload 1, .iload 2, .invokeinterface 162 3, .ifCond .eq 1, .iconst 1, .goto 2],
  [.iconst 0, .goto_w 2],
  [.ireturn]]
-- 262 M.numbersOf (I)I
def zb_262 : List (List Instr) := [
  [.iload 0, .lookupswitch 4 #[(97, 1), (98, 4), (99, 2), (100, 1), (101, 4), (102, 4), (103, 4), (104, 4), (105, 4), (106, 4), (107, 4), (108, 4), (109, 4), (110, 4), (111, 4), (112, 3), (113, 4), (114, 1), (115, 1)]],
  [.iconst 1, .ireturn],
  [.iconst 5, .ireturn],
  [.iconst 3, .ireturn],
  [.iconst 0, .ireturn]]
-- 263 M.isNumber (I)Z
def zb_263 : List (List Instr) := [
  [.aload 0, .getfield 680, .istore 2, .aload 0, .getfield 682, .iload 1, .iconst 0, .iastore, .goto_w 1],
  [.aload 0, .iconst 48, .iconst 57, .invokeinterface 261 3, .ifCond .eq 2, .aload 0, .getfield 680, .iload 2, .isub, .iconst 3, .if_icmp .ge 2, .aload 0, .getfield 682, .iload 1, .iconst 10, .aload 0, .getfield 682, .iload 1, .iaload, .imul, .aload 0, .getfield 644, .aload 0, .getfield 680, .iaload, .iadd, .iconst 48, .isub, .iastore, .aload 0, .dup, .getfield 680, .iconst 1, .iadd, .putfield 680, .goto 1],
  [.aload 0, .getfield 680, .iload 2, .if_icmp .le 3, .iconst 1, .goto 4],
  [.iconst 0, .goto_w 4],
  [.ireturn]]
-- 264 M.isCommand ()Z
def zb_264 : List (List Instr) := [
  [.aload 0, .aload 0, .getfield 644, .aload 0, .getfield 680, .iaload, .putfield 681, .aload 0, .getfield 681, .invokeinterface 262 1, .istore 1, .iload 1, .ifCond .ne 1, .iconst 0, .ireturn],
  [.aload 0, .dup, .getfield 680, .iconst 1, .iadd, .putfield 680, .iconst 0, .istore 2, .goto_w 2],
  [.iload 2, .iload 1, .if_icmp .ge 9, .aload 0, .iload 2, .invokeinterface 263 2, .ifCond .eq 7, .aload 0, .iload 2, .iload 1, .iconst 1, .isub, .if_icmp .ge 3, .iconst 44, .goto 4],
  [.iconst 59, .goto_w 4],
  [.iload 2, .iload 1, .iconst 1, .isub, .if_icmp .ge 5, .iconst 44, .goto 6],
  [.iconst 59, .goto_w 6],
  [.invokeinterface 261 3, .ifCond .ne 8, .goto_w 7],
  [.iconst 0, .ireturn],
  [.aload 0, .dup, .getfield 680, .iconst 1, .iadd, .putfield 680, .iinc 2 1, .goto 2],
  [.iconst 1, .ireturn]]
-- 265 M.does ()I
def zb_265 : List (List Instr) := [
  [.aload 0, .getfield 681, .lookupswitch 6 #[(97, 1), (99, 2), (100, 3), (114, 4), (115, 5)]],
  [.aload 0, .aload 0, .getfield 682, .iconst 0, .iaload, .invokeinterface 183 2, .ireturn],
  [.aload 0, .aload 0, .getfield 682, .iconst 0, .iaload, .aload 0, .getfield 682, .iconst 1, .iaload, .aload 0, .getfield 682, .iconst 2, .iaload, .aload 0, .getfield 682, .iconst 3, .iaload, .aload 0, .getfield 682, .iconst 4, .iaload, .invokeinterface 184 6, .ireturn],
  [.aload 0, .aload 0, .getfield 682, .iconst 0, .iaload, .invokeinterface 188 2, .ireturn],
  [.aload 0, .aload 0, .getfield 682, .iconst 0, .iaload, .invokeinterface 190 2, .ireturn],
  [.aload 0, .aload 0, .getfield 682, .iconst 0, .iaload, .invokeinterface 191 2, .ireturn],
  [.aload 0, .aload 0, .getfield 682, .iconst 0, .iaload, .aload 0, .getfield 682, .iconst 1, .iaload, .aload 0, .getfield 682, .iconst 2, .iaload, .invokeinterface 186 4, .ireturn]]
-- 266 M.execute ()I
def zb_266 : List (List Instr) := [
  [.aload 0, .iconst 0, .putfield 646, .aload 0, .iconst 0, .putfield 680, .goto_w 1],
  [.aload 0, .getfield 680, .aload 0, .getfield 645, .if_icmp .ge 2, .aload 0, .invokeinterface 264 1, .ifCond .ne 1, .iconst (-10), .aload 0, .getfield 680, .isub, .ireturn],
  [.aload 0, .invokeinterface 165 1, .aload 0, .iconst 0, .putfield 680, .iconst 0, .istore 1, .goto_w 3],
  [.aload 0, .getfield 680, .aload 0, .getfield 645, .if_icmp .ge 7, .aload 0, .invokeinterface 264 1, .ifCond .eq 4, .aload 0, .invokeinterface 265 1, .ifCond .ne 4, .iconst 1, .goto 5],
  [.iconst 0, .goto_w 5],
  [.istore 2, .iload 2, .ifCond .ne 6, .aload 0, .invokeinterface 166 1, .iconst (-1000), .iload 1, .isub, .ireturn],
  [.iinc 1 1, .goto 3],
  [.aload 0, .iload 1, .invokeinterface 167 2, .ireturn]]
-- 267 M.undo ()I
def zb_267 : List (List Instr) := [
  [.aload 0, .getfield 643, .ifCond .ne 1, .aload 0, .iconst 1, .invokeinterface 163 2, .ireturn],
  [.aload 0, .dup, .getfield 643, .iconst 1, .isub, .putfield 643, .iconst 0, .istore 1, .goto_w 2],
  [.iload 1, .iconst 230, .if_icmp .ge 3, .aload 0, .getfield 640, .iload 1, .aload 0, .getfield 641, .iconst 230, .aload 0, .getfield 643, .imul, .iload 1, .iadd, .iaload, .iastore, .iinc 1 1, .goto 2],
  [.aload 0, .aload 0, .getfield 643, .invokeinterface 164 2, .ireturn]]
-- 268 M.mix (I)V
def zb_268 : List (List Instr) := [
  [.aload 0, .jsr_w 31, .aload 0, .getfield 683, .lmul, .iload 1, .i2l, .ladd, .putfield 683, .return_]]
-- 269 M.digest ()J
def zb_269 : List (List Instr) := [
  [.aload 0, .iconst 0, .putfield 646, .aload 0, .jsr_w 1851, .putfield 683, .aload 0, .aload 0, .getfield 640, .iconst 0, .iaload, .invokeinterface 268 2, .aload 0, .invokeinterface 224 1, .iconst 0, .istore 1, .goto_w 1],
  [.iload 1, .aload 0, .getfield 640, .iconst 0, .iaload, .if_icmp .ge 4, .iconst 0, .istore 2, .goto_w 2],
  [.iload 2, .iconst 11, .if_icmp .ge 3, .aload 0, .aload 0, .iload 1, .iload 2, .invokeinterface 201 3, .invokeinterface 268 2, .iinc 2 1, .goto 2],
  [.aload 0, .aload 0, .getfield 675, .iload 1, .iaload, .invokeinterface 268 2, .iinc 1 1, .goto 1],
  [.aload 0, .aload 0, .getfield 640, .iconst 1, .iaload, .invokeinterface 268 2, .iconst 0, .istore 1, .goto_w 5],
  [.iload 1, .aload 0, .getfield 640, .iconst 1, .iaload, .if_icmp .ge 8, .iconst 0, .istore 2, .goto_w 6],
  [.iload 2, .iconst 6, .if_icmp .ge 7, .aload 0, .aload 0, .iload 1, .iload 2, .invokeinterface 203 3, .invokeinterface 268 2, .iinc 2 1, .goto 6],
  [.iinc 1 1, .goto 5],
  [.aload 0, .aload 0, .invokeinterface 226 1, .invokeinterface 268 2, .aload 0, .aload 0, .invokeinterface 229 1, .invokeinterface 268 2, .aload 0, .aload 0, .iconst 2, .invokeinterface 240 2, .invokeinterface 268 2, .aload 0, .aload 0, .invokeinterface 245 1, .invokeinterface 268 2, .aload 0, .aload 0, .getfield 645, .invokeinterface 268 2, .aload 0, .aload 0, .getfield 643, .invokeinterface 268 2, .aload 0, .getfield 683, .lreturn]]
-- 270 Law.addService (LServiceBudgets;I[J)I
def zb_270 : List (List Instr) := [
  [.aload 2, .iconst 0, .aload 0, .iload 1, .invokeinterface 116 2, .i2l, .lastore, .goto 3],
  [.astore 3, .iconst 1, .ireturn],
  [.astore 3, .iconst 2, .ireturn],
  [.iconst 0, .ireturn]]
-- 271 Law.addCall (LServiceBudgets;IIIII[J)I
def zb_271 : List (List Instr) := [
  [.aload 6, .iconst 0, .aload 0, .iload 1, .iload 2, .iload 3, .iload 4, .iload 5, .invokeinterface 117 6, .i2l, .lastore, .goto 4],
  [.astore 7, .iconst 1, .ireturn],
  [.astore 7, .iconst 2, .ireturn],
  [.astore 7, .iconst 3, .ireturn],
  [.iconst 0, .ireturn]]
-- 272 Law.removeCall (LServiceBudgets;I[J)I
def zb_272 : List (List Instr) := [
  [.aload 2, .iconst 0, .aload 0, .iload 1, .invokeinterface 118 2, .i2l, .lastore, .goto 3],
  [.astore 3, .iconst 1, .ireturn],
  [.astore 3, .iconst 2, .ireturn],
  [.iconst 0, .ireturn]]
-- 273 Law.set (LServiceBudgets;III[J)I
def zb_273 : List (List Instr) := [
  [.aload 4, .iconst 0, .aload 0, .iload 1, .iload 2, .iload 3, .invokeinterface 119 4, .i2l, .lastore, .goto 3],
  [.astore 5, .iconst 1, .ireturn],
  [.astore 5, .iconst 2, .ireturn],
  [.iconst 0, .ireturn]]
-- 274 Law.setLimit (LServiceBudgets;II[J)I
def zb_274 : List (List Instr) := [
  [.aload 3, .iconst 0, .aload 0, .iload 1, .iload 2, .invokeinterface 120 3, .i2l, .lastore, .goto 3],
  [.astore 4, .iconst 1, .ireturn],
  [.astore 4, .iconst 2, .ireturn],
  [.iconst 0, .ireturn]]
-- 275 Law.service (LServiceBudgets;II[J)I
def zb_275 : List (List Instr) := [
  [.aload 3, .iconst 0, .aload 0, .iload 1, .iload 2, .invokeinterface 123 3, .i2l, .lastore, .goto 3],
  [.astore 4, .iconst 1, .ireturn],
  [.astore 4, .iconst 2, .ireturn],
  [.iconst 0, .ireturn]]
-- 276 Law.call (LServiceBudgets;II[J)I
def zb_276 : List (List Instr) := [
  [.aload 3, .iconst 0, .aload 0, .iload 1, .iload 2, .invokeinterface 124 3, .i2l, .lastore, .goto 3],
  [.astore 4, .iconst 1, .ireturn],
  [.astore 4, .iconst 2, .ireturn],
  [.iconst 0, .ireturn]]
-- 277 Law.depends (LServiceBudgets;II[J)I
def zb_277 : List (List Instr) := [
  [.aload 3, .iconst 0, .aload 0, .iload 1, .iload 2, .invokeinterface 125 3, .ifCond .eq 1, .jsr_w 1, .goto 2],
  [.jsr_w 0, .goto_w 2],
  [.lastore, .goto 4],
  [.astore 4, .iconst 1, .ireturn],
  [.iconst 0, .ireturn]]
-- 278 Law.level (LServiceBudgets;I[J)I
def zb_278 : List (List Instr) := [
  [.aload 2, .iconst 0, .aload 0, .iload 1, .invokeinterface 127 2, .i2l, .lastore, .goto 2],
  [.astore 3, .iconst 1, .ireturn],
  [.iconst 0, .ireturn]]
-- 279 Law.request (LServiceBudgets;II[J)I
def zb_279 : List (List Instr) := [
  [.aload 3, .iconst 0, .aload 0, .iload 1, .iload 2, .invokeinterface 128 3, .ifCond .eq 1, .jsr_w 1, .goto 2],
  [.jsr_w 0, .goto_w 2],
  [.lastore, .goto 5],
  [.astore 4, .iconst 1, .ireturn],
  [.astore 4, .iconst 2, .ireturn],
  [.iconst 0, .ireturn]]
-- 280 Law.result (LServiceBudgets;I[J)I
def zb_280 : List (List Instr) := [
  [.aload 2, .iconst 0, .aload 0, .iload 1, .invokeinterface 129 2, .i2l, .lastore, .goto 3],
  [.astore 3, .iconst 1, .ireturn],
  [.astore 3, .iconst 2, .ireturn],
  [.iconst 0, .ireturn]]
-- 281 Law.failure (LServiceBudgets;II[J)I
def zb_281 : List (List Instr) := [
  [.aload 3, .iconst 0, .aload 0, .iload 1, .iload 2, .invokeinterface 130 3, .i2l, .lastore, .goto 2],
  [.astore 4, .iconst 1, .ireturn],
  [.iconst 0, .ireturn]]
-- 282 Law.attempt (LServiceBudgets;II[J)I
def zb_282 : List (List Instr) := [
  [.aload 3, .iconst 0, .aload 0, .iload 1, .iload 2, .invokeinterface 131 3, .i2l, .lastore, .goto 2],
  [.astore 4, .iconst 1, .ireturn],
  [.iconst 0, .ireturn]]
-- 283 Law.leastBudget (LServiceBudgets;I[J)I
def zb_283 : List (List Instr) := [
  [.aload 2, .iconst 0, .aload 0, .iload 1, .invokeinterface 132 2, .i2l, .lastore, .goto 2],
  [.astore 3, .iconst 1, .ireturn],
  [.iconst 0, .ireturn]]
-- 284 Law.worst (LServiceBudgets;I[J)I
def zb_284 : List (List Instr) := [
  [.aload 2, .iconst 0, .aload 0, .iload 1, .invokeinterface 133 2, .i2l, .lastore, .goto 2],
  [.astore 3, .iconst 1, .ireturn],
  [.iconst 0, .ireturn]]
-- 285 Law.fail (LServiceBudgets;I[J)I
def zb_285 : List (List Instr) := [
  [.aload 2, .iconst 0, .aload 0, .iload 1, .invokeinterface 136 2, .i2l, .lastore, .goto 3],
  [.astore 3, .iconst 1, .ireturn],
  [.astore 3, .iconst 2, .ireturn],
  [.iconst 0, .ireturn]]
-- 286 Law.repair (LServiceBudgets;I[J)I
def zb_286 : List (List Instr) := [
  [.aload 2, .iconst 0, .aload 0, .iload 1, .invokeinterface 137 2, .i2l, .lastore, .goto 3],
  [.astore 3, .iconst 1, .ireturn],
  [.astore 3, .iconst 2, .ireturn],
  [.iconst 0, .ireturn]]
-- 287 Law.steps (LServiceBudgets;I[J)I
def zb_287 : List (List Instr) := [
  [.aload 2, .iconst 0, .aload 0, .iload 1, .invokeinterface 138 2, .i2l, .lastore, .goto 2],
  [.astore 3, .iconst 1, .ireturn],
  [.iconst 0, .ireturn]]
-- 288 Law.spread (LServiceBudgets;I[J)I
def zb_288 : List (List Instr) := [
  [.aload 2, .iconst 0, .aload 0, .iload 1, .invokeinterface 140 2, .i2l, .lastore, .goto 3],
  [.astore 3, .iconst 1, .ireturn],
  [.astore 3, .iconst 2, .ireturn],
  [.iconst 0, .ireturn]]
-- 289 Law.calm (LServiceBudgets;I[J)I
def zb_289 : List (List Instr) := [
  [.aload 2, .iconst 0, .aload 0, .iload 1, .invokeinterface 141 2, .i2l, .lastore, .goto 3],
  [.astore 3, .iconst 1, .ireturn],
  [.astore 3, .iconst 2, .ireturn],
  [.iconst 0, .ireturn]]
-- 290 Law.recoveryTime (LServiceBudgets;I[J)I
def zb_290 : List (List Instr) := [
  [.aload 2, .iconst 0, .aload 0, .iload 1, .invokeinterface 142 2, .i2l, .lastore, .goto 2],
  [.astore 3, .iconst 1, .ireturn],
  [.iconst 0, .ireturn]]
-- 291 Law.recoveryStart (LServiceBudgets;II[J)I
def zb_291 : List (List Instr) := [
  [.aload 3, .iconst 0, .aload 0, .iload 1, .iload 2, .invokeinterface 143 3, .i2l, .lastore, .goto 3],
  [.astore 4, .iconst 1, .ireturn],
  [.astore 4, .iconst 2, .ireturn],
  [.iconst 0, .ireturn]]
-- 292 Law.failsBy (LServiceBudgets;II[J)I
def zb_292 : List (List Instr) := [
  [.aload 3, .iconst 0, .aload 0, .iload 1, .iload 2, .invokeinterface 146 3, .ifCond .eq 1, .jsr_w 1, .goto 2],
  [.jsr_w 0, .goto_w 2],
  [.lastore, .goto 5],
  [.astore 4, .iconst 1, .ireturn],
  [.astore 4, .iconst 2, .ireturn],
  [.iconst 0, .ireturn]]
-- 293 Law.cuts (LServiceBudgets;II[J)I
def zb_293 : List (List Instr) := [
  [.aload 3, .iconst 0, .aload 0, .iload 1, .iload 2, .invokeinterface 147 3, .i2l, .lastore, .goto 3],
  [.astore 4, .iconst 1, .ireturn],
  [.astore 4, .iconst 2, .ireturn],
  [.iconst 0, .ireturn]]
-- 294 Law.cut (LServiceBudgets;III[J)I
def zb_294 : List (List Instr) := [
  [.aload 4, .iconst 0, .aload 0, .iload 1, .iload 2, .iload 3, .invokeinterface 148 4, .i2l, .lastore, .goto 3],
  [.astore 5, .iconst 1, .ireturn],
  [.astore 5, .iconst 2, .ireturn],
  [.iconst 0, .ireturn]]
-- 295 Law.availability (LServiceBudgets;I[J)I
def zb_295 : List (List Instr) := [
  [.aload 2, .iconst 0, .aload 0, .iload 1, .invokeinterface 149 2, .i2l, .lastore, .goto 2],
  [.astore 3, .iconst 1, .ireturn],
  [.iconst 0, .ireturn]]
-- 296 Law.weakest (LServiceBudgets;I[J)I
def zb_296 : List (List Instr) := [
  [.aload 2, .iconst 0, .aload 0, .iload 1, .invokeinterface 150 2, .i2l, .lastore, .goto 2],
  [.astore 3, .iconst 1, .ireturn],
  [.iconst 0, .ireturn]]
-- 297 Law.append (LServiceBudgets;I[J)I
def zb_297 : List (List Instr) := [
  [.aload 2, .iconst 0, .aload 0, .iload 1, .invokeinterface 151 2, .i2l, .lastore, .goto 3],
  [.astore 3, .iconst 1, .ireturn],
  [.astore 3, .iconst 2, .ireturn],
  [.iconst 0, .ireturn]]
-- 298 Law.undo (LServiceBudgets;[J)I
def zb_298 : List (List Instr) := [
  [.aload 1, .iconst 0, .aload 0, .invokeinterface 154 1, .i2l, .lastore, .goto 2],
  [.astore 2, .iconst 1, .ireturn],
  [.iconst 0, .ireturn]]
-- 299 Law.law ([I)Z
def zb_299 : List (List Instr) := [
  [.new 9, .dup, .invokeinterface 115 1, .astore 1, .new 10, .dup, .invokeinterface 160 1, .astore 2, .iconst 1, .newarray .long, .astore 3, .iconst 0, .istore 4, .goto_w 1],
  [.iload 4, .aload 0, .arraylength, .iconst 6, .isub, .if_icmp .gt 107, .aload 0, .iload 4, .iaload, .iconst 63, .iand, .lookupswitch 106 #[(0, 2), (1, 5), (2, 8), (3, 11), (4, 14), (5, 17), (6, 18), (7, 19), (8, 22), (9, 25), (10, 30), (11, 31), (12, 34), (13, 39), (14, 42), (15, 45), (16, 48), (17, 51), (18, 54), (19, 55), (20, 56), (21, 59), (22, 62), (23, 65), (24, 66), (25, 69), (26, 72), (27, 75), (28, 78), (29, 79), (30, 80), (31, 85), (32, 88), (33, 91), (34, 94), (35, 97), (36, 100), (37, 101), (38, 102), (39, 105)]],
  [.aload 1, .aload 0, .iload 4, .iconst 1, .iadd, .iaload, .aload 3, .invokeinterface 270 3, .istore 5, .aload 2, .aload 0, .iload 4, .iconst 1, .iadd, .iaload, .invokeinterface 193 2, .istore 6, .aload 2, .invokeinterface 161 1, .iload 5, .if_icmp .eq 3, .iconst 0, .ireturn],
  [.iload 5, .ifCond .ne 4, .aload 3, .iconst 0, .laload, .iload 6, .i2l, .lcmp, .ifCond .eq 4, .iconst 0, .ireturn],
  [.goto 106],
  [.aload 1, .aload 0, .iload 4, .iconst 1, .iadd, .iaload, .aload 0, .iload 4, .iconst 2, .iadd, .iaload, .aload 0, .iload 4, .iconst 3, .iadd, .iaload, .aload 0, .iload 4, .iconst 4, .iadd, .iaload, .aload 0, .iload 4, .iconst 5, .iadd, .iaload, .aload 3, .invokeinterface 271 7, .istore 5, .aload 2, .aload 0, .iload 4, .iconst 1, .iadd, .iaload, .aload 0, .iload 4, .iconst 2, .iadd, .iaload, .aload 0, .iload 4, .iconst 3, .iadd, .iaload, .aload 0, .iload 4, .iconst 4, .iadd, .iaload, .aload 0, .iload 4, .iconst 5, .iadd, .iaload, .invokeinterface 194 6, .istore 6, .aload 2, .invokeinterface 161 1, .iload 5, .if_icmp .eq 6, .iconst 0, .ireturn],
  [.iload 5, .ifCond .ne 7, .aload 3, .iconst 0, .laload, .iload 6, .i2l, .lcmp, .ifCond .eq 7, .iconst 0, .ireturn],
  [.goto 106],
  [.aload 1, .aload 0, .iload 4, .iconst 1, .iadd, .iaload, .aload 3, .invokeinterface 272 3, .istore 5, .aload 2, .aload 0, .iload 4, .iconst 1, .iadd, .iaload, .invokeinterface 196 2, .istore 6, .aload 2, .invokeinterface 161 1, .iload 5, .if_icmp .eq 9, .iconst 0, .ireturn],
  [.iload 5, .ifCond .ne 10, .aload 3, .iconst 0, .laload, .iload 6, .i2l, .lcmp, .ifCond .eq 10, .iconst 0, .ireturn],
  [.goto 106],
  [.aload 1, .aload 0, .iload 4, .iconst 1, .iadd, .iaload, .aload 0, .iload 4, .iconst 2, .iadd, .iaload, .aload 0, .iload 4, .iconst 3, .iadd, .iaload, .aload 3, .invokeinterface 273 5, .istore 5, .aload 2, .aload 0, .iload 4, .iconst 1, .iadd, .iaload, .aload 0, .iload 4, .iconst 2, .iadd, .iaload, .aload 0, .iload 4, .iconst 3, .iadd, .iaload, .invokeinterface 197 4, .istore 6, .aload 2, .invokeinterface 161 1, .iload 5, .if_icmp .eq 12, .iconst 0, .ireturn],
  [.iload 5, .ifCond .ne 13, .aload 3, .iconst 0, .laload, .iload 6, .i2l, .lcmp, .ifCond .eq 13, .iconst 0, .ireturn],
  [.goto 106],
  [.aload 1, .aload 0, .iload 4, .iconst 1, .iadd, .iaload, .aload 0, .iload 4, .iconst 2, .iadd, .iaload, .aload 3, .invokeinterface 274 4, .istore 5, .aload 2, .aload 0, .iload 4, .iconst 1, .iadd, .iaload, .aload 0, .iload 4, .iconst 2, .iadd, .iaload, .invokeinterface 198 3, .istore 6, .aload 2, .invokeinterface 161 1, .iload 5, .if_icmp .eq 15, .iconst 0, .ireturn],
  [.iload 5, .ifCond .ne 16, .aload 3, .iconst 0, .laload, .iload 6, .i2l, .lcmp, .ifCond .eq 16, .iconst 0, .ireturn],
  [.goto 106],
  [.aload 1, .invokeinterface 121 1, .aload 2, .invokeinterface 199 1, .if_icmp .eq 106, .iconst 0, .ireturn],
  [.aload 1, .invokeinterface 122 1, .aload 2, .invokeinterface 200 1, .if_icmp .eq 106, .iconst 0, .ireturn],
  [.aload 1, .aload 0, .iload 4, .iconst 1, .iadd, .iaload, .aload 0, .iload 4, .iconst 2, .iadd, .iaload, .aload 3, .invokeinterface 275 4, .istore 5, .aload 2, .aload 0, .iload 4, .iconst 1, .iadd, .iaload, .aload 0, .iload 4, .iconst 2, .iadd, .iaload, .invokeinterface 202 3, .istore 6, .aload 2, .invokeinterface 161 1, .iload 5, .if_icmp .eq 20, .iconst 0, .ireturn],
  [.iload 5, .ifCond .ne 21, .aload 3, .iconst 0, .laload, .iload 6, .i2l, .lcmp, .ifCond .eq 21, .iconst 0, .ireturn],
  [.goto 106],
  [.aload 1, .aload 0, .iload 4, .iconst 1, .iadd, .iaload, .aload 0, .iload 4, .iconst 2, .iadd, .iaload, .aload 3, .invokeinterface 276 4, .istore 5, .aload 2, .aload 0, .iload 4, .iconst 1, .iadd, .iaload, .aload 0, .iload 4, .iconst 2, .iadd, .iaload, .invokeinterface 204 3, .istore 6, .aload 2, .invokeinterface 161 1, .iload 5, .if_icmp .eq 23, .iconst 0, .ireturn],
  [.iload 5, .ifCond .ne 24, .aload 3, .iconst 0, .laload, .iload 6, .i2l, .lcmp, .ifCond .eq 24, .iconst 0, .ireturn],
  [.goto 106],
  [.aload 1, .aload 0, .iload 4, .iconst 1, .iadd, .iaload, .aload 0, .iload 4, .iconst 2, .iadd, .iaload, .aload 3, .invokeinterface 277 4, .istore 5, .aload 2, .aload 0, .iload 4, .iconst 1, .iadd, .iaload, .aload 0, .iload 4, .iconst 2, .iadd, .iaload, .invokeinterface 205 3, .istore 6, .aload 2, .invokeinterface 161 1, .iload 5, .if_icmp .eq 26, .iconst 0, .ireturn],
  [.iload 5, .ifCond .ne 29, .aload 3, .iconst 0, .laload, .iload 6, .ifCond .eq 27, .jsr_w 1, .goto 28],
  [.jsr_w 0, .goto_w 28],
  [.lcmp, .ifCond .eq 29, .iconst 0, .ireturn],
  [.goto 106],
  [.aload 1, .aload 0, .iload 4, .iconst 1, .iadd, .iaload, .invokeinterface 126 2, .aload 2, .aload 0, .iload 4, .iconst 1, .iadd, .iaload, .invokeinterface 206 2, .if_icmp .eq 106, .iconst 0, .ireturn],
  [.aload 1, .aload 0, .iload 4, .iconst 1, .iadd, .iaload, .aload 3, .invokeinterface 278 3, .istore 5, .aload 2, .aload 0, .iload 4, .iconst 1, .iadd, .iaload, .invokeinterface 208 2, .istore 6, .aload 2, .invokeinterface 161 1, .iload 5, .if_icmp .eq 32, .iconst 0, .ireturn],
  [.iload 5, .ifCond .ne 33, .aload 3, .iconst 0, .laload, .iload 6, .i2l, .lcmp, .ifCond .eq 33, .iconst 0, .ireturn],
  [.goto 106],
  [.aload 1, .aload 0, .iload 4, .iconst 1, .iadd, .iaload, .aload 0, .iload 4, .iconst 2, .iadd, .iaload, .aload 3, .invokeinterface 279 4, .istore 5, .aload 2, .aload 0, .iload 4, .iconst 1, .iadd, .iaload, .aload 0, .iload 4, .iconst 2, .iadd, .iaload, .invokeinterface 218 3, .istore 6, .aload 2, .invokeinterface 161 1, .iload 5, .if_icmp .eq 35, .iconst 0, .ireturn],
  [.iload 5, .ifCond .ne 38, .aload 3, .iconst 0, .laload, .iload 6, .ifCond .eq 36, .jsr_w 1, .goto 37],
  [.jsr_w 0, .goto_w 37],
  [.lcmp, .ifCond .eq 38, .iconst 0, .ireturn],
  [.goto 106],
  [.aload 1, .aload 0, .iload 4, .iconst 1, .iadd, .iaload, .aload 3, .invokeinterface 280 3, .istore 5, .aload 2, .aload 0, .iload 4, .iconst 1, .iadd, .iaload, .invokeinterface 219 2, .istore 6, .aload 2, .invokeinterface 161 1, .iload 5, .if_icmp .eq 40, .iconst 0, .ireturn],
  [.iload 5, .ifCond .ne 41, .aload 3, .iconst 0, .laload, .iload 6, .i2l, .lcmp, .ifCond .eq 41, .iconst 0, .ireturn],
  [.goto 106],
  [.aload 1, .aload 0, .iload 4, .iconst 1, .iadd, .iaload, .aload 0, .iload 4, .iconst 2, .iadd, .iaload, .aload 3, .invokeinterface 281 4, .istore 5, .aload 2, .aload 0, .iload 4, .iconst 1, .iadd, .iaload, .aload 0, .iload 4, .iconst 2, .iadd, .iaload, .invokeinterface 220 3, .istore 6, .aload 2, .invokeinterface 161 1, .iload 5, .if_icmp .eq 43, .iconst 0, .ireturn],
  [.iload 5, .ifCond .ne 44, .aload 3, .iconst 0, .laload, .iload 6, .i2l, .lcmp, .ifCond .eq 44, .iconst 0, .ireturn],
  [.goto 106],
  [.aload 1, .aload 0, .iload 4, .iconst 1, .iadd, .iaload, .aload 0, .iload 4, .iconst 2, .iadd, .iaload, .aload 3, .invokeinterface 282 4, .istore 5, .aload 2, .aload 0, .iload 4, .iconst 1, .iadd, .iaload, .aload 0, .iload 4, .iconst 2, .iadd, .iaload, .invokeinterface 221 3, .istore 6, .aload 2, .invokeinterface 161 1, .iload 5, .if_icmp .eq 46, .iconst 0, .ireturn],
  [.iload 5, .ifCond .ne 47, .aload 3, .iconst 0, .laload, .iload 6, .i2l, .lcmp, .ifCond .eq 47, .iconst 0, .ireturn],
  [.goto 106],
  [.aload 1, .aload 0, .iload 4, .iconst 1, .iadd, .iaload, .aload 3, .invokeinterface 283 3, .istore 5, .aload 2, .aload 0, .iload 4, .iconst 1, .iadd, .iaload, .invokeinterface 222 2, .istore 6, .aload 2, .invokeinterface 161 1, .iload 5, .if_icmp .eq 49, .iconst 0, .ireturn],
  [.iload 5, .ifCond .ne 50, .aload 3, .iconst 0, .laload, .iload 6, .i2l, .lcmp, .ifCond .eq 50, .iconst 0, .ireturn],
  [.goto 106],
  [.aload 1, .aload 0, .iload 4, .iconst 1, .iadd, .iaload, .aload 3, .invokeinterface 284 3, .istore 5, .aload 2, .aload 0, .iload 4, .iconst 1, .iadd, .iaload, .invokeinterface 225 2, .istore 6, .aload 2, .invokeinterface 161 1, .iload 5, .if_icmp .eq 52, .iconst 0, .ireturn],
  [.iload 5, .ifCond .ne 53, .aload 3, .iconst 0, .laload, .iload 6, .i2l, .lcmp, .ifCond .eq 53, .iconst 0, .ireturn],
  [.goto 106],
  [.aload 1, .invokeinterface 134 1, .aload 2, .invokeinterface 227 1, .if_icmp .eq 106, .iconst 0, .ireturn],
  [.aload 1, .invokeinterface 135 1, .aload 2, .invokeinterface 228 1, .if_icmp .eq 106, .iconst 0, .ireturn],
  [.aload 1, .aload 0, .iload 4, .iconst 1, .iadd, .iaload, .aload 3, .invokeinterface 285 3, .istore 5, .aload 2, .aload 0, .iload 4, .iconst 1, .iadd, .iaload, .invokeinterface 232 2, .istore 6, .aload 2, .invokeinterface 161 1, .iload 5, .if_icmp .eq 57, .iconst 0, .ireturn],
  [.iload 5, .ifCond .ne 58, .aload 3, .iconst 0, .laload, .iload 6, .i2l, .lcmp, .ifCond .eq 58, .iconst 0, .ireturn],
  [.goto 106],
  [.aload 1, .aload 0, .iload 4, .iconst 1, .iadd, .iaload, .aload 3, .invokeinterface 286 3, .istore 5, .aload 2, .aload 0, .iload 4, .iconst 1, .iadd, .iaload, .invokeinterface 233 2, .istore 6, .aload 2, .invokeinterface 161 1, .iload 5, .if_icmp .eq 60, .iconst 0, .ireturn],
  [.iload 5, .ifCond .ne 61, .aload 3, .iconst 0, .laload, .iload 6, .i2l, .lcmp, .ifCond .eq 61, .iconst 0, .ireturn],
  [.goto 106],
  [.aload 1, .aload 0, .iload 4, .iconst 1, .iadd, .iaload, .aload 3, .invokeinterface 287 3, .istore 5, .aload 2, .aload 0, .iload 4, .iconst 1, .iadd, .iaload, .invokeinterface 234 2, .istore 6, .aload 2, .invokeinterface 161 1, .iload 5, .if_icmp .eq 63, .iconst 0, .ireturn],
  [.iload 5, .ifCond .ne 64, .aload 3, .iconst 0, .laload, .iload 6, .i2l, .lcmp, .ifCond .eq 64, .iconst 0, .ireturn],
  [.goto 106],
  [.aload 1, .invokeinterface 139 1, .aload 2, .invokeinterface 235 1, .if_icmp .eq 106, .iconst 0, .ireturn],
  [.aload 1, .aload 0, .iload 4, .iconst 1, .iadd, .iaload, .aload 3, .invokeinterface 288 3, .istore 5, .aload 2, .aload 0, .iload 4, .iconst 1, .iadd, .iaload, .invokeinterface 237 2, .istore 6, .aload 2, .invokeinterface 161 1, .iload 5, .if_icmp .eq 67, .iconst 0, .ireturn],
  [.iload 5, .ifCond .ne 68, .aload 3, .iconst 0, .laload, .iload 6, .i2l, .lcmp, .ifCond .eq 68, .iconst 0, .ireturn],
  [.goto 106],
  [.aload 1, .aload 0, .iload 4, .iconst 1, .iadd, .iaload, .aload 3, .invokeinterface 289 3, .istore 5, .aload 2, .aload 0, .iload 4, .iconst 1, .iadd, .iaload, .invokeinterface 238 2, .istore 6, .aload 2, .invokeinterface 161 1, .iload 5, .if_icmp .eq 70, .iconst 0, .ireturn],
  [.iload 5, .ifCond .ne 71, .aload 3, .iconst 0, .laload, .iload 6, .i2l, .lcmp, .ifCond .eq 71, .iconst 0, .ireturn],
  [.goto 106],
  [.aload 1, .aload 0, .iload 4, .iconst 1, .iadd, .iaload, .aload 3, .invokeinterface 290 3, .istore 5, .aload 2, .aload 0, .iload 4, .iconst 1, .iadd, .iaload, .invokeinterface 241 2, .istore 6, .aload 2, .invokeinterface 161 1, .iload 5, .if_icmp .eq 73, .iconst 0, .ireturn],
  [.iload 5, .ifCond .ne 74, .aload 3, .iconst 0, .laload, .iload 6, .i2l, .lcmp, .ifCond .eq 74, .iconst 0, .ireturn],
  [.goto 106],
  [.aload 1, .aload 0, .iload 4, .iconst 1, .iadd, .iaload, .aload 0, .iload 4, .iconst 2, .iadd, .iaload, .aload 3, .invokeinterface 291 4, .istore 5, .aload 2, .aload 0, .iload 4, .iconst 1, .iadd, .iaload, .aload 0, .iload 4, .iconst 2, .iadd, .iaload, .invokeinterface 242 3, .istore 6, .aload 2, .invokeinterface 161 1, .iload 5, .if_icmp .eq 76, .iconst 0, .ireturn],
  [.iload 5, .ifCond .ne 77, .aload 3, .iconst 0, .laload, .iload 6, .i2l, .lcmp, .ifCond .eq 77, .iconst 0, .ireturn],
  [.goto 106],
  [.aload 1, .invokeinterface 144 1, .aload 2, .invokeinterface 246 1, .if_icmp .eq 106, .iconst 0, .ireturn],
  [.aload 1, .aload 0, .iload 4, .iconst 1, .iadd, .iaload, .invokeinterface 145 2, .aload 2, .aload 0, .iload 4, .iconst 1, .iadd, .iaload, .invokeinterface 247 2, .if_icmp .eq 106, .iconst 0, .ireturn],
  [.aload 1, .aload 0, .iload 4, .iconst 1, .iadd, .iaload, .aload 0, .iload 4, .iconst 2, .iadd, .iaload, .aload 3, .invokeinterface 292 4, .istore 5, .aload 2, .aload 0, .iload 4, .iconst 1, .iadd, .iaload, .aload 0, .iload 4, .iconst 2, .iadd, .iaload, .invokeinterface 249 3, .istore 6, .aload 2, .invokeinterface 161 1, .iload 5, .if_icmp .eq 81, .iconst 0, .ireturn],
  [.iload 5, .ifCond .ne 84, .aload 3, .iconst 0, .laload, .iload 6, .ifCond .eq 82, .jsr_w 1, .goto 83],
  [.jsr_w 0, .goto_w 83],
  [.lcmp, .ifCond .eq 84, .iconst 0, .ireturn],
  [.goto 106],
  [.aload 1, .aload 0, .iload 4, .iconst 1, .iadd, .iaload, .aload 0, .iload 4, .iconst 2, .iadd, .iaload, .aload 3, .invokeinterface 293 4, .istore 5, .aload 2, .aload 0, .iload 4, .iconst 1, .iadd, .iaload, .aload 0, .iload 4, .iconst 2, .iadd, .iaload, .invokeinterface 254 3, .istore 6, .aload 2, .invokeinterface 161 1, .iload 5, .if_icmp .eq 86, .iconst 0, .ireturn],
  [.iload 5, .ifCond .ne 87, .aload 3, .iconst 0, .laload, .iload 6, .i2l, .lcmp, .ifCond .eq 87, .iconst 0, .ireturn],
  [.goto 106],
  [.aload 1, .aload 0, .iload 4, .iconst 1, .iadd, .iaload, .aload 0, .iload 4, .iconst 2, .iadd, .iaload, .aload 0, .iload 4, .iconst 3, .iadd, .iaload, .aload 3, .invokeinterface 294 5, .istore 5, .aload 2, .aload 0, .iload 4, .iconst 1, .iadd, .iaload, .aload 0, .iload 4, .iconst 2, .iadd, .iaload, .aload 0, .iload 4, .iconst 3, .iadd, .iaload, .invokeinterface 255 4, .istore 6, .aload 2, .invokeinterface 161 1, .iload 5, .if_icmp .eq 89, .iconst 0, .ireturn],
  [.iload 5, .ifCond .ne 90, .aload 3, .iconst 0, .laload, .iload 6, .i2l, .lcmp, .ifCond .eq 90, .iconst 0, .ireturn],
  [.goto 106],
  [.aload 1, .aload 0, .iload 4, .iconst 1, .iadd, .iaload, .aload 3, .invokeinterface 295 3, .istore 5, .aload 2, .aload 0, .iload 4, .iconst 1, .iadd, .iaload, .invokeinterface 257 2, .istore 6, .aload 2, .invokeinterface 161 1, .iload 5, .if_icmp .eq 92, .iconst 0, .ireturn],
  [.iload 5, .ifCond .ne 93, .aload 3, .iconst 0, .laload, .iload 6, .i2l, .lcmp, .ifCond .eq 93, .iconst 0, .ireturn],
  [.goto 106],
  [.aload 1, .aload 0, .iload 4, .iconst 1, .iadd, .iaload, .aload 3, .invokeinterface 296 3, .istore 5, .aload 2, .aload 0, .iload 4, .iconst 1, .iadd, .iaload, .invokeinterface 258 2, .istore 6, .aload 2, .invokeinterface 161 1, .iload 5, .if_icmp .eq 95, .iconst 0, .ireturn],
  [.iload 5, .ifCond .ne 96, .aload 3, .iconst 0, .laload, .iload 6, .i2l, .lcmp, .ifCond .eq 96, .iconst 0, .ireturn],
  [.goto 106],
  [.aload 1, .aload 0, .iload 4, .iconst 1, .iadd, .iaload, .aload 3, .invokeinterface 297 3, .istore 5, .aload 2, .aload 0, .iload 4, .iconst 1, .iadd, .iaload, .invokeinterface 259 2, .istore 6, .aload 2, .invokeinterface 161 1, .iload 5, .if_icmp .eq 98, .iconst 0, .ireturn],
  [.iload 5, .ifCond .ne 99, .aload 3, .iconst 0, .laload, .iload 6, .i2l, .lcmp, .ifCond .eq 99, .iconst 0, .ireturn],
  [.goto 106],
  [.aload 1, .invokeinterface 152 1, .aload 2, .invokeinterface 260 1, .if_icmp .eq 106, .iconst 0, .ireturn],
  [.aload 1, .invokeinterface 153 1, .aload 2, .invokeinterface 266 1, .if_icmp .eq 106, .iconst 0, .ireturn],
  [.aload 1, .aload 3, .invokeinterface 298 2, .istore 5, .aload 2, .invokeinterface 267 1, .istore 6, .aload 2, .invokeinterface 161 1, .iload 5, .if_icmp .eq 103, .iconst 0, .ireturn],
  [.iload 5, .ifCond .ne 104, .aload 3, .iconst 0, .laload, .iload 6, .i2l, .lcmp, .ifCond .eq 104, .iconst 0, .ireturn],
  [.goto 106],
  [.aload 1, .invokeinterface 155 1, .aload 2, .invokeinterface 269 1, .lcmp, .ifCond .eq 106, .iconst 0, .ireturn],
  [.iinc 4 6, .goto 1],
  [.iconst 1, .ireturn]]
-- 300 Math.max (II)I
def zb_300 : List (List Instr) := [
  [.iload 0, .iload 1, .if_icmp .lt 1, .iload 0, .goto 2],
  [.iload 1, .goto_w 2],
  [.ireturn]]
-- 301 Math.min (II)I
def zb_301 : List (List Instr) := [
  [.iload 0, .iload 1, .if_icmp .gt 1, .iload 0, .goto 2],
  [.iload 1, .goto_w 2],
  [.ireturn]]
-- 302 Integer.bitCount (I)I
def zb_302 : List (List Instr) := [
  [.iload 0, .iload 0, .iconst 1, .iushr, .iconst 1431655765, .iand, .isub, .istore 0, .iload 0, .iconst 858993459, .iand, .iload 0, .iconst 2, .iushr, .iconst 858993459, .iand, .iadd, .istore 0, .iload 0, .iload 0, .iconst 4, .iushr, .iadd, .iconst 252645135, .iand, .istore 0, .iload 0, .iload 0, .iconst 8, .iushr, .iadd, .istore 0, .iload 0, .iload 0, .iconst 16, .iushr, .iadd, .istore 0, .iload 0, .iconst 63, .iand, .ireturn]]
-- 303 Float.floatToIntBits (F)I
def zb_303 : List (List Instr) := [
  [.fload 0, .invokeinterface 304 1, .ifCond .ne 1, .fload 0, .f2i, .ireturn],
  [.iconst 2143289344, .ireturn]]
-- 304 Float.isNaN (F)Z
def zb_304 : List (List Instr) := [
  [.fload 0, .fload 0, .fcmp .l, .ifCond .eq 1, .iconst 1, .goto 2],
  [.iconst 0, .goto_w 2],
  [.ireturn]]
def zTab : List (List (List Instr)) := [zb_0, zb_1, zb_2, zb_3, zb_4, zb_5, zb_6, zb_7, zb_8, zb_9, zb_10, zb_11, zb_12, zb_13, zb_14, zb_15, zb_16, zb_17, zb_18, zb_19, zb_20, zb_21, zb_22, zb_23, zb_24, zb_25, zb_26, zb_27, zb_28, zb_29, zb_30, zb_31, zb_32, zb_33, zb_34, zb_35, zb_36, zb_37, zb_38, zb_39, zb_40, zb_41, zb_42, zb_43, zb_44, zb_45, zb_46, zb_47, zb_48, zb_49, zb_50, zb_51, zb_52, zb_53, zb_54, zb_55, zb_56, zb_57, zb_58, zb_59, zb_60, zb_61, zb_62, zb_63, zb_64, zb_65, zb_66, zb_67, zb_68, zb_69, zb_70, zb_71, zb_72, zb_73, zb_74, zb_75, zb_76, zb_77, zb_78, zb_79, zb_80, zb_81, zb_82, zb_83, zb_84, zb_85, zb_86, zb_87, zb_88, zb_89, zb_90, zb_91, zb_92, zb_93, zb_94, zb_95, zb_96, zb_97, zb_98, zb_99, zb_100, zb_101, zb_102, zb_103, zb_104, zb_105, zb_106, zb_107, zb_108, zb_109, zb_110, zb_111, zb_112, zb_113, zb_114, zb_115, zb_116, zb_117, zb_118, zb_119, zb_120, zb_121, zb_122, zb_123, zb_124, zb_125, zb_126, zb_127, zb_128, zb_129, zb_130, zb_131, zb_132, zb_133, zb_134, zb_135, zb_136, zb_137, zb_138, zb_139, zb_140, zb_141, zb_142, zb_143, zb_144, zb_145, zb_146, zb_147, zb_148, zb_149, zb_150, zb_151, zb_152, zb_153, zb_154, zb_155, zb_156, zb_157, zb_158, zb_159, zb_160, zb_161, zb_162, zb_163, zb_164, zb_165, zb_166, zb_167, zb_168, zb_169, zb_170, zb_171, zb_172, zb_173, zb_174, zb_175, zb_176, zb_177, zb_178, zb_179, zb_180, zb_181, zb_182, zb_183, zb_184, zb_185, zb_186, zb_187, zb_188, zb_189, zb_190, zb_191, zb_192, zb_193, zb_194, zb_195, zb_196, zb_197, zb_198, zb_199, zb_200, zb_201, zb_202, zb_203, zb_204, zb_205, zb_206, zb_207, zb_208, zb_209, zb_210, zb_211, zb_212, zb_213, zb_214, zb_215, zb_216, zb_217, zb_218, zb_219, zb_220, zb_221, zb_222, zb_223, zb_224, zb_225, zb_226, zb_227, zb_228, zb_229, zb_230, zb_231, zb_232, zb_233, zb_234, zb_235, zb_236, zb_237, zb_238, zb_239, zb_240, zb_241, zb_242, zb_243, zb_244, zb_245, zb_246, zb_247, zb_248, zb_249, zb_250, zb_251, zb_252, zb_253, zb_254, zb_255, zb_256, zb_257, zb_258, zb_259, zb_260, zb_261, zb_262, zb_263, zb_264, zb_265, zb_266, zb_267, zb_268, zb_269, zb_270, zb_271, zb_272, zb_273, zb_274, zb_275, zb_276, zb_277, zb_278, zb_279, zb_280, zb_281, zb_282, zb_283, zb_284, zb_285, zb_286, zb_287, zb_288, zb_289, zb_290, zb_291, zb_292, zb_293, zb_294, zb_295, zb_296, zb_297, zb_298, zb_299, zb_300, zb_301, zb_302, zb_303, zb_304]
def zB (m : Nat) (l : Int) : List Instr := (zTab.getD m []).getD l.toNat []
/-- what a method answers: 0 nothing, 1 int, 2 boolean, 3 long, 4 double -/
def zRkT : List Nat := [0, 1, 0, 1, 0, 0, 0, 0, 3, 0, 2, 2, 1, 1, 4, 0, 1, 0, 0, 0, 1, 1, 1, 0, 1, 0, 1, 1, 1, 1, 1, 0, 0, 0, 1, 1, 0, 1, 1, 1, 1, 1, 1, 1, 1, 1, 0, 2, 1, 1, 0, 0, 1, 1, 1, 1, 1, 0, 1, 1, 2, 1, 1, 1, 1, 0, 0, 1, 1, 1, 1, 1, 1, 1, 1, 1, 1, 1, 1, 1, 1, 1, 1, 1, 2, 2, 2, 1, 1, 2, 2, 2, 1, 1, 1, 0, 1, 1, 0, 1, 0, 0, 0, 1, 1, 1, 1, 1, 1, 1, 1, 1, 1, 1, 0, 0, 1, 1, 1, 1, 1, 1, 1, 1, 1, 2, 1, 1, 2, 1, 1, 1, 1, 1, 1, 1, 1, 1, 1, 1, 1, 1, 1, 1, 1, 1, 2, 1, 1, 1, 1, 1, 1, 1, 1, 3, 0, 1, 2, 1, 0, 1, 2, 1, 1, 0, 0, 1, 1, 0, 1, 1, 1, 2, 2, 2, 2, 1, 1, 1, 0, 0, 2, 1, 1, 2, 1, 1, 1, 0, 1, 1, 1, 1, 1, 1, 1, 1, 1, 1, 1, 1, 1, 1, 1, 2, 1, 0, 1, 0, 0, 2, 0, 1, 1, 0, 0, 2, 2, 1, 1, 1, 1, 0, 0, 1, 1, 1, 1, 1, 2, 1, 1, 1, 1, 1, 1, 1, 1, 1, 1, 1, 1, 1, 1, 1, 1, 1, 1, 2, 0, 1, 2, 1, 1, 1, 4, 1, 1, 1, 1, 2, 1, 2, 2, 1, 1, 1, 0, 3, 1, 1, 1, 1, 1, 1, 1, 1, 1, 1, 1, 1, 1, 1, 1, 1, 1, 1, 1, 1, 1, 1, 1, 1, 1, 1, 1, 1, 1, 2, 1, 1, 1, 1, 2]
def zRk (m : Nat) : Nat := zRkT.getD m 0
/-- handlers: method, exception (1 IndexOutOfBounds, 2 IllegalArgument, 3 IllegalState), label -/
def zEx : List (Nat × Nat × Int) := [(270, 2, 1), (270, 3, 2), (271, 1, 1), (271, 2, 2), (271, 3, 3), (272, 1, 1), (272, 3, 2), (273, 1, 1), (273, 2, 2), (274, 1, 1), (274, 2, 2), (275, 1, 1), (275, 2, 2), (276, 1, 1), (276, 2, 2), (277, 1, 3), (278, 1, 1), (279, 1, 3), (279, 2, 4), (280, 2, 1), (280, 3, 2), (281, 2, 1), (282, 2, 1), (283, 1, 1), (284, 1, 1), (285, 1, 1), (285, 3, 2), (286, 1, 1), (286, 3, 2), (287, 2, 1), (288, 1, 1), (288, 3, 2), (289, 1, 1), (289, 3, 2), (290, 2, 1), (291, 2, 1), (291, 1, 2), (292, 1, 3), (292, 2, 4), (293, 1, 1), (293, 2, 2), (294, 1, 1), (294, 2, 2), (295, 1, 1), (296, 1, 1), (297, 2, 1), (297, 3, 2), (298, 3, 1)]
def zE (m k : Nat) : Option Int := (zEx.find? (fun q => q.1 == m && q.2.1 == k)).map (fun q => q.2.2)
/-- the type of a field: 1 int, 2 boolean, 3 long, 5 a reference -/
def zTyT : List (List Nat) := [[5], [5, 5, 5], [5, 5, 1, 5, 5], [5, 1], [5, 5, 5, 5], [2, 1, 1, 1, 1, 1, 1, 1, 5, 5], [], [1, 1, 5, 5], [5, 1, 5, 5], [5, 5, 5, 5, 5, 5, 5, 5, 5], [5, 5, 5, 1, 5, 1, 1, 5, 5, 1, 5, 5, 5, 5, 5, 5, 5, 5, 5, 5, 1, 1, 1, 1, 1, 1, 1, 1, 5, 5, 5, 5, 5, 2, 2, 5, 1, 5, 5, 5, 1, 1, 5, 3]]
def zTy (n : Nat) : Nat := (zTyT.getD (n / 64) []).getD (n % 64) 0
def zNf (t : Nat) : Nat := (zTyT.getD t []).length
def zDv (ty : Nat) : Value := if ty = 5 then .null else if ty = 3 then .long 0 else .int 0
/-- the fields of a new object -/
def zDf (t : Nat) (k : Int) : Value := zDv ((zTyT.getD t []).getD k.toNat 0)
/-- arguments, locals -/
def zNaT : List Nat := [1, 3, 4, 6, 5, 1, 1, 3, 2, 4, 3, 4, 4, 5, 4, 3, 3, 1, 2, 2, 3, 2, 1, 2, 3, 2, 3, 2, 2, 4, 3, 1, 2, 1, 1, 2, 1, 2, 3, 4, 3, 4, 2, 4, 2, 3, 1, 4, 6, 4, 5, 1, 1, 2, 1, 3, 3, 1, 1, 1, 1, 1, 6, 7, 7, 1, 2, 2, 2, 2, 2, 2, 6, 6, 2, 2, 4, 4, 3, 3, 3, 2, 2, 2, 3, 3, 2, 2, 2, 3, 3, 2, 1, 1, 2, 2, 2, 2, 2, 1, 3, 3, 1, 1, 2, 1, 1, 1, 1, 3, 1, 2, 3, 3, 3, 1, 2, 6, 2, 4, 3, 1, 1, 3, 3, 3, 2, 2, 3, 2, 3, 3, 2, 2, 1, 1, 2, 2, 2, 1, 2, 2, 2, 3, 1, 2, 3, 3, 4, 2, 2, 2, 1, 1, 1, 1, 1, 3, 2, 1, 1, 1, 3, 2, 2, 1, 1, 2, 3, 4, 3, 2, 2, 2, 2, 2, 2, 2, 3, 2, 1, 1, 3, 2, 6, 2, 4, 1, 2, 2, 2, 2, 2, 2, 6, 2, 2, 4, 3, 1, 1, 3, 3, 3, 3, 3, 2, 1, 2, 2, 4, 1, 2, 1, 3, 1, 1, 3, 3, 2, 3, 3, 2, 2, 1, 2, 1, 1, 1, 1, 3, 1, 2, 2, 2, 1, 2, 2, 2, 3, 2, 2, 3, 2, 4, 1, 1, 2, 2, 3, 2, 1, 2, 4, 3, 4, 2, 2, 2, 2, 1, 3, 1, 2, 1, 1, 1, 1, 2, 1, 3, 7, 3, 5, 4, 4, 4, 4, 3, 4, 3, 4, 4, 3, 3, 3, 3, 3, 3, 3, 3, 4, 4, 4, 5, 3, 3, 3, 2, 1, 2, 2, 1, 1, 1]
def zNa (m : Nat) : Nat := zNaT.getD m 0
def zMlT : List Nat := [1, 5, 5, 6, 5, 1, 1, 7, 2, 7, 3, 5, 6, 7, 7, 11, 9, 1, 5, 3, 4, 2, 1, 3, 5, 3, 7, 4, 5, 6, 5, 2, 2, 3, 1, 2, 1, 4, 11, 6, 5, 7, 4, 10, 4, 7, 1, 4, 8, 5, 5, 1, 1, 2, 1, 3, 3, 1, 1, 1, 1, 1, 9, 10, 12, 1, 3, 2, 2, 2, 2, 4, 6, 7, 3, 3, 4, 5, 3, 4, 3, 2, 4, 3, 3, 3, 2, 6, 4, 4, 4, 2, 3, 1, 2, 2, 2, 2, 3, 5, 4, 3, 1, 1, 2, 2, 3, 1, 1, 7, 1, 3, 5, 6, 6, 1, 2, 6, 2, 4, 3, 1, 1, 3, 3, 3, 2, 2, 3, 2, 3, 3, 2, 2, 1, 1, 2, 2, 2, 1, 2, 3, 2, 3, 1, 2, 3, 3, 4, 2, 2, 2, 1, 3, 1, 5, 1, 3, 2, 4, 1, 1, 3, 2, 2, 2, 2, 3, 3, 4, 3, 2, 2, 2, 2, 2, 2, 2, 4, 4, 4, 4, 3, 3, 7, 2, 4, 3, 2, 2, 2, 4, 2, 2, 6, 4, 3, 4, 4, 1, 1, 3, 3, 3, 3, 3, 2, 5, 2, 2, 4, 2, 2, 3, 4, 5, 2, 6, 5, 2, 3, 3, 3, 5, 2, 2, 3, 1, 4, 3, 7, 6, 2, 2, 2, 1, 4, 2, 3, 6, 8, 2, 4, 4, 5, 6, 1, 8, 4, 3, 3, 3, 4, 7, 3, 4, 9, 2, 8, 2, 2, 3, 1, 3, 3, 1, 3, 2, 2, 3, 4, 8, 4, 6, 5, 5, 5, 5, 4, 5, 4, 5, 5, 4, 4, 4, 4, 4, 4, 4, 4, 5, 5, 5, 6, 4, 4, 4, 3, 7, 2, 2, 1, 1, 1]
def zMl (m : Nat) : Nat := zMlT.getD m 0
abbrev zRef : Nat := 156
def zDispT : List (Nat × Nat × Nat) := [(0, 0, 3), (0, 5, 48), (1, 0, 4), (1, 5, 50), (2, 0, 5), (2, 5, 51)]
end
section
/-! THE ABSTRACT MACHINE: heap, one step, the least predicate that is closed under steps, calls by depth -/
/-- an abstract heap: its shape (how many cells, how many slots were used, tags, lengths), its contents -/
def zS : Type := Nat × Nat × (Nat → Nat) × (Nat → Int)
abbrev zV : Type := Nat → Int → Value
abbrev zH : Type := zS × zV
def zS.sz (h : zS) : Nat := h.1
def zS.sl (h : zS) : Nat := h.2.1
def zS.tg (h : zS) (r : Nat) : Nat := h.2.2.1 r
def zS.ln (h : zS) (r : Nat) : Int := h.2.2.2 r
def zput (V : zV) (r : Nat) (k : Int) (v : Value) : zV := fun r' k' => if r' = r ∧ k' = k then v else V r' k'
/-- another row of contents at r -/
def zrow (V : zV) (r : Nat) (f : Int → Value) : zV := fun r' => if r' = r then f else V r'
def zS.new (s : zS) (t : Nat) (n : Int) (k : Nat) : zS := (s.1 + 1, s.2.1 + k, fun r => if r = s.1 then t else s.2.2.1 r, fun r => if r = s.1 then n else s.2.2.2 r)
abbrev zHnew (h : zH) (t : Nat) (n : Int) (k : Nat) (f : Int → Value) : zH := (h.1.new t n k, zrow h.2 h.1.sz f)
/-- n rows of length k of tag t, one behind the other -/
def zHnews (h : zH) (t : Nat) (k : Int) (v : Value) : Nat → zH
  | 0 => h
  | n + 1 => zHnew (zHnews h t k v n) t k k.toNat (fun _ => v)
abbrev zO : Type := Option Value ⊕ Nat
def zJ : Value := .retAddr 0
def zi (z : Int) : Value := .int (Int32.ofInt z)
def zl (z : Int) : Value := .long (Int64.ofInt z)
def zsw : List (Int × Int) → Int → Int → Int
  | [], d, _ => d
  | (k, l) :: ps, d, x => if x = k then l else zsw ps d x
/-! tags: objects 0 to 10 (11, 12, 13 exceptions); 20 int[], 21 long[], 22 double[], 23 boolean[], 24 int[][], 25 long[][], 26 State[]; 30, 31, 32: arrays that were there before (int, long, the script) -/
/-- may this value be put into a field of this type -/
def zFit (ty : Nat) (v : Value) : Bool := match v with
  | .int x => ty == 1 || (ty == 2 && (x == 0 || x == 1))
  | .long _ => ty == 3
  | .ref _ => ty == 5
  | _ => false
def zAt : ArrayType → Nat
  | .int => 20 | .long => 21 | .double => 22 | .boolean => 23 | _ => 99
def zAd : ArrayType → Value
  | .long => .long 0 | .double => .double 0 | _ => .int 0
def zPrev (L : List Value) : Nat → Bool
  | 0 => true
  | j + 1 => (L.getD j zJ).category == 1
def zSetL (L : List Value) (k : Nat) (v : Value) : Option (List Value) :=
  if k < L.length ∧ v.category = 1 ∧ zPrev L k = true then some (L.set k v) else none
def zSetL2 (L : List Value) (k : Nat) (v : Value) : Option (List Value) :=
  if k + 1 < L.length ∧ v.category = 2 ∧ zPrev L k = true then some ((L.set k v).set (k + 1) zJ) else none

def zstep (m : Nat) (i : Instr) (r : List Instr) (L st : List Value) (h : zH) : Option (List Instr × List Value × List Value × zH) := match i with
  | .iload k => match L[k]? with
    | some (.int x) => some (r, L, .int x :: st, h)
    | _ => none
  | .lload k => match L[k]? with
    | some (.long x) => some (r, L, .long x :: st, h)
    | _ => none
  | .dload k => match L[k]? with
    | some (.double x) => some (r, L, .double x :: st, h)
    | _ => none
  | .fload k => match L[k]? with
    | some (.float x) => some (r, L, .float x :: st, h)
    | _ => none
  | .aload k => match L[k]? with
    | some (.ref x) => some (r, L, .ref x :: st, h)
    | _ => none
  | .istore k => match st with
    | .int x :: st => (zSetL L k (.int x)).map (fun L2 => (r, L2, st, h))
    | _ => none
  | .astore k => match st with
    | .ref x :: st => (zSetL L k (.ref x)).map (fun L2 => (r, L2, st, h))
    | _ => none
  | .lstore k => match st with
    | .long x :: st => (zSetL2 L k (.long x)).map (fun L2 => (r, L2, st, h))
    | _ => none
  | .dstore k => match st with
    | .double x :: st => (zSetL2 L k (.double x)).map (fun L2 => (r, L2, st, h))
    | _ => none
  | .iinc k n => match L[k]? with
    | some (.int x) => (zSetL L k (.int (x + Int32.ofInt n))).map (fun L2 => (r, L2, st, h))
    | _ => none
  | .iconst n => some (r, L, .int (Int32.ofInt n) :: st, h)
  | .jsr_w n => some (r, L, .long (Int64.ofInt n) :: st, h)
  | .jsr n => some (r, L, .double (UInt64.ofNat n.toNat) :: st, h)
  | .iadd => match st with
    | .int y :: .int x :: st => some (r, L, .int (x + y) :: st, h)
    | _ => none
  | .isub => match st with
    | .int y :: .int x :: st => some (r, L, .int (x - y) :: st, h)
    | _ => none
  | .imul => match st with
    | .int y :: .int x :: st => some (r, L, .int (x * y) :: st, h)
    | _ => none
  | .iand => match st with
    | .int y :: .int x :: st => some (r, L, .int (x &&& y) :: st, h)
    | _ => none
  | .ior => match st with
    | .int y :: .int x :: st => some (r, L, .int (x ||| y) :: st, h)
    | _ => none
  | .ixor => match st with
    | .int y :: .int x :: st => some (r, L, .int (x ^^^ y) :: st, h)
    | _ => none
  | .ishl => match st with
    | .int y :: .int x :: st => some (r, L, .int (x <<< (y &&& 31)) :: st, h)
    | _ => none
  | .ishr => match st with
    | .int y :: .int x :: st => some (r, L, .int (x >>> (y &&& 31)) :: st, h)
    | _ => none
  | .iushr => match st with
    | .int y :: .int x :: st => some (r, L, .int ((x.toUInt32 >>> (y.toUInt32 &&& Int32.toUInt32 31)).toInt32) :: st, h)
    | _ => none
  | .idiv => match st with
    | .int y :: .int x :: st => if y ≠ 0 then some (r, L, .int (x / y) :: st, h) else none
    | _ => none
  | .ladd => match st with
    | .long y :: .long x :: st => some (r, L, .long (x + y) :: st, h)
    | _ => none
  | .lmul => match st with
    | .long y :: .long x :: st => some (r, L, .long (x * y) :: st, h)
    | _ => none
  | .land => match st with
    | .long y :: .long x :: st => some (r, L, .long (x &&& y) :: st, h)
    | _ => none
  | .lor => match st with
    | .long y :: .long x :: st => some (r, L, .long (x ||| y) :: st, h)
    | _ => none
  | .lushr => match st with
    | .int y :: .long x :: st => some (r, L, .long ((x.toUInt64 >>> (y.toInt64.toUInt64 &&& Int64.toUInt64 63)).toInt64) :: st, h)
    | _ => none
  | .lcmp => match st with
    | .long y :: .long x :: st => some (r, L, .int (lg_cmp x y) :: st, h)
    | _ => none
  | .dadd => match st with
    | .double y :: .double x :: st => if FP.dIsNaN (FP.dadd x y) = false then some (r, L, .double (FP.dadd x y) :: st, h) else none
    | _ => none
  | .dsub => match st with
    | .double y :: .double x :: st => if FP.dIsNaN (FP.dsub x y) = false then some (r, L, .double (FP.dsub x y) :: st, h) else none
    | _ => none
  | .dmul => match st with
    | .double y :: .double x :: st => if FP.dIsNaN (FP.dmul x y) = false then some (r, L, .double (FP.dmul x y) :: st, h) else none
    | _ => none
  | .ddiv => match st with
    | .double y :: .double x :: st => if FP.dIsNaN (FP.ddiv x y) = false then some (r, L, .double (FP.ddiv x y) :: st, h) else none
    | _ => none
  | .dcmp op => match st with
    | .double y :: .double x :: st => some (r, L, .int (Op.cmpValue (FP.dcmp x y) op) :: st, h)
    | _ => none
  | .fcmp op => match st with
    | .float y :: .float x :: st => some (r, L, .int (Op.cmpValue (FP.fcmp x y) op) :: st, h)
    | _ => none
  | .i2l => match st with
    | .int x :: st => some (r, L, .long (x.toInt64) :: st, h)
    | _ => none
  | .i2d => match st with
    | .int x :: st => some (r, L, .double (FP.i2d x) :: st, h)
    | _ => none
  | .d2i => match st with
    | .double x :: st => some (r, L, .int (FP.d2i x) :: st, h)
    | _ => none
  | .d2f => match st with
    | .double x :: st => if FP.fIsNaN (FP.d2f x) = false then some (r, L, .float (FP.d2f x) :: st, h) else none
    | _ => none
  | .f2d => match st with
    | .float x :: st => if FP.dIsNaN (FP.f2d x) = false then some (r, L, .double (FP.f2d x) :: st, h) else none
    | _ => none
  | .f2i => match st with
    | .float x :: st => some (r, L, .int x.toInt32 :: st, h)
    | _ => none
  | .dup => match st with
    | v :: st => if v.category = 1 then some (r, L, v :: v :: st, h) else none
    | _ => none
  | .dup2 => match st with
    | v :: w :: st => if v.category = 1 ∧ w.category = 1 then some (r, L, v :: w :: v :: w :: st, h) else none
    | _ => none
  | .pop => match st with
    | v :: st => if v.category = 1 then some (r, L, st, h) else none
    | _ => none
  | .goto l => some (zB m l, L, st, h)
  | .goto_w l => some (zB m l, L, st, h)
  | .ifCond .eq l => match st with
    | .int x :: st => if x = 0 then some (zB m l, L, st, h) else some (r, L, st, h)
    | _ => none
  | .ifCond .ne l => match st with
    | .int x :: st => if ¬ x = 0 then some (zB m l, L, st, h) else some (r, L, st, h)
    | _ => none
  | .ifCond .lt l => match st with
    | .int x :: st => if x < 0 then some (zB m l, L, st, h) else some (r, L, st, h)
    | _ => none
  | .ifCond .ge l => match st with
    | .int x :: st => if 0 ≤ x then some (zB m l, L, st, h) else some (r, L, st, h)
    | _ => none
  | .ifCond .gt l => match st with
    | .int x :: st => if 0 < x then some (zB m l, L, st, h) else some (r, L, st, h)
    | _ => none
  | .ifCond .le l => match st with
    | .int x :: st => if x ≤ 0 then some (zB m l, L, st, h) else some (r, L, st, h)
    | _ => none
  | .if_icmp .eq l => match st with
    | .int y :: .int x :: st => if x = y then some (zB m l, L, st, h) else some (r, L, st, h)
    | _ => none
  | .if_icmp .ne l => match st with
    | .int y :: .int x :: st => if ¬ x = y then some (zB m l, L, st, h) else some (r, L, st, h)
    | _ => none
  | .if_icmp .lt l => match st with
    | .int y :: .int x :: st => if x < y then some (zB m l, L, st, h) else some (r, L, st, h)
    | _ => none
  | .if_icmp .ge l => match st with
    | .int y :: .int x :: st => if y ≤ x then some (zB m l, L, st, h) else some (r, L, st, h)
    | _ => none
  | .if_icmp .gt l => match st with
    | .int y :: .int x :: st => if y < x then some (zB m l, L, st, h) else some (r, L, st, h)
    | _ => none
  | .if_icmp .le l => match st with
    | .int y :: .int x :: st => if x ≤ y then some (zB m l, L, st, h) else some (r, L, st, h)
    | _ => none
  | .lookupswitch d ps => match st with
    | .int x :: st => some (zB m (zsw ps.toList d x.toInt), L, st, h)
    | _ => none
  | .getfield n => match st with
    | .ref a :: st => if h.1.tg a = n / 64 then some (r, L, h.2 a (n % 64 : Nat) :: st, h) else none
    | _ => none
  | .putfield n => match st with
    | v :: .ref a :: st => if h.1.tg a = n / 64 ∧ zFit (zTy n) v = true then some (r, L, st, (h.1, zput h.2 a (n % 64 : Nat) v)) else none
    | _ => none
  | .getstatic n => some (r, L, .ref n :: st, h)
  | .new t => some (r, L, .ref h.1.sz :: st, zHnew h t 0 (zNf t) (zDf t))
  | .newarray t => match st with
    | .int n :: st => if 0 ≤ n.toInt ∧ n.toInt ≤ 1000000 then some (r, L, .ref h.1.sz :: st, zHnew h (zAt t) n.toInt n.toInt.toNat (fun _ => zAd t)) else none
    | _ => none
  | .anewarray _ => match st with
    | .int n :: st => if 0 ≤ n.toInt ∧ n.toInt ≤ 1000000 then some (r, L, .ref h.1.sz :: st, zHnew h 26 n.toInt n.toInt.toNat (fun _ => .null)) else none
    | _ => none
  | .multianewarray t _ => match st with
    | .int k :: .int n :: st => if 0 ≤ n.toInt ∧ n.toInt ≤ 1000000 ∧ 0 ≤ k.toInt ∧ k.toInt ≤ 1000000 then
        some (r, L, .ref h.1.sz :: st, zHnews (zHnew h (24 + t) n.toInt n.toInt.toNat (fun j => .ref (h.1.sz + 1 + j.toNat))) (20 + t) k.toInt (if t = 0 then .int 0 else .long 0) n.toInt.toNat) else none
    | _ => none
  | .arraylength => match st with
    | .ref a :: st => if 20 ≤ h.1.tg a ∧ h.1.tg a ≤ 32 ∧ h.1.ln a ≤ 1000000 then some (r, L, .int (Int32.ofInt (h.1.ln a)) :: st, h) else none
    | _ => none
  | .iaload => match st with
    | .int j :: .ref a :: st => if (h.1.tg a = 20 ∨ h.1.tg a = 30 ∨ h.1.tg a = 32) ∧ 0 ≤ j.toInt ∧ j.toInt < h.1.ln a then some (r, L, h.2 a j.toInt :: st, h) else none
    | _ => none
  | .laload => match st with
    | .int j :: .ref a :: st => if (h.1.tg a = 21 ∨ h.1.tg a = 31) ∧ 0 ≤ j.toInt ∧ j.toInt < h.1.ln a then some (r, L, h.2 a j.toInt :: st, h) else none
    | _ => none
  | .daload => match st with
    | .int j :: .ref a :: st => if h.1.tg a = 22 ∧ 0 ≤ j.toInt ∧ j.toInt < h.1.ln a then some (r, L, h.2 a j.toInt :: st, h) else none
    | _ => none
  | .baload => match st with
    | .int j :: .ref a :: st => if h.1.tg a = 23 ∧ 0 ≤ j.toInt ∧ j.toInt < h.1.ln a then some (r, L, h.2 a j.toInt :: st, h) else none
    | _ => none
  | .aaload => match st with
    | .int j :: .ref a :: st => if (h.1.tg a = 24 ∨ h.1.tg a = 25 ∨ h.1.tg a = 26) ∧ 0 ≤ j.toInt ∧ j.toInt < h.1.ln a then some (r, L, h.2 a j.toInt :: st, h) else none
    | _ => none
  | .iastore => match st with
    | .int x :: .int j :: .ref a :: st => if h.1.tg a = 20 ∧ 0 ≤ j.toInt ∧ j.toInt < h.1.ln a then some (r, L, st, (h.1, zput h.2 a j.toInt (.int x))) else none
    | _ => none
  | .lastore => match st with
    | .long x :: .int j :: .ref a :: st => if h.1.tg a = 21 ∧ 0 ≤ j.toInt ∧ j.toInt < h.1.ln a then some (r, L, st, (h.1, zput h.2 a j.toInt (.long x))) else none
    | _ => none
  | .dastore => match st with
    | .double x :: .int j :: .ref a :: st => if h.1.tg a = 22 ∧ 0 ≤ j.toInt ∧ j.toInt < h.1.ln a then some (r, L, st, (h.1, zput h.2 a j.toInt (.double x))) else none
    | _ => none
  | .bastore => match st with
    | .int x :: .int j :: .ref a :: st => if h.1.tg a = 23 ∧ 0 ≤ j.toInt ∧ j.toInt < h.1.ln a ∧ (x = 0 ∨ x = 1) then some (r, L, st, (h.1, zput h.2 a j.toInt (.int x))) else none
    | _ => none
  | .aastore => match st with
    | .ref x :: .int j :: .ref a :: st => if h.1.tg a = 26 ∧ 0 ≤ j.toInt ∧ j.toInt < h.1.ln a ∧ h.1.tg x = 7 then some (r, L, st, (h.1, zput h.2 a j.toInt (.ref x))) else none
    | _ => none
  | .pop2 => match st with
    | .int n :: .int dp :: .ref d :: .int sp :: .ref q :: st =>
      if h.1.tg q = 20 ∧ h.1.tg d = 20 ∧ 0 ≤ n.toInt ∧ 0 ≤ sp.toInt ∧ 0 ≤ dp.toInt ∧ sp.toInt + n.toInt ≤ h.1.ln q ∧ dp.toInt + n.toInt ≤ h.1.ln d then
        some (r, L, st, (h.1, zrow h.2 d (fun j => if dp.toInt ≤ j ∧ j < dp.toInt + n.toInt then h.2 q (sp.toInt + (j - dp.toInt)) else h.2 d j))) else none
    | _ => none
  | _ => none

/-- behind a call: it goes on with the answer, or at the handler, or is left -/
def zK (m : Nat) (Q : zO → zH → Prop) (X : List Instr → List Value → List Value → zH → Prop) (r : List Instr) (L st : List Value) (o : zO) (h : zH) : Prop := match o with
  | .inl none => X r L st h
  | .inl (some v) => X r L (v :: st) h
  | .inr k => match zE m k with
    | none => Q (.inr k) h
    | some l => match zB m l with
      | .astore j :: r2 => X r2 (L.set j zJ) [] h
      | _ => False
/-- methods that are chosen by the receiver: 0 ask, 1 noteFailure, 2 noteMissing -/
def zDisp (k t : Nat) : Option Nat := (zDispT.find? (fun q => q.1 == k && q.2.1 == t)).map (fun q => q.2.2)
def zDn (k : Nat) : Nat := [6, 5, 1].getD k 0
def zF (C : Nat → List Value → zH → (zO → zH → Prop) → Prop) (m : Nat) (Q : zO → zH → Prop) (X : List Instr → List Value → List Value → zH → Prop) (c : List Instr) (L st : List Value) (h : zH) : Prop := match c with
  | [] => False
  | i :: r => match i with
    | .invokeinterface y n => n ≤ st.length ∧ st.length ≤ n + 4 ∧ C y (st.take n).reverse h (zK m Q X r L (st.drop n))
    | .invokevirtual k => zDn k ≤ st.length ∧ st.length ≤ zDn k + 4 ∧ ∃ a y, (st.take (zDn k)).reverse.head? = some (.ref a) ∧ zDisp k (h.1.tg a) = some y ∧ C y (st.take (zDn k)).reverse h (zK m Q X r L (st.drop (zDn k)))
    | .return_ => zRk m = 0 ∧ st = [] ∧ Q (.inl none) h
    | .ireturn => ∃ x, st = [.int x] ∧ (zRk m = 1 ∨ (zRk m = 2 ∧ (x = 0 ∨ x = 1))) ∧ Q (.inl (some (.int x))) h
    | .lreturn => zRk m = 3 ∧ ∃ x, st = [.long x] ∧ Q (.inl (some (.long x))) h
    | .dreturn => zRk m = 4 ∧ ∃ x, st = [.double x] ∧ Q (.inl (some (.double x))) h
    | i => match zstep m i r L st h with
      | some q => X q.1 q.2.1 q.2.2.1 q.2.2.2
      | none => False
def zMono (C : Nat → List Value → zH → (zO → zH → Prop) → Prop) : Prop := ∀ (y : Nat) (as : List Value) (h : zH) (K K' : zO → zH → Prop), (∀ o h', K o h' → K' o h') → C y as h K → C y as h K'
def zwp (C : Nat → List Value → zH → (zO → zH → Prop) → Prop) (m : Nat) (Q : zO → zH → Prop) (c : List Instr) (L st : List Value) (h : zH) : Prop :=
  ∀ X : List Instr → List Value → List Value → zH → Prop, (∀ c L st h, zF C m Q X c L st h → X c L st h) → X c L st h
theorem zK_mono {m : Nat} {Q Q' : zO → zH → Prop} {X Y : List Instr → List Value → List Value → zH → Prop} {r : List Instr} {L st : List Value} (hQ : ∀ o h, Q o h → Q' o h) (hX : ∀ c L st h, X c L st h → Y c L st h) (o : zO) (h : zH) (hk : zK m Q X r L st o h) : zK m Q' Y r L st o h := by
  match o with
  | .inl none => exact hX _ _ _ _ hk
  | .inl (some v) => exact hX _ _ _ _ hk
  | .inr k =>
    unfold zK at hk ⊢
    dsimp only at hk ⊢
    split at hk
    · exact hQ _ _ hk
    · split at hk
      · exact hX _ _ _ _ hk
      · exact hk
theorem zF_mono {C : Nat → List Value → zH → (zO → zH → Prop) → Prop} (hC : zMono C) {m : Nat} {Q Q' : zO → zH → Prop} {X Y : List Instr → List Value → List Value → zH → Prop} (hQ : ∀ o h, Q o h → Q' o h) (hX : ∀ c L st h, X c L st h → Y c L st h) (c : List Instr) (L st : List Value) (h : zH) (hf : zF C m Q X c L st h) : zF C m Q' Y c L st h := by
  unfold zF at hf ⊢
  split at hf
  · exact hf
  · split at hf
    · exact ⟨hf.1, hf.2.1, hC _ _ _ _ _ (zK_mono hQ hX) hf.2.2⟩
    · obtain ⟨h1, h2, a, y, h3, h4, h5⟩ := hf
      exact ⟨h1, h2, a, y, h3, h4, hC _ _ _ _ _ (zK_mono hQ hX) h5⟩
    · exact ⟨hf.1, hf.2.1, hQ _ _ hf.2.2⟩
    · obtain ⟨x, h1, h2, h3⟩ := hf
      exact ⟨x, h1, h2, hQ _ _ h3⟩
    · obtain ⟨h1, x, h2, h3⟩ := hf
      exact ⟨h1, x, h2, hQ _ _ h3⟩
    · obtain ⟨h1, x, h2, h3⟩ := hf
      exact ⟨h1, x, h2, hQ _ _ h3⟩
    · split at hf
      · exact hX _ _ _ _ hf
      · exact hf
theorem zwp_in {C : Nat → List Value → zH → (zO → zH → Prop) → Prop} (hC : zMono C) {m : Nat} {Q : zO → zH → Prop} {c : List Instr} {L st : List Value} {h : zH} (hf : zF C m Q (zwp C m Q) c L st h) : zwp C m Q c L st h := by
  intro X hX
  exact hX _ _ _ _ (zF_mono hC (fun _ _ q => q) (fun c L st h q => q X hX) c L st h hf)
theorem zwp_out {C : Nat → List Value → zH → (zO → zH → Prop) → Prop} (hC : zMono C) {m : Nat} {Q : zO → zH → Prop} {c : List Instr} {L st : List Value} {h : zH} (hw : zwp C m Q c L st h) : zF C m Q (zwp C m Q) c L st h :=
  hw (zF C m Q (zwp C m Q)) (fun c L st h hf => zF_mono hC (fun _ _ q => q) (fun _ _ _ _ q => zwp_in hC q) c L st h hf)
theorem zwp_eq {C : Nat → List Value → zH → (zO → zH → Prop) → Prop} (hC : zMono C) {m : Nat} {Q : zO → zH → Prop} {c : List Instr} {L st : List Value} {h : zH} : zwp C m Q c L st h = zF C m Q (zwp C m Q) c L st h := propext ⟨zwp_out hC, zwp_in hC⟩
theorem zwp_mono {C : Nat → List Value → zH → (zO → zH → Prop) → Prop} (hC : zMono C) {m : Nat} {Q Q' : zO → zH → Prop} (hQ : ∀ o h, Q o h → Q' o h) {c : List Instr} {L st : List Value} {h : zH} (hw : zwp C m Q c L st h) : zwp C m Q' c L st h :=
  hw (zwp C m Q') (fun c L st h hf => zwp_in hC (zF_mono hC hQ (fun _ _ _ _ q => q) c L st h hf))
/-- refuse(why) -/
def zRefuse (as : List Value) (h : zH) (Q : zO → zH → Prop) : Prop := match as with
  | [.int x] => if x = 1 then Q (.inr 1) (zHnew h 11 0 6 (fun _ => .null)) else if x = 2 then Q (.inr 2) (zHnew h 12 0 6 (fun _ => .null)) else if x = 3 then Q (.inr 3) (zHnew h 13 0 6 (fun _ => .null)) else Q (.inl none) h
  | _ => False
def zcall : Nat → Nat → List Value → zH → (zO → zH → Prop) → Prop
  | 0 => fun _ _ _ _ => False
  | d + 1 => fun m as h Q => if m = zRef then zRefuse as h Q else if as.length = zNa m then zwp (zcall d) m Q (zB m 0) (as ++ List.replicate (zMl m - as.length) zJ) [] h else False
theorem zcall_mono : ∀ d, zMono (zcall d)
  | 0 => fun _ _ _ _ _ _ h => h.elim
  | d + 1 => by
    intro y as h K K' hK hc
    unfold zcall at hc ⊢
    split at hc
    · rename_i e
      rw [if_pos e]
      unfold zRefuse at hc ⊢
      split at hc
      · split at hc
        · rename_i e1
          rw [if_pos e1]
          exact hK _ _ hc
        · rename_i e1
          rw [if_neg e1]
          split at hc
          · rename_i e2
            rw [if_pos e2]
            exact hK _ _ hc
          · rename_i e2
            rw [if_neg e2]
            split at hc
            · rename_i e3
              rw [if_pos e3]
              exact hK _ _ hc
            · rename_i e3
              rw [if_neg e3]
              exact hK _ _ hc
      · exact hc
    · rename_i e
      rw [if_neg e]
      split at hc
      · rename_i e1
        rw [if_pos e1]
        exact zwp_mono (zcall_mono d) hK hc
      · exact hc.elim
theorem zw {d m : Nat} {Q : zO → zH → Prop} {c : List Instr} {L st : List Value} {h : zH} : zwp (zcall d) m Q c L st h = zF (zcall d) m Q (zwp (zcall d) m Q) c L st h := zwp_eq (zcall_mono d)
end
section
/-! rows of blocks, of entries; written by wip/whole/gen_code.py -/
theorem zb_0_0 : zB 0 0 = [.aload 0, .invokeinterface 57 1, .aload 0, .iconst 0, .newarray .int, .putfield 0, .return_] := rfl
theorem zb_1_0 : zB 1 0 = [.aload 1, .iload 2, .invokeinterface 91 2, .ifCond .ne 1, .iconst (-1), .ireturn] := rfl
theorem zb_1_1 : zB 1 1 = [.aload 0, .getfield 0, .arraylength, .ifCond .ne 2, .aload 0, .iconst 6012, .newarray .int, .putfield 0, .goto_w 2] := rfl
theorem zb_1_2 : zB 1 2 = [.aload 1, .iload 2, .invokeinterface 87 2, .istore 3, .iconst 0, .istore 4, .goto_w 3] := rfl
theorem zb_1_3 : zB 1 3 = [.iload 4, .iconst 1000, .if_icmp .gt 6, .aload 0, .aload 1, .iload 2, .iconst 0, .iload 4, .iconst 1, .invokeinterface 62 6, .invokeinterface 60 1, .ifCond .eq 4, .iload 4, .ireturn] := rfl
theorem zb_1_4 : zB 1 4 = [.iload 4, .iconst 500, .if_icmp .gt 5, .aload 0, .aload 1, .iload 3, .iload 4, .invokeinterface 2 4, .goto_w 5] := rfl
theorem zb_1_5 : zB 1 5 = [.iinc 4 1, .goto 3] := rfl
theorem zb_1_6 : zB 1 6 = [.iconst (-1), .ireturn] := rfl
theorem zb_2_0 : zB 2 0 = [.iconst 0, .istore 4, .goto_w 1] := rfl
theorem zb_2_1 : zB 2 1 = [.iload 4, .aload 1, .getfield 448, .if_icmp .ge 3, .iload 2, .iload 4, .invokeinterface 158 2, .ifCond .eq 2, .aload 0, .getfield 0, .iload 3, .iconst 12, .imul, .iload 4, .iadd, .aload 0, .aload 1, .iload 4, .iconst 0, .iload 3, .iconst 1, .invokeinterface 62 6, .iastore, .goto_w 2] := rfl
theorem zb_2_2 : zB 2 2 = [.iinc 4 1, .goto 1] := rfl
theorem zb_2_3 : zB 2 3 = [.return_] := rfl
theorem zb_3_0 : zB 3 0 = [.aload 0, .getfield 0, .iload 4, .iconst 12, .imul, .aload 1, .getfield 451, .iconst 1, .aaload, .iload 2, .iaload, .iadd, .iaload, .ireturn] := rfl
theorem zb_4_0 : zB 4 0 = [.return_] := rfl
theorem zb_5_0 : zB 5 0 = [.return_] := rfl
theorem zb_6_0 : zB 6 0 = [.aload 0, .pop, .aload 0, .iconst 12, .iconst 64, .multianewarray 1 2, .putfield 64, .aload 0, .iconst 64, .newarray .long, .putfield 65, .aload 0, .iconst 0, .newarray .double, .putfield 66, .return_] := rfl
theorem zb_7_0 : zB 7 0 = [.iconst 1, .iconst 1, .aload 1, .getfield 448, .ishl, .iconst 6, .ishr, .invokeinterface 300 2, .istore 3, .iconst 0, .istore 4, .goto_w 1] := rfl
theorem zb_7_1 : zB 7 1 = [.iload 4, .aload 2, .invokeinterface 22 1, .if_icmp .ge 7, .aload 2, .iload 4, .invokeinterface 21 2, .istore 5, .iconst 0, .istore 6, .goto_w 2] := rfl
theorem zb_7_2 : zB 7 2 = [.iload 6, .iload 3, .if_icmp .ge 3, .aload 0, .getfield 64, .iload 5, .aaload, .iload 6, .iload 5, .iload 6, .invokeinterface 8 2, .lastore, .iinc 6 1, .goto 2] := rfl
theorem zb_7_3 : zB 7 3 = [.iconst 0, .istore 6, .goto_w 4] := rfl
theorem zb_7_4 : zB 7 4 = [.iload 6, .aload 1, .getfield 449, .if_icmp .ge 6, .aload 1, .iload 6, .iload 5, .invokeinterface 84 3, .ifCond .eq 5, .aload 1, .iload 6, .invokeinterface 86 2, .ifCond .eq 5, .aload 0, .aload 1, .iload 6, .iload 3, .invokeinterface 9 4, .goto_w 5] := rfl
theorem zb_7_5 : zB 7 5 = [.iinc 6 1, .goto 4] := rfl
theorem zb_7_6 : zB 7 6 = [.iinc 4 1, .goto 1] := rfl
theorem zb_7_7 : zB 7 7 = [.return_] := rfl
theorem zb_8_0 : zB 8 0 = [.iload 0, .iconst 6, .if_icmp .ge 1, .getstatic 3, .iload 0, .laload, .lreturn] := rfl
theorem zb_8_1 : zB 8 1 = [.iload 1, .iload 0, .iconst 6, .isub, .invokeinterface 158 2, .ifCond .eq 2, .jsr_w (-1), .goto 3] := rfl
theorem zb_8_2 : zB 8 2 = [.jsr_w 0, .goto_w 3] := rfl
theorem zb_8_3 : zB 8 3 = [.lreturn] := rfl
theorem zb_9_0 : zB 9 0 = [.iconst 0, .istore 4, .goto_w 1] := rfl
theorem zb_9_1 : zB 9 1 = [.iload 4, .iload 3, .if_icmp .ge 2, .aload 0, .getfield 65, .iload 4, .jsr_w (-1), .lastore, .iinc 4 1, .goto 1] := rfl
theorem zb_9_2 : zB 9 2 = [.iload 2, .istore 4, .goto_w 3] := rfl
theorem zb_9_3 : zB 9 3 = [.iload 4, .aload 1, .getfield 449, .if_icmp .ge 6, .aload 1, .iload 4, .iload 2, .invokeinterface 85 3, .ifCond .eq 5, .aload 0, .getfield 64, .aload 1, .getfield 451, .iconst 1, .aaload, .iload 4, .iaload, .aaload, .astore 5, .iconst 0, .istore 6, .goto_w 4] := rfl
theorem zb_9_4 : zB 9 4 = [.iload 6, .iload 3, .if_icmp .ge 5, .aload 0, .getfield 65, .iload 6, .dup2, .laload, .aload 5, .iload 6, .laload, .land, .lastore, .iinc 6 1, .goto 4] := rfl
theorem zb_9_5 : zB 9 5 = [.iinc 4 1, .goto 3] := rfl
theorem zb_9_6 : zB 9 6 = [.aload 0, .getfield 64, .aload 1, .getfield 451, .iconst 0, .aaload, .iload 2, .iaload, .aaload, .astore 4, .iconst 0, .istore 5, .goto_w 7] := rfl
theorem zb_9_7 : zB 9 7 = [.iload 5, .iload 3, .if_icmp .ge 8, .aload 4, .iload 5, .dup2, .laload, .aload 0, .getfield 65, .iload 5, .laload, .lor, .lastore, .iinc 5 1, .goto 7] := rfl
theorem zb_9_8 : zB 9 8 = [.return_] := rfl
theorem zb_10_0 : zB 10 0 = [.aload 0, .getfield 64, .iload 1, .aaload, .iload 2, .iconst 6, .ishr, .laload, .iload 2, .iconst 63, .iand, .lushr, .jsr_w 1, .land, .jsr_w 0, .lcmp, .ifCond .eq 1, .iconst 1, .goto 2] := rfl
theorem zb_10_1 : zB 10 1 = [.iconst 0, .goto_w 2] := rfl
theorem zb_10_2 : zB 10 2 = [.ireturn] := rfl
theorem zb_11_0 : zB 11 0 = [.aload 0, .iload 2, .iload 3, .invokeinterface 10 3, .ifCond .ne 1, .iconst 0, .ireturn] := rfl
theorem zb_11_1 : zB 11 1 = [.iconst 0, .istore 4, .goto_w 2] := rfl
theorem zb_11_2 : zB 11 2 = [.iload 4, .aload 1, .getfield 448, .if_icmp .ge 4, .iload 3, .iload 4, .invokeinterface 158 2, .ifCond .eq 3, .aload 0, .iload 2, .iload 3, .iconst 1, .iload 4, .ishl, .iconst (-1), .ixor, .iand, .invokeinterface 10 3, .ifCond .eq 3, .iconst 0, .ireturn] := rfl
theorem zb_11_3 : zB 11 3 = [.iinc 4 1, .goto 2] := rfl
theorem zb_11_4 : zB 11 4 = [.iconst 1, .ireturn] := rfl
theorem zb_12_0 : zB 12 0 = [.iconst 0, .istore 4, .iconst 0, .istore 5, .goto_w 1] := rfl
theorem zb_12_1 : zB 12 1 = [.iload 5, .iconst 1, .aload 1, .getfield 448, .ishl, .if_icmp .ge 3, .iload 5, .invokeinterface 302 1, .iload 3, .if_icmp .ne 2, .aload 0, .aload 1, .iload 2, .iload 5, .invokeinterface 11 4, .ifCond .eq 2, .iinc 4 1, .goto_w 2] := rfl
theorem zb_12_2 : zB 12 2 = [.iinc 5 1, .goto 1] := rfl
theorem zb_12_3 : zB 12 3 = [.iload 4, .ireturn] := rfl
theorem zb_13_0 : zB 13 0 = [.iconst 0, .istore 5, .iconst 0, .istore 6, .goto_w 1] := rfl
theorem zb_13_1 : zB 13 1 = [.iload 6, .iconst 1, .aload 1, .getfield 448, .ishl, .if_icmp .ge 4, .iload 6, .invokeinterface 302 1, .iload 3, .if_icmp .ne 3, .aload 0, .aload 1, .iload 2, .iload 6, .invokeinterface 11 4, .ifCond .eq 3, .iload 5, .iload 4, .if_icmp .ne 2, .iload 6, .ireturn] := rfl
theorem zb_13_2 : zB 13 2 = [.iinc 5 1, .goto_w 3] := rfl
theorem zb_13_3 : zB 13 3 = [.iinc 6 1, .goto 1] := rfl
theorem zb_13_4 : zB 13 4 = [.iconst (-1), .ireturn] := rfl
theorem zb_14_0 : zB 14 0 = [.aload 0, .aload 1, .iload 3, .invokeinterface 15 3, .jsr 0, .dstore 4, .iconst 0, .istore 6, .goto_w 1] := rfl
theorem zb_14_1 : zB 14 1 = [.iload 6, .iconst 1, .aload 1, .getfield 448, .ishl, .if_icmp .ge 3, .aload 0, .iload 2, .iload 6, .invokeinterface 10 3, .ifCond .ne 2, .dload 4, .aload 0, .getfield 66, .iload 6, .daload, .dadd, .dstore 4, .goto_w 2] := rfl
theorem zb_14_2 : zB 14 2 = [.iinc 6 1, .goto 1] := rfl
theorem zb_14_3 : zB 14 3 = [.dload 4, .dreturn] := rfl
theorem zb_15_0 : zB 15 0 = [.aload 0, .getfield 66, .arraylength, .ifCond .ne 1, .aload 0, .iconst 4096, .newarray .double, .putfield 66, .goto_w 1] := rfl
theorem zb_15_1 : zB 15 1 = [.aload 0, .getfield 66, .iconst 0, .jsr 4607182418800017408, .dastore, .iconst 0, .istore 3, .goto_w 2] := rfl
theorem zb_15_2 : zB 15 2 = [.iload 3, .aload 1, .getfield 448, .if_icmp .ge 7, .iload 3, .iload 2, .if_icmp .ne 3, .iconst 1000, .goto 4] := rfl
theorem zb_15_3 : zB 15 3 = [.aload 1, .getfield 450, .iconst 5, .aaload, .iload 3, .iaload, .goto_w 4] := rfl
theorem zb_15_4 : zB 15 4 = [.istore 4, .iload 4, .i2d, .jsr 4652007308841189376, .ddiv, .dstore 5, .iconst 1000, .iload 4, .isub, .i2d, .jsr 4652007308841189376, .ddiv, .dstore 7, .iconst 1, .iload 3, .ishl, .istore 9, .iconst 0, .istore 10, .goto_w 5] := rfl
theorem zb_15_5 : zB 15 5 = [.iload 10, .iload 9, .if_icmp .ge 6, .aload 0, .getfield 66, .iload 9, .iload 10, .iadd, .aload 0, .getfield 66, .iload 10, .daload, .dload 7, .dmul, .dastore, .aload 0, .getfield 66, .iload 10, .aload 0, .getfield 66, .iload 10, .daload, .dload 5, .dmul, .dastore, .iinc 10 1, .goto 5] := rfl
theorem zb_15_6 : zB 15 6 = [.iinc 3 1, .goto 2] := rfl
theorem zb_15_7 : zB 15 7 = [.return_] := rfl
theorem zb_16_0 : zB 16 0 = [.iconst 0, .istore 3, .aload 0, .aload 1, .iload 2, .iconst 0, .invokeinterface 14 4, .dstore 4, .iconst 1, .istore 6, .goto_w 1] := rfl
theorem zb_16_1 : zB 16 1 = [.iload 6, .aload 1, .getfield 448, .if_icmp .ge 3, .aload 0, .aload 1, .iload 2, .iload 6, .invokeinterface 14 4, .dstore 7, .dload 7, .dload 4, .dcmp .l, .ifCond .le 2, .iload 6, .istore 3, .dload 7, .dstore 4, .goto_w 2] := rfl
theorem zb_16_2 : zB 16 2 = [.iinc 6 1, .goto 1] := rfl
theorem zb_16_3 : zB 16 3 = [.iload 3, .ireturn] := rfl
theorem zb_17_0 : zB 17 0 = [.aload 0, .pop, .aload 0, .iconst 12, .newarray .int, .putfield 128, .aload 0, .iconst 12, .newarray .int, .putfield 129, .aload 0, .iconst 0, .putfield 130, .aload 0, .iconst 12, .newarray .int, .putfield 131, .aload 0, .iconst 12, .newarray .int, .putfield 132, .return_] := rfl
theorem zb_18_0 : zB 18 0 = [.aload 0, .aload 1, .invokeinterface 19 2, .aload 0, .iconst 0, .putfield 130, .iconst 0, .istore 2, .iconst 0, .istore 3, .goto_w 1] := rfl
theorem zb_18_1 : zB 18 1 = [.iload 3, .aload 1, .getfield 448, .if_icmp .ge 3, .aload 0, .aload 1, .iload 2, .invokeinterface 20 3, .istore 4, .iload 4, .iconst (-1), .if_icmp .ne 2, .return_] := rfl
theorem zb_18_2 : zB 18 2 = [.aload 0, .getfield 129, .iload 3, .iload 4, .iastore, .iload 2, .iconst 1, .iload 4, .ishl, .ior, .istore 2, .aload 0, .dup, .getfield 130, .iconst 1, .iadd, .putfield 130, .iinc 3 1, .goto 1] := rfl
theorem zb_18_3 : zB 18 3 = [.return_] := rfl
theorem zb_19_0 : zB 19 0 = [.iconst 0, .istore 2, .goto_w 1] := rfl
theorem zb_19_1 : zB 19 1 = [.iload 2, .aload 1, .getfield 448, .if_icmp .ge 2, .aload 0, .getfield 128, .iload 2, .iconst 0, .iastore, .iinc 2 1, .goto 1] := rfl
theorem zb_19_2 : zB 19 2 = [.iconst 0, .istore 2, .goto_w 3] := rfl
theorem zb_19_3 : zB 19 3 = [.iload 2, .aload 1, .getfield 449, .if_icmp .ge 4, .aload 0, .getfield 128, .aload 1, .getfield 451, .iconst 0, .aaload, .iload 2, .iaload, .dup2, .iaload, .iconst 1, .aload 1, .getfield 451, .iconst 1, .aaload, .iload 2, .iaload, .ishl, .ior, .iastore, .iinc 2 1, .goto 3] := rfl
theorem zb_19_4 : zB 19 4 = [.return_] := rfl
theorem zb_20_0 : zB 20 0 = [.iconst 0, .istore 3, .goto_w 1] := rfl
theorem zb_20_1 : zB 20 1 = [.iload 3, .aload 1, .getfield 448, .if_icmp .ge 3, .iload 2, .iload 3, .invokeinterface 158 2, .ifCond .ne 2, .aload 0, .getfield 128, .iload 3, .iaload, .iload 2, .iconst (-1), .ixor, .iand, .ifCond .ne 2, .iload 3, .ireturn] := rfl
theorem zb_20_2 : zB 20 2 = [.iinc 3 1, .goto 1] := rfl
theorem zb_20_3 : zB 20 3 = [.iconst (-1), .ireturn] := rfl
theorem zb_21_0 : zB 21 0 = [.iload 1, .ifCond .lt 1, .iload 1, .aload 0, .getfield 130, .if_icmp .lt 2, .goto_w 1] := rfl
theorem zb_21_1 : zB 21 1 = [.iconst (-1), .goto 3] := rfl
theorem zb_21_2 : zB 21 2 = [.aload 0, .getfield 129, .iload 1, .iaload, .goto_w 3] := rfl
theorem zb_21_3 : zB 21 3 = [.ireturn] := rfl
theorem zb_22_0 : zB 22 0 = [.aload 0, .getfield 130, .ireturn] := rfl
theorem zb_23_0 : zB 23 0 = [.aload 0, .aload 1, .invokeinterface 18 2, .iconst 0, .istore 2, .goto_w 1] := rfl
theorem zb_23_1 : zB 23 1 = [.iload 2, .aload 0, .getfield 130, .if_icmp .ge 2, .aload 0, .getfield 131, .aload 0, .getfield 129, .iload 2, .iaload, .aload 0, .aload 1, .aload 0, .getfield 129, .iload 2, .iaload, .invokeinterface 24 3, .iastore, .iinc 2 1, .goto 1] := rfl
theorem zb_23_2 : zB 23 2 = [.return_] := rfl
theorem zb_24_0 : zB 24 0 = [.iconst 0, .istore 3, .iconst 0, .istore 4, .goto_w 1] := rfl
theorem zb_24_1 : zB 24 1 = [.iload 4, .aload 1, .getfield 449, .if_icmp .ge 3, .aload 1, .getfield 451, .iconst 0, .aaload, .iload 4, .iaload, .iload 2, .if_icmp .ne 2, .iload 3, .iconst 1, .aload 0, .getfield 131, .aload 1, .getfield 451, .iconst 1, .aaload, .iload 4, .iaload, .iaload, .iadd, .invokeinterface 300 2, .istore 3, .goto_w 2] := rfl
theorem zb_24_2 : zB 24 2 = [.iinc 4 1, .goto 1] := rfl
theorem zb_24_3 : zB 24 3 = [.iload 3, .ireturn] := rfl
theorem zb_25_0 : zB 25 0 = [.aload 0, .aload 1, .invokeinterface 18 2, .iconst 0, .istore 2, .goto_w 1] := rfl
theorem zb_25_1 : zB 25 1 = [.iload 2, .aload 0, .getfield 130, .if_icmp .ge 2, .aload 0, .getfield 132, .aload 0, .getfield 129, .iload 2, .iaload, .aload 0, .aload 1, .aload 0, .getfield 129, .iload 2, .iaload, .invokeinterface 26 3, .iastore, .iinc 2 1, .goto 1] := rfl
theorem zb_25_2 : zB 25 2 = [.return_] := rfl
theorem zb_26_0 : zB 26 0 = [.aload 1, .iload 2, .invokeinterface 81 2, .istore 3, .iconst 0, .istore 4, .goto_w 1] := rfl
theorem zb_26_1 : zB 26 1 = [.iload 4, .aload 1, .getfield 449, .if_icmp .ge 3, .aload 1, .getfield 451, .iconst 0, .aaload, .iload 4, .iaload, .iload 2, .if_icmp .ne 2, .aload 1, .getfield 451, .iconst 2, .aaload, .iload 4, .iaload, .istore 5, .iload 5, .aload 0, .getfield 132, .aload 1, .getfield 451, .iconst 1, .aaload, .iload 4, .iaload, .iaload, .invokeinterface 301 2, .istore 6, .iload 3, .aload 1, .getfield 451, .iconst 3, .aaload, .iload 4, .iaload, .iload 6, .imul, .iadd, .istore 3, .goto_w 2] := rfl
theorem zb_26_2 : zB 26 2 = [.iinc 4 1, .goto 1] := rfl
theorem zb_26_3 : zB 26 3 = [.iload 3, .iconst 100000, .invokeinterface 301 2, .ireturn] := rfl
theorem zb_27_0 : zB 27 0 = [.iconst 0, .istore 2, .iconst 0, .istore 3, .goto_w 1] := rfl
theorem zb_27_1 : zB 27 1 = [.iload 3, .aload 1, .getfield 449, .if_icmp .ge 3, .aload 1, .getfield 451, .iconst 2, .aaload, .iload 3, .iaload, .aload 0, .getfield 132, .aload 1, .getfield 451, .iconst 1, .aaload, .iload 3, .iaload, .iaload, .if_icmp .ge 2, .iinc 2 1, .goto_w 2] := rfl
theorem zb_27_2 : zB 27 2 = [.iinc 3 1, .goto 1] := rfl
theorem zb_27_3 : zB 27 3 = [.iload 2, .ireturn] := rfl
theorem zb_28_0 : zB 28 0 = [.aload 0, .aload 1, .invokeinterface 18 2, .iconst 0, .istore 2, .iconst 0, .istore 3, .goto_w 1] := rfl
theorem zb_28_1 : zB 28 1 = [.iload 3, .aload 0, .getfield 130, .if_icmp .ge 2, .aload 0, .getfield 129, .iload 3, .iaload, .istore 4, .aload 0, .getfield 132, .iload 4, .aload 0, .aload 1, .iload 4, .invokeinterface 26 3, .iastore, .iload 2, .aload 0, .aload 1, .iload 4, .aload 0, .getfield 132, .iload 4, .iaload, .iconst 500, .invokeinterface 301 2, .invokeinterface 29 4, .iadd, .istore 2, .iinc 3 1, .goto 1] := rfl
theorem zb_28_2 : zB 28 2 = [.iload 2, .ireturn] := rfl
theorem zb_29_0 : zB 29 0 = [.iconst 0, .istore 4, .iconst 0, .istore 5, .goto_w 1] := rfl
theorem zb_29_1 : zB 29 1 = [.iload 5, .aload 1, .getfield 449, .if_icmp .ge 3, .aload 1, .getfield 451, .iconst 1, .aaload, .iload 5, .iaload, .iload 2, .if_icmp .ne 2, .aload 1, .iload 5, .iload 3, .invokeinterface 79 3, .iload 3, .if_icmp .eq 2, .iinc 4 1, .goto_w 2] := rfl
theorem zb_29_2 : zB 29 2 = [.iinc 5 1, .goto 1] := rfl
theorem zb_29_3 : zB 29 3 = [.iload 4, .ireturn] := rfl
theorem zb_30_0 : zB 30 0 = [.iload 2, .istore 3, .iconst 0, .istore 4, .goto_w 1] := rfl
theorem zb_30_1 : zB 30 1 = [.iload 4, .aload 0, .getfield 130, .if_icmp .ge 3, .aload 1, .aload 0, .getfield 129, .iload 4, .iaload, .iload 3, .invokeinterface 89 3, .ifCond .eq 2, .iload 3, .iconst 1, .aload 0, .getfield 129, .iload 4, .iaload, .ishl, .ior, .istore 3, .goto_w 2] := rfl
theorem zb_30_2 : zB 30 2 = [.iinc 4 1, .goto 1] := rfl
theorem zb_30_3 : zB 30 3 = [.iload 3, .ireturn] := rfl
theorem zb_31_0 : zB 31 0 = [.aload 0, .pop, .aload 0, .iconst 4, .anewarray 0, .putfield 192, .aload 0, .iconst 0, .putfield 193, .iconst 0, .istore 1, .goto_w 1] := rfl
theorem zb_31_1 : zB 31 1 = [.iload 1, .iconst 4, .if_icmp .ge 2, .aload 0, .getfield 192, .iload 1, .new 7, .dup, .invokeinterface 65 1, .aastore, .iinc 1 1, .goto 1] := rfl
theorem zb_31_2 : zB 31 2 = [.return_] := rfl
theorem zb_32_0 : zB 32 0 = [.aload 0, .getfield 193, .iconst 4, .if_icmp .ne 1, .aload 0, .invokeinterface 33 1, .goto_w 1] := rfl
theorem zb_32_1 : zB 32 1 = [.aload 0, .getfield 192, .aload 0, .getfield 193, .aaload, .aload 1, .invokeinterface 66 2, .aload 0, .dup, .getfield 193, .iconst 1, .iadd, .putfield 193, .return_] := rfl
theorem zb_33_0 : zB 33 0 = [.aload 0, .getfield 192, .iconst 0, .aaload, .astore 1, .iconst 1, .istore 2, .goto_w 1] := rfl
theorem zb_33_1 : zB 33 1 = [.iload 2, .iconst 4, .if_icmp .ge 2, .aload 0, .getfield 192, .iload 2, .iconst 1, .isub, .aload 0, .getfield 192, .iload 2, .aaload, .aastore, .iinc 2 1, .goto 1] := rfl
theorem zb_33_2 : zB 33 2 = [.aload 0, .getfield 192, .iconst 3, .aload 1, .aastore, .aload 0, .dup, .getfield 193, .iconst 1, .isub, .putfield 193, .return_] := rfl
theorem zb_34_0 : zB 34 0 = [.aload 0, .getfield 193, .ifCond .ne 1, .iconst 3, .goto 2] := rfl
theorem zb_34_1 : zB 34 1 = [.iconst 0, .goto_w 2] := rfl
theorem zb_34_2 : zB 34 2 = [.ireturn] := rfl
theorem zb_35_0 : zB 35 0 = [.aload 0, .dup, .getfield 193, .iconst 1, .isub, .putfield 193, .aload 1, .aload 0, .getfield 192, .aload 0, .getfield 193, .aaload, .invokeinterface 66 2, .aload 0, .getfield 193, .ireturn] := rfl
theorem zb_36_0 : zB 36 0 = [.aload 0, .pop, .aload 0, .iconst 12, .newarray .int, .putfield 256, .aload 0, .iconst 12, .newarray .int, .putfield 257, .aload 0, .iconst 12, .newarray .int, .putfield 258, .aload 0, .iconst 0, .newarray .int, .putfield 259, .return_] := rfl
theorem zb_37_0 : zB 37 0 = [.aload 1, .invokeinterface 92 1, .istore 2, .iconst 0, .istore 3, .goto_w 1] := rfl
theorem zb_37_1 : zB 37 1 = [.iload 3, .aload 1, .getfield 448, .if_icmp .ge 3, .iload 2, .iload 3, .invokeinterface 158 2, .ifCond .eq 2, .aload 0, .getfield 256, .iload 3, .aload 1, .iload 3, .invokeinterface 87 2, .iload 2, .iand, .iastore, .goto_w 2] := rfl
theorem zb_37_2 : zB 37 2 = [.iinc 3 1, .goto 1] := rfl
theorem zb_37_3 : zB 37 3 = [.iload 2, .ireturn] := rfl
theorem zb_38_0 : zB 38 0 = [.aload 0, .aload 1, .invokeinterface 37 2, .istore 3, .iconst 0, .istore 4, .iconst 0, .istore 5, .iconst 0, .istore 6, .iconst 0, .istore 7, .goto_w 1] := rfl
theorem zb_38_1 : zB 38 1 = [.iload 7, .aload 1, .getfield 448, .if_icmp .gt 6, .aload 0, .aload 1, .iload 4, .iload 6, .invokeinterface 39 4, .istore 8, .iload 4, .iload 8, .iconst (-1), .ixor, .iand, .istore 4, .iload 5, .iload 8, .ior, .istore 5, .iload 2, .iload 4, .invokeinterface 302 1, .isub, .istore 9, .goto_w 2] := rfl
theorem zb_38_2 : zB 38 2 = [.iload 9, .ifCond .le 4, .aload 0, .aload 1, .iload 3, .iload 5, .invokeinterface 41 4, .istore 10, .iload 10, .iconst (-1), .if_icmp .ne 3, .goto 4] := rfl
theorem zb_38_3 : zB 38 3 = [.aload 0, .getfield 257, .iload 10, .iload 6, .iastore, .aload 0, .getfield 258, .iload 10, .iload 6, .aload 1, .getfield 450, .iconst 3, .aaload, .iload 10, .iaload, .iadd, .iastore, .iload 3, .iconst 1, .iload 10, .ishl, .iconst (-1), .ixor, .iand, .istore 3, .iload 4, .iconst 1, .iload 10, .ishl, .ior, .istore 4, .iinc 9 (-1), .goto 2] := rfl
theorem zb_38_4 : zB 38 4 = [.iload 4, .ifCond .ne 5, .iload 6, .ireturn] := rfl
theorem zb_38_5 : zB 38 5 = [.aload 0, .aload 1, .iload 4, .invokeinterface 40 3, .istore 6, .iinc 7 1, .goto 1] := rfl
theorem zb_38_6 : zB 38 6 = [.iload 6, .ireturn] := rfl
theorem zb_39_0 : zB 39 0 = [.iconst 0, .istore 4, .iconst 0, .istore 5, .goto_w 1] := rfl
theorem zb_39_1 : zB 39 1 = [.iload 5, .aload 1, .getfield 448, .if_icmp .ge 3, .iload 2, .iload 5, .invokeinterface 158 2, .ifCond .eq 2, .aload 0, .getfield 258, .iload 5, .iaload, .iload 3, .if_icmp .gt 2, .iload 4, .iconst 1, .iload 5, .ishl, .ior, .istore 4, .goto_w 2] := rfl
theorem zb_39_2 : zB 39 2 = [.iinc 5 1, .goto 1] := rfl
theorem zb_39_3 : zB 39 3 = [.iload 4, .ireturn] := rfl
theorem zb_40_0 : zB 40 0 = [.iconst (-1), .istore 3, .iconst 0, .istore 4, .goto_w 1] := rfl
theorem zb_40_1 : zB 40 1 = [.iload 4, .aload 1, .getfield 448, .if_icmp .ge 4, .iload 2, .iload 4, .invokeinterface 158 2, .ifCond .eq 3, .iload 3, .iconst (-1), .if_icmp .eq 2, .aload 0, .getfield 258, .iload 4, .iaload, .iload 3, .if_icmp .ge 3, .goto_w 2] := rfl
theorem zb_40_2 : zB 40 2 = [.aload 0, .getfield 258, .iload 4, .iaload, .istore 3, .goto_w 3] := rfl
theorem zb_40_3 : zB 40 3 = [.iinc 4 1, .goto 1] := rfl
theorem zb_40_4 : zB 40 4 = [.iload 3, .ireturn] := rfl
theorem zb_41_0 : zB 41 0 = [.iconst (-1), .istore 4, .iconst 0, .istore 5, .iconst 0, .istore 6, .goto_w 1] := rfl
theorem zb_41_1 : zB 41 1 = [.iload 6, .aload 1, .getfield 448, .if_icmp .ge 3, .iload 2, .iload 6, .invokeinterface 158 2, .ifCond .eq 2, .aload 0, .getfield 256, .iload 6, .iaload, .iload 3, .iconst (-1), .ixor, .iand, .ifCond .ne 2, .aload 1, .getfield 450, .iconst 4, .aaload, .iload 6, .iaload, .iload 5, .if_icmp .le 2, .iload 6, .istore 4, .aload 1, .getfield 450, .iconst 4, .aaload, .iload 6, .iaload, .istore 5, .goto_w 2] := rfl
theorem zb_41_2 : zB 41 2 = [.iinc 6 1, .goto 1] := rfl
theorem zb_41_3 : zB 41 3 = [.iload 4, .ireturn] := rfl
theorem zb_42_0 : zB 42 0 = [.aload 0, .aload 1, .invokeinterface 37 2, .istore 2, .aload 0, .getfield 259, .arraylength, .ifCond .ne 1, .aload 0, .iconst 4096, .newarray .int, .putfield 259, .goto_w 1] := rfl
theorem zb_42_1 : zB 42 1 = [.aload 0, .getfield 259, .iload 2, .iconst 0, .iastore, .iload 2, .istore 3, .goto_w 2] := rfl
theorem zb_42_2 : zB 42 2 = [.iload 3, .ifCond .le 3, .iload 3, .iconst 1, .isub, .iload 2, .iand, .istore 3, .aload 0, .aload 1, .iload 2, .iload 3, .invokeinterface 43 4, .pop, .goto 2] := rfl
theorem zb_42_3 : zB 42 3 = [.aload 0, .getfield 259, .iconst 0, .iaload, .ireturn] := rfl
theorem zb_43_0 : zB 43 0 = [.aload 1, .iload 3, .invokeinterface 44 2, .istore 4, .iconst (-1), .istore 5, .iconst 0, .istore 6, .iconst 0, .istore 7, .goto_w 1] := rfl
theorem zb_43_1 : zB 43 1 = [.iload 7, .aload 1, .getfield 448, .if_icmp .ge 5, .iload 2, .iload 3, .iconst (-1), .ixor, .iand, .iload 7, .invokeinterface 158 2, .ifCond .eq 4, .aload 0, .getfield 256, .iload 7, .iaload, .iload 3, .iconst (-1), .ixor, .iand, .ifCond .eq 2, .goto 4] := rfl
theorem zb_43_2 : zB 43 2 = [.iload 4, .aload 1, .getfield 450, .iconst 3, .aaload, .iload 7, .iaload, .iadd, .istore 8, .aload 1, .getfield 450, .iconst 4, .aaload, .iload 7, .iaload, .iload 8, .imul, .aload 0, .getfield 259, .iload 3, .iconst 1, .iload 7, .ishl, .ior, .iaload, .iadd, .istore 9, .iload 5, .iconst (-1), .if_icmp .eq 3, .iload 9, .iload 6, .if_icmp .ge 4, .goto_w 3] := rfl
theorem zb_43_3 : zB 43 3 = [.iload 7, .istore 5, .iload 9, .istore 6, .goto_w 4] := rfl
theorem zb_43_4 : zB 43 4 = [.iinc 7 1, .goto 1] := rfl
theorem zb_43_5 : zB 43 5 = [.aload 0, .getfield 259, .iload 3, .iload 6, .iastore, .iload 5, .ireturn] := rfl
theorem zb_44_0 : zB 44 0 = [.iconst 0, .istore 2, .iconst 0, .istore 3, .goto_w 1] := rfl
theorem zb_44_1 : zB 44 1 = [.iload 3, .aload 0, .getfield 448, .if_icmp .ge 3, .iload 1, .iload 3, .invokeinterface 158 2, .ifCond .eq 2, .iload 2, .aload 0, .getfield 450, .iconst 3, .aaload, .iload 3, .iaload, .iadd, .istore 2, .goto_w 2] := rfl
theorem zb_44_2 : zB 44 2 = [.iinc 3 1, .goto 1] := rfl
theorem zb_44_3 : zB 44 3 = [.iload 2, .ireturn] := rfl
theorem zb_45_0 : zB 45 0 = [.aload 1, .invokeinterface 92 1, .istore 3, .iload 2, .ifCond .lt 1, .iload 2, .iload 3, .invokeinterface 302 1, .if_icmp .lt 2, .goto_w 1] := rfl
theorem zb_45_1 : zB 45 1 = [.iconst (-1), .ireturn] := rfl
theorem zb_45_2 : zB 45 2 = [.aload 0, .aload 1, .invokeinterface 42 2, .pop, .iconst 0, .istore 4, .aload 0, .aload 1, .iload 3, .iload 4, .invokeinterface 43 4, .istore 5, .iconst 0, .istore 6, .goto_w 3] := rfl
theorem zb_45_3 : zB 45 3 = [.iload 6, .iload 2, .if_icmp .ge 4, .iload 5, .iconst (-1), .if_icmp .eq 4, .iload 4, .iconst 1, .iload 5, .ishl, .ior, .istore 4, .aload 0, .aload 1, .iload 3, .iload 4, .invokeinterface 43 4, .istore 5, .iinc 6 1, .goto 3] := rfl
theorem zb_45_4 : zB 45 4 = [.iload 5, .ireturn] := rfl
theorem zb_46_0 : zB 46 0 = [.aload 0, .invokeinterface 57 1, .aload 0, .iconst 0, .putfield 320, .aload 0, .iconst 0, .putfield 321, .aload 0, .iconst 0, .putfield 322, .aload 0, .iconst 0, .putfield 323, .aload 0, .iconst (-1), .putfield 324, .aload 0, .iconst (-1), .putfield 325, .aload 0, .iconst 0, .putfield 326, .aload 0, .iconst 0, .putfield 327, .aload 0, .iconst 4, .iconst 60, .multianewarray 0 2, .putfield 328, .aload 0, .iconst 4, .iconst 200, .multianewarray 0 2, .putfield 329, .return_] := rfl
theorem zb_47_0 : zB 47 0 = [.aload 0, .iconst 1, .putfield 320, .aload 0, .iconst 0, .putfield 322, .aload 0, .iconst 1, .putfield 323, .aload 0, .iconst (-1), .putfield 324, .aload 0, .iconst (-1), .putfield 325, .aload 0, .iconst 0, .putfield 326, .aload 0, .iconst 0, .putfield 327, .aload 0, .aload 0, .aload 1, .iload 2, .iconst 0, .iload 3, .iconst 1, .invokeinterface 62 6, .putfield 321, .aload 0, .getfield 321, .invokeinterface 60 1, .ireturn] := rfl
theorem zb_48_0 : zB 48 0 = [.iload 5, .iconst 12, .if_icmp .lt 1, .iconst 0, .invokeinterface 59 1, .ireturn] := rfl
theorem zb_48_1 : zB 48 1 = [.aload 0, .iload 2, .iload 3, .iload 4, .invokeinterface 49 4, .istore 6, .aload 0, .dup, .getfield 323, .iconst 1, .iadd, .putfield 323, .aload 0, .aload 1, .aload 1, .getfield 451, .iconst 1, .aaload, .iload 2, .iaload, .iload 3, .iload 4, .iload 5, .iconst 1, .iadd, .invokeinterface 62 6, .istore 7, .iload 6, .iconst (-1), .if_icmp .eq 2, .iload 7, .invokeinterface 60 1, .ifCond .eq 2, .aload 0, .getfield 329, .iconst 3, .aaload, .iload 6, .iconst 1, .iastore, .goto_w 2] := rfl
theorem zb_48_2 : zB 48 2 = [.iload 7, .ireturn] := rfl
theorem zb_49_0 : zB 49 0 = [.aload 0, .getfield 327, .iconst 200, .if_icmp .lt 1, .iconst (-1), .ireturn] := rfl
theorem zb_49_1 : zB 49 1 = [.aload 0, .getfield 327, .istore 4, .aload 0, .getfield 329, .iconst 0, .aaload, .iload 4, .iload 1, .iastore, .aload 0, .getfield 329, .iconst 1, .aaload, .iload 4, .iload 2, .iastore, .aload 0, .getfield 329, .iconst 2, .aaload, .iload 4, .iload 3, .iastore, .aload 0, .getfield 329, .iconst 3, .aaload, .iload 4, .iconst 0, .iastore, .aload 0, .dup, .getfield 327, .iconst 1, .iadd, .putfield 327, .iload 4, .ireturn] := rfl
theorem zb_50_0 : zB 50 0 = [.aload 0, .getfield 324, .iconst (-1), .if_icmp .ne 1, .aload 0, .iload 1, .putfield 324, .goto_w 1] := rfl
theorem zb_50_1 : zB 50 1 = [.aload 0, .getfield 325, .iconst (-1), .if_icmp .ne 3, .iload 2, .iconst 1, .if_icmp .eq 2, .iload 2, .iconst 2, .if_icmp .ne 3, .goto_w 2] := rfl
theorem zb_50_2 : zB 50 2 = [.aload 0, .iload 1, .putfield 325, .goto_w 3] := rfl
theorem zb_50_3 : zB 50 3 = [.aload 0, .getfield 326, .iconst 60, .if_icmp .ge 4, .aload 0, .getfield 328, .iconst 0, .aaload, .aload 0, .getfield 326, .iload 1, .iastore, .aload 0, .getfield 328, .iconst 1, .aaload, .aload 0, .getfield 326, .iload 2, .iastore, .aload 0, .getfield 328, .iconst 2, .aaload, .aload 0, .getfield 326, .iload 3, .iastore, .aload 0, .getfield 328, .iconst 3, .aaload, .aload 0, .getfield 326, .iload 4, .iastore, .aload 0, .dup, .getfield 326, .iconst 1, .iadd, .putfield 326, .goto_w 4] := rfl
theorem zb_50_4 : zB 50 4 = [.return_] := rfl
theorem zb_51_0 : zB 51 0 = [.aload 0, .dup, .getfield 322, .iconst 1, .iadd, .putfield 322, .return_] := rfl
theorem zb_52_0 : zB 52 0 = [.aload 0, .getfield 320, .ifCond .eq 1, .iconst 0, .goto 2] := rfl
theorem zb_52_1 : zB 52 1 = [.iconst 3, .goto_w 2] := rfl
theorem zb_52_2 : zB 52 2 = [.ireturn] := rfl
theorem zb_53_0 : zB 53 0 = [.iload 1, .lookupswitch 6 #[(0, 1), (1, 2), (2, 3), (3, 4), (4, 5)]] := rfl
theorem zb_53_1 : zB 53 1 = [.aload 0, .getfield 321, .invokeinterface 61 1, .ireturn] := rfl
theorem zb_53_2 : zB 53 2 = [.aload 0, .getfield 322, .ireturn] := rfl
theorem zb_53_3 : zB 53 3 = [.aload 0, .getfield 326, .ireturn] := rfl
theorem zb_53_4 : zB 53 4 = [.aload 0, .getfield 327, .ireturn] := rfl
theorem zb_53_5 : zB 53 5 = [.aload 0, .invokeinterface 54 1, .ireturn] := rfl
theorem zb_53_6 : zB 53 6 = [.aload 0, .getfield 323, .ireturn] := rfl
theorem zb_54_0 : zB 54 0 = [.aload 0, .getfield 321, .invokeinterface 60 1, .ifCond .eq 1, .iconst (-1), .ireturn] := rfl
theorem zb_54_1 : zB 54 1 = [.aload 0, .getfield 325, .iconst (-1), .if_icmp .eq 2, .aload 0, .getfield 325, .goto 3] := rfl
theorem zb_54_2 : zB 54 2 = [.aload 0, .getfield 324, .goto_w 3] := rfl
theorem zb_54_3 : zB 54 3 = [.ireturn] := rfl
theorem zb_55_0 : zB 55 0 = [.iload 1, .ifCond .lt 1, .iload 1, .aload 0, .getfield 326, .if_icmp .lt 2, .goto_w 1] := rfl
theorem zb_55_1 : zB 55 1 = [.iconst (-1), .goto 3] := rfl
theorem zb_55_2 : zB 55 2 = [.aload 0, .getfield 328, .iload 2, .aaload, .iload 1, .iaload, .goto_w 3] := rfl
theorem zb_55_3 : zB 55 3 = [.ireturn] := rfl
theorem zb_56_0 : zB 56 0 = [.iload 1, .ifCond .lt 1, .iload 1, .aload 0, .getfield 327, .if_icmp .lt 2, .goto_w 1] := rfl
theorem zb_56_1 : zB 56 1 = [.iconst (-1), .goto 3] := rfl
theorem zb_56_2 : zB 56 2 = [.aload 0, .getfield 329, .iload 2, .aaload, .iload 1, .iaload, .goto_w 3] := rfl
theorem zb_56_3 : zB 56 3 = [.ireturn] := rfl
theorem zb_57_0 : zB 57 0 = [.aload 0, .pop, .return_] := rfl
theorem zb_58_0 : zB 58 0 = [.iconst 2, .iload 0, .imul, .iconst 1, .iadd, .ireturn] := rfl
theorem zb_59_0 : zB 59 0 = [.iconst 2, .iload 0, .imul, .ireturn] := rfl
theorem zb_60_0 : zB 60 0 = [.iload 0, .iconst 1, .iand, .ifCond .eq 1, .iconst 1, .goto 2] := rfl
theorem zb_60_1 : zB 60 1 = [.iconst 0, .goto_w 2] := rfl
theorem zb_60_2 : zB 60 2 = [.ireturn] := rfl
theorem zb_61_0 : zB 61 0 = [.iload 0, .iconst 1, .ishr, .ireturn] := rfl
theorem zb_62_0 : zB 62 0 = [.aload 1, .iload 2, .invokeinterface 91 2, .ifCond .ne 1, .aload 0, .iload 2, .iconst 1, .iload 3, .iload 4, .invokevirtual 1, .iconst 0, .invokeinterface 59 1, .ireturn] := rfl
theorem zb_62_1 : zB 62 1 = [.aload 1, .iload 2, .invokeinterface 81 2, .istore 6, .iload 6, .iload 4, .if_icmp .le 2, .aload 0, .iload 2, .iconst 2, .iload 3, .iload 4, .iadd, .iload 4, .invokevirtual 1, .iload 4, .invokeinterface 59 1, .ireturn] := rfl
theorem zb_62_2 : zB 62 2 = [.iconst 0, .istore 7, .goto_w 3] := rfl
theorem zb_62_3 : zB 62 3 = [.iload 7, .aload 1, .getfield 449, .if_icmp .ge 7, .aload 1, .iload 7, .iload 2, .invokeinterface 84 3, .ifCond .ne 4, .goto 6] := rfl
theorem zb_62_4 : zB 62 4 = [.aload 0, .aload 1, .iload 7, .iload 3, .iload 4, .iload 6, .iload 5, .invokeinterface 63 7, .istore 8, .iload 8, .invokeinterface 61 1, .istore 6, .iload 8, .invokeinterface 60 1, .ifCond .ne 5, .aload 1, .iload 7, .invokeinterface 86 2, .ifCond .eq 5, .aload 0, .iload 2, .iconst 4, .iload 3, .iload 6, .iadd, .iload 4, .invokevirtual 1, .iload 6, .invokeinterface 59 1, .ireturn] := rfl
theorem zb_62_5 : zB 62 5 = [.iload 8, .invokeinterface 60 1, .ifCond .ne 6, .aload 0, .invokevirtual 2, .goto_w 6] := rfl
theorem zb_62_6 : zB 62 6 = [.iinc 7 1, .goto 3] := rfl
theorem zb_62_7 : zB 62 7 = [.iload 6, .invokeinterface 58 1, .ireturn] := rfl
theorem zb_63_0 : zB 63 0 = [.iload 5, .istore 7, .iload 2, .istore 8, .goto_w 1] := rfl
theorem zb_63_1 : zB 63 1 = [.iload 8, .aload 1, .getfield 449, .if_icmp .ge 4, .aload 1, .iload 8, .iload 2, .invokeinterface 85 3, .ifCond .eq 3, .aload 0, .aload 1, .iload 8, .iload 3, .iload 4, .iload 7, .iload 6, .invokeinterface 64 7, .istore 9, .iload 9, .invokeinterface 60 1, .ifCond .eq 2, .iload 9, .ireturn] := rfl
theorem zb_63_2 : zB 63 2 = [.iload 9, .invokeinterface 61 1, .istore 7, .goto_w 3] := rfl
theorem zb_63_3 : zB 63 3 = [.iinc 8 1, .goto 1] := rfl
theorem zb_63_4 : zB 63 4 = [.iload 7, .invokeinterface 59 1, .ireturn] := rfl
theorem zb_64_0 : zB 64 0 = [.iload 5, .istore 7, .aload 1, .getfield 451, .iconst 3, .aaload, .iload 2, .iaload, .istore 8, .iconst 0, .istore 9, .goto_w 1] := rfl
theorem zb_64_1 : zB 64 1 = [.iload 9, .iload 8, .if_icmp .ge 4, .iload 7, .iload 4, .if_icmp .lt 2, .aload 0, .aload 1, .getfield 451, .iconst 0, .aaload, .iload 2, .iaload, .iconst 3, .iload 3, .iload 7, .iadd, .iload 4, .invokevirtual 1, .iload 7, .invokeinterface 59 1, .ireturn] := rfl
theorem zb_64_2 : zB 64 2 = [.aload 1, .getfield 451, .iconst 2, .aaload, .iload 2, .iaload, .iload 4, .iload 7, .isub, .invokeinterface 301 2, .istore 10, .aload 0, .aload 1, .iload 2, .iload 3, .iload 7, .iadd, .iload 10, .iload 6, .invokevirtual 0, .istore 11, .iload 7, .iload 11, .invokeinterface 61 1, .iadd, .istore 7, .iload 11, .invokeinterface 60 1, .ifCond .eq 3, .iload 7, .invokeinterface 58 1, .ireturn] := rfl
theorem zb_64_3 : zB 64 3 = [.iinc 9 1, .goto 1] := rfl
theorem zb_64_4 : zB 64 4 = [.iload 7, .invokeinterface 59 1, .ireturn] := rfl
theorem zb_65_0 : zB 65 0 = [.aload 0, .pop, .aload 0, .iconst 0, .putfield 448, .aload 0, .iconst 0, .putfield 449, .aload 0, .iconst 9, .iconst 12, .multianewarray 0 2, .putfield 450, .aload 0, .iconst 6, .iconst 24, .multianewarray 0 2, .putfield 451, .return_] := rfl
theorem zb_66_0 : zB 66 0 = [.aload 0, .aload 1, .getfield 448, .putfield 448, .aload 0, .aload 1, .getfield 449, .putfield 449, .iconst 0, .istore 2, .goto_w 1] := rfl
theorem zb_66_1 : zB 66 1 = [.iload 2, .iconst 8, .if_icmp .gt 2, .aload 1, .getfield 450, .iload 2, .aaload, .iconst 0, .aload 0, .getfield 450, .iload 2, .aaload, .iconst 0, .iconst 12, .pop2, .iinc 2 1, .goto 1] := rfl
theorem zb_66_2 : zB 66 2 = [.iconst 0, .istore 2, .goto_w 3] := rfl
theorem zb_66_3 : zB 66 3 = [.iload 2, .iconst 5, .if_icmp .gt 4, .aload 1, .getfield 451, .iload 2, .aaload, .iconst 0, .aload 0, .getfield 451, .iload 2, .aaload, .iconst 0, .iconst 24, .pop2, .iinc 2 1, .goto 3] := rfl
theorem zb_66_4 : zB 66 4 = [.return_] := rfl
theorem zb_67_0 : zB 67 0 = [.iload 1, .ifCond .lt 1, .iload 1, .aload 0, .getfield 448, .if_icmp .lt 2, .goto_w 1] := rfl
theorem zb_67_1 : zB 67 1 = [.iconst 1, .goto 3] := rfl
theorem zb_67_2 : zB 67 2 = [.iconst 0, .goto_w 3] := rfl
theorem zb_67_3 : zB 67 3 = [.ireturn] := rfl
theorem zb_68_0 : zB 68 0 = [.iload 1, .ifCond .lt 1, .iload 1, .aload 0, .getfield 449, .if_icmp .lt 2, .goto_w 1] := rfl
theorem zb_68_1 : zB 68 1 = [.iconst 1, .goto 3] := rfl
theorem zb_68_2 : zB 68 2 = [.iconst 0, .goto_w 3] := rfl
theorem zb_68_3 : zB 68 3 = [.ireturn] := rfl
theorem zb_69_0 : zB 69 0 = [.iload 1, .aload 0, .getfield 448, .iushr, .ifCond .eq 1, .iconst 2, .goto 2] := rfl
theorem zb_69_1 : zB 69 1 = [.iconst 0, .goto_w 2] := rfl
theorem zb_69_2 : zB 69 2 = [.ireturn] := rfl
theorem zb_70_0 : zB 70 0 = [.iload 1, .getstatic 0, .iconst 0, .iaload, .if_icmp .lt 1, .iload 1, .getstatic 1, .iconst 0, .iaload, .if_icmp .le 2, .goto_w 1] := rfl
theorem zb_70_1 : zB 70 1 = [.iconst 2, .ireturn] := rfl
theorem zb_70_2 : zB 70 2 = [.aload 0, .getfield 448, .iconst 12, .if_icmp .lt 3, .iconst 3, .goto 4] := rfl
theorem zb_70_3 : zB 70 3 = [.iconst 0, .goto_w 4] := rfl
theorem zb_70_4 : zB 70 4 = [.ireturn] := rfl
theorem zb_71_0 : zB 71 0 = [.aload 0, .getfield 448, .istore 2, .iconst 0, .istore 3, .goto_w 1] := rfl
theorem zb_71_1 : zB 71 1 = [.iload 3, .iconst 5, .if_icmp .gt 2, .aload 0, .getfield 450, .iload 3, .aaload, .iload 2, .getstatic 2, .iload 3, .iaload, .iastore, .iinc 3 1, .goto 1] := rfl
theorem zb_71_2 : zB 71 2 = [.aload 0, .getfield 450, .iconst 0, .aaload, .iload 2, .iload 1, .iastore, .aload 0, .getfield 450, .iconst 6, .aaload, .iload 2, .iconst 1, .iastore, .aload 0, .getfield 450, .iconst 7, .aaload, .iload 2, .iconst 0, .iastore, .aload 0, .getfield 450, .iconst 8, .aaload, .iload 2, .iconst (-1), .iastore, .aload 0, .dup, .getfield 448, .iconst 1, .iadd, .putfield 448, .iload 2, .ireturn] := rfl
theorem zb_72_0 : zB 72 0 = [.aload 0, .iload 1, .invokeinterface 67 2, .ifCond .ne 1, .aload 0, .iload 2, .invokeinterface 67 2, .ifCond .eq 2, .goto_w 1] := rfl
theorem zb_72_1 : zB 72 1 = [.iconst 1, .ireturn] := rfl
theorem zb_72_2 : zB 72 2 = [.iload 3, .iconst 1, .iconst 500, .invokeinterface 157 3, .ifCond .ne 3, .iload 4, .iconst 1, .iconst 3, .invokeinterface 157 3, .ifCond .ne 3, .iload 5, .iconst 0, .iconst 2, .invokeinterface 157 3, .ifCond .eq 4, .goto_w 3] := rfl
theorem zb_72_3 : zB 72 3 = [.iconst 2, .ireturn] := rfl
theorem zb_72_4 : zB 72 4 = [.iload 1, .iload 2, .if_icmp .eq 5, .aload 0, .iload 2, .invokeinterface 87 2, .iload 1, .invokeinterface 158 2, .ifCond .eq 6, .goto_w 5] := rfl
theorem zb_72_5 : zB 72 5 = [.iconst 3, .ireturn] := rfl
theorem zb_72_6 : zB 72 6 = [.iload 5, .iconst 2, .if_icmp .ne 7, .aload 0, .iload 1, .invokeinterface 83 2, .iconst (-1), .if_icmp .ne 7, .iconst 3, .ireturn] := rfl
theorem zb_72_7 : zB 72 7 = [.aload 0, .getfield 449, .iconst 24, .if_icmp .lt 8, .iconst 3, .goto 9] := rfl
theorem zb_72_8 : zB 72 8 = [.iconst 0, .goto_w 9] := rfl
theorem zb_72_9 : zB 72 9 = [.ireturn] := rfl
theorem zb_73_0 : zB 73 0 = [.aload 0, .getfield 449, .istore 6, .aload 0, .getfield 451, .iconst 5, .aaload, .iload 6, .iload 5, .iconst 2, .if_icmp .ne 1, .aload 0, .iload 1, .invokeinterface 83 2, .goto 2] := rfl
theorem zb_73_1 : zB 73 1 = [.iconst (-1), .goto_w 2] := rfl
theorem zb_73_2 : zB 73 2 = [.iastore, .aload 0, .getfield 451, .iconst 0, .aaload, .iload 6, .iload 1, .iastore, .aload 0, .getfield 451, .iconst 1, .aaload, .iload 6, .iload 2, .iastore, .aload 0, .getfield 451, .iconst 2, .aaload, .iload 6, .iload 3, .iastore, .aload 0, .getfield 451, .iconst 3, .aaload, .iload 6, .iload 4, .iastore, .aload 0, .getfield 451, .iconst 4, .aaload, .iload 6, .iload 5, .iastore, .aload 0, .dup, .getfield 449, .iconst 1, .iadd, .putfield 449, .iload 6, .ireturn] := rfl
theorem zb_74_0 : zB 74 0 = [.aload 0, .iload 1, .invokeinterface 68 2, .ifCond .eq 1, .iconst 1, .ireturn] := rfl
theorem zb_74_1 : zB 74 1 = [.iconst 0, .istore 2, .goto_w 2] := rfl
theorem zb_74_2 : zB 74 2 = [.iload 2, .aload 0, .getfield 449, .if_icmp .ge 4, .aload 0, .getfield 451, .iconst 5, .aaload, .iload 2, .iaload, .iload 1, .if_icmp .ne 3, .iconst 3, .ireturn] := rfl
theorem zb_74_3 : zB 74 3 = [.iinc 2 1, .goto 2] := rfl
theorem zb_74_4 : zB 74 4 = [.iconst 0, .ireturn] := rfl
theorem zb_75_0 : zB 75 0 = [.aload 0, .dup, .getfield 449, .iconst 1, .isub, .putfield 449, .iconst 0, .istore 2, .goto_w 1] := rfl
theorem zb_75_1 : zB 75 1 = [.iload 2, .iconst 5, .if_icmp .gt 2, .aload 0, .getfield 451, .iload 2, .aaload, .iload 1, .iconst 1, .iadd, .aload 0, .getfield 451, .iload 2, .aaload, .iload 1, .aload 0, .getfield 449, .iload 1, .isub, .pop2, .iinc 2 1, .goto 1] := rfl
theorem zb_75_2 : zB 75 2 = [.iconst 0, .istore 2, .goto_w 3] := rfl
theorem zb_75_3 : zB 75 3 = [.iload 2, .aload 0, .getfield 449, .if_icmp .ge 5, .aload 0, .getfield 451, .iconst 5, .aaload, .iload 2, .iaload, .iload 1, .if_icmp .le 4, .aload 0, .getfield 451, .iconst 5, .aaload, .iload 2, .dup2, .iaload, .iconst 1, .isub, .iastore, .goto_w 4] := rfl
theorem zb_75_4 : zB 75 4 = [.iinc 2 1, .goto 3] := rfl
theorem zb_75_5 : zB 75 5 = [.aload 0, .getfield 449, .ireturn] := rfl
theorem zb_76_0 : zB 76 0 = [.aload 0, .iload 2, .invokeinterface 67 2, .ifCond .eq 1, .iconst 1, .ireturn] := rfl
theorem zb_76_1 : zB 76 1 = [.iload 1, .ifCond .lt 2, .iload 1, .iconst 5, .if_icmp .le 3, .goto_w 2] := rfl
theorem zb_76_2 : zB 76 2 = [.iconst 2, .ireturn] := rfl
theorem zb_76_3 : zB 76 3 = [.iload 3, .getstatic 0, .iload 1, .iaload, .getstatic 1, .iload 1, .iaload, .invokeinterface 157 3, .ireturn] := rfl
theorem zb_77_0 : zB 77 0 = [.aload 0, .getfield 450, .iload 1, .aaload, .iload 2, .iaload, .istore 4, .aload 0, .getfield 450, .iload 1, .aaload, .iload 2, .iload 3, .iastore, .iload 4, .ireturn] := rfl
theorem zb_78_0 : zB 78 0 = [.aload 0, .iload 1, .invokeinterface 68 2, .ifCond .eq 1, .iconst 1, .goto 2] := rfl
theorem zb_78_1 : zB 78 1 = [.iload 2, .iconst 1, .iconst 500, .invokeinterface 157 3, .goto_w 2] := rfl
theorem zb_78_2 : zB 78 2 = [.ireturn] := rfl
theorem zb_79_0 : zB 79 0 = [.aload 0, .getfield 451, .iconst 2, .aaload, .iload 1, .iaload, .istore 3, .aload 0, .getfield 451, .iconst 2, .aaload, .iload 1, .iload 2, .iastore, .iload 3, .ireturn] := rfl
theorem zb_80_0 : zB 80 0 = [.iload 2, .iconst 8, .if_icmp .gt 1, .aload 0, .getfield 450, .iload 2, .aaload, .iload 1, .iaload, .ireturn] := rfl
theorem zb_80_1 : zB 80 1 = [.iload 2, .iconst 9, .if_icmp .ne 2, .aload 0, .iload 1, .invokeinterface 81 2, .goto 3] := rfl
theorem zb_80_2 : zB 80 2 = [.aload 0, .iload 1, .invokeinterface 82 2, .goto_w 3] := rfl
theorem zb_80_3 : zB 80 3 = [.ireturn] := rfl
theorem zb_81_0 : zB 81 0 = [.aload 0, .getfield 450, .iconst 0, .aaload, .iload 1, .iaload, .aload 0, .getfield 450, .iconst 1, .aaload, .iload 1, .iaload, .imul, .iconst 99, .iadd, .iconst 100, .idiv, .ireturn] := rfl
theorem zb_82_0 : zB 82 0 = [.iconst 0, .istore 2, .iconst 0, .istore 3, .goto_w 1] := rfl
theorem zb_82_1 : zB 82 1 = [.iload 3, .aload 0, .getfield 449, .if_icmp .ge 3, .aload 0, .getfield 451, .iconst 0, .aaload, .iload 3, .iaload, .iload 1, .if_icmp .ne 2, .iinc 2 1, .goto_w 2] := rfl
theorem zb_82_2 : zB 82 2 = [.iinc 3 1, .goto 1] := rfl
theorem zb_82_3 : zB 82 3 = [.iload 2, .ireturn] := rfl
theorem zb_83_0 : zB 83 0 = [.aload 0, .getfield 449, .iconst 1, .isub, .istore 2, .goto_w 1] := rfl
theorem zb_83_1 : zB 83 1 = [.iload 2, .ifCond .lt 3, .aload 0, .iload 2, .iload 1, .invokeinterface 84 3, .ifCond .eq 2, .iload 2, .ireturn] := rfl
theorem zb_83_2 : zB 83 2 = [.iinc 2 (-1), .goto 1] := rfl
theorem zb_83_3 : zB 83 3 = [.iconst (-1), .ireturn] := rfl
theorem zb_84_0 : zB 84 0 = [.aload 0, .getfield 451, .iconst 0, .aaload, .iload 1, .iaload, .iload 2, .if_icmp .ne 1, .aload 0, .getfield 451, .iconst 4, .aaload, .iload 1, .iaload, .iconst 2, .if_icmp .eq 1, .iconst 1, .goto 2] := rfl
theorem zb_84_1 : zB 84 1 = [.iconst 0, .goto_w 2] := rfl
theorem zb_84_2 : zB 84 2 = [.ireturn] := rfl
theorem zb_85_0 : zB 85 0 = [.iload 1, .iload 2, .if_icmp .eq 1, .aload 0, .getfield 451, .iconst 5, .aaload, .iload 1, .iaload, .iload 2, .if_icmp .ne 2, .goto_w 1] := rfl
theorem zb_85_1 : zB 85 1 = [.iconst 1, .goto 3] := rfl
theorem zb_85_2 : zB 85 2 = [.iconst 0, .goto_w 3] := rfl
theorem zb_85_3 : zB 85 3 = [.ireturn] := rfl
theorem zb_86_0 : zB 86 0 = [.aload 0, .getfield 451, .iconst 4, .aaload, .iload 1, .iaload, .ifCond .ne 1, .iconst 1, .goto 2] := rfl
theorem zb_86_1 : zB 86 1 = [.iconst 0, .goto_w 2] := rfl
theorem zb_86_2 : zB 86 2 = [.ireturn] := rfl
theorem zb_87_0 : zB 87 0 = [.iconst 1, .iload 1, .ishl, .istore 2, .iconst 0, .istore 3, .iconst 0, .istore 4, .goto_w 1] := rfl
theorem zb_87_1 : zB 87 1 = [.iload 4, .aload 0, .getfield 448, .if_icmp .ge 3, .aload 0, .iload 2, .invokeinterface 88 2, .istore 5, .iload 5, .iload 3, .iconst (-1), .ixor, .iand, .ifCond .ne 2, .iload 3, .ireturn] := rfl
theorem zb_87_2 : zB 87 2 = [.iload 3, .iload 5, .ior, .istore 3, .iload 2, .iload 5, .ior, .istore 2, .iinc 4 1, .goto 1] := rfl
theorem zb_87_3 : zB 87 3 = [.iload 3, .ireturn] := rfl
theorem zb_88_0 : zB 88 0 = [.iconst 0, .istore 2, .iconst 0, .istore 3, .goto_w 1] := rfl
theorem zb_88_1 : zB 88 1 = [.iload 3, .aload 0, .getfield 449, .if_icmp .ge 3, .iload 1, .aload 0, .getfield 451, .iconst 0, .aaload, .iload 3, .iaload, .invokeinterface 158 2, .ifCond .eq 2, .iload 2, .iconst 1, .aload 0, .getfield 451, .iconst 1, .aaload, .iload 3, .iaload, .ishl, .ior, .istore 2, .goto_w 2] := rfl
theorem zb_88_2 : zB 88 2 = [.iinc 3 1, .goto 1] := rfl
theorem zb_88_3 : zB 88 3 = [.iload 2, .ireturn] := rfl
theorem zb_89_0 : zB 89 0 = [.iconst 0, .istore 3, .goto_w 1] := rfl
theorem zb_89_1 : zB 89 1 = [.iload 3, .aload 0, .getfield 449, .if_icmp .ge 3, .aload 0, .iload 3, .iload 1, .invokeinterface 84 3, .ifCond .eq 2, .aload 0, .iload 3, .invokeinterface 86 2, .ifCond .eq 2, .aload 0, .iload 3, .iload 2, .invokeinterface 90 3, .ifCond .eq 2, .iconst 1, .ireturn] := rfl
theorem zb_89_2 : zB 89 2 = [.iinc 3 1, .goto 1] := rfl
theorem zb_89_3 : zB 89 3 = [.iconst 0, .ireturn] := rfl
theorem zb_90_0 : zB 90 0 = [.iload 1, .istore 3, .goto_w 1] := rfl
theorem zb_90_1 : zB 90 1 = [.iload 3, .aload 0, .getfield 449, .if_icmp .ge 3, .aload 0, .iload 3, .iload 1, .invokeinterface 85 3, .ifCond .eq 2, .iload 2, .aload 0, .getfield 451, .iconst 1, .aaload, .iload 3, .iaload, .invokeinterface 158 2, .ifCond .ne 2, .iconst 0, .ireturn] := rfl
theorem zb_90_2 : zB 90 2 = [.iinc 3 1, .goto 1] := rfl
theorem zb_90_3 : zB 90 3 = [.iconst 1, .ireturn] := rfl
theorem zb_91_0 : zB 91 0 = [.aload 0, .getfield 450, .iconst 6, .aaload, .iload 1, .iaload, .iconst 1, .if_icmp .ne 1, .iconst 1, .goto 2] := rfl
theorem zb_91_1 : zB 91 1 = [.iconst 0, .goto_w 2] := rfl
theorem zb_91_2 : zB 91 2 = [.ireturn] := rfl
theorem zb_92_0 : zB 92 0 = [.iconst 0, .istore 1, .iconst 0, .istore 2, .goto_w 1] := rfl
theorem zb_92_1 : zB 92 1 = [.iload 2, .aload 0, .getfield 448, .if_icmp .ge 3, .aload 0, .iload 2, .invokeinterface 91 2, .ifCond .ne 2, .iload 1, .iconst 1, .iload 2, .ishl, .ior, .istore 1, .goto_w 2] := rfl
theorem zb_92_2 : zB 92 2 = [.iinc 2 1, .goto 1] := rfl
theorem zb_92_3 : zB 92 3 = [.iload 1, .ireturn] := rfl
theorem zb_93_0 : zB 93 0 = [.aload 0, .getfield 448, .aload 0, .invokeinterface 92 1, .invokeinterface 302 1, .isub, .ireturn] := rfl
theorem zb_94_0 : zB 94 0 = [.aload 0, .iload 1, .invokeinterface 67 2, .ifCond .eq 1, .iconst 1, .ireturn] := rfl
theorem zb_94_1 : zB 94 1 = [.aload 0, .iload 1, .invokeinterface 91 2, .ifCond .eq 2, .iconst 0, .goto 3] := rfl
theorem zb_94_2 : zB 94 2 = [.iconst 3, .goto_w 3] := rfl
theorem zb_94_3 : zB 94 3 = [.ireturn] := rfl
theorem zb_95_0 : zB 95 0 = [.aload 0, .getfield 450, .iconst 6, .aaload, .iload 1, .iconst 0, .iastore, .aload 0, .getfield 450, .iconst 7, .aaload, .iload 1, .iconst 0, .iastore, .aload 0, .getfield 450, .iconst 8, .aaload, .iload 1, .iconst (-1), .iastore, .return_] := rfl
theorem zb_96_0 : zB 96 0 = [.aload 0, .iload 1, .invokeinterface 67 2, .ifCond .eq 1, .iconst 1, .ireturn] := rfl
theorem zb_96_1 : zB 96 1 = [.aload 0, .iload 1, .invokeinterface 91 2, .ifCond .ne 2, .aload 0, .getfield 450, .iconst 8, .aaload, .iload 1, .iaload, .iconst (-1), .if_icmp .eq 3, .goto_w 2] := rfl
theorem zb_96_2 : zB 96 2 = [.iconst 3, .goto 4] := rfl
theorem zb_96_3 : zB 96 3 = [.iconst 0, .goto_w 4] := rfl
theorem zb_96_4 : zB 96 4 = [.ireturn] := rfl
theorem zb_97_0 : zB 97 0 = [.aload 0, .getfield 450, .iconst 8, .aaload, .iload 1, .aload 0, .getfield 450, .iconst 3, .aaload, .iload 1, .iaload, .iastore, .aload 0, .getfield 450, .iconst 8, .aaload, .iload 1, .iaload, .ireturn] := rfl
theorem zb_98_0 : zB 98 0 = [.iconst 0, .istore 2, .goto_w 1] := rfl
theorem zb_98_1 : zB 98 1 = [.iload 2, .iload 1, .if_icmp .ge 2, .aload 0, .invokeinterface 99 1, .pop, .iinc 2 1, .goto 1] := rfl
theorem zb_98_2 : zB 98 2 = [.return_] := rfl
theorem zb_99_0 : zB 99 0 = [.aload 0, .invokeinterface 92 1, .istore 1, .iconst 0, .istore 2, .iconst 0, .istore 3, .goto_w 1] := rfl
theorem zb_99_1 : zB 99 1 = [.iload 3, .aload 0, .getfield 448, .if_icmp .ge 4, .aload 0, .iload 3, .iload 1, .invokeinterface 89 3, .istore 4, .iload 1, .iload 3, .invokeinterface 158 2, .ifCond .eq 2, .aload 0, .iload 3, .iload 4, .invokeinterface 100 3, .goto 3] := rfl
theorem zb_99_2 : zB 99 2 = [.aload 0, .iload 3, .iload 4, .invokeinterface 101 3, .aload 0, .getfield 450, .iconst 7, .aaload, .iload 3, .iaload, .aload 0, .getfield 450, .iconst 2, .aaload, .iload 3, .iaload, .if_icmp .lt 3, .aload 0, .iload 3, .invokeinterface 95 2, .iload 2, .iconst 1, .iload 3, .ishl, .ior, .istore 2, .goto_w 3] := rfl
theorem zb_99_3 : zB 99 3 = [.iinc 3 1, .goto 1] := rfl
theorem zb_99_4 : zB 99 4 = [.iload 2, .ireturn] := rfl
theorem zb_100_0 : zB 100 0 = [.aload 0, .getfield 450, .iconst 8, .aaload, .iload 1, .iaload, .istore 3, .iload 3, .iconst (-1), .if_icmp .ne 1, .return_] := rfl
theorem zb_100_1 : zB 100 1 = [.iload 3, .ifCond .le 2, .iinc 3 (-1), .goto_w 2] := rfl
theorem zb_100_2 : zB 100 2 = [.aload 0, .getfield 450, .iconst 8, .aaload, .iload 1, .iload 3, .iastore, .iload 3, .ifCond .ne 3, .iload 2, .ifCond .ne 3, .aload 0, .getfield 450, .iconst 6, .aaload, .iload 1, .iconst 1, .iastore, .aload 0, .getfield 450, .iconst 7, .aaload, .iload 1, .iconst 0, .iastore, .aload 0, .getfield 450, .iconst 8, .aaload, .iload 1, .iconst (-1), .iastore, .goto_w 3] := rfl
theorem zb_100_3 : zB 100 3 = [.return_] := rfl
theorem zb_101_0 : zB 101 0 = [.iload 2, .ifCond .eq 1, .aload 0, .getfield 450, .iconst 7, .aaload, .iload 1, .dup2, .iaload, .iconst 1, .iadd, .iastore, .goto 2] := rfl
theorem zb_101_1 : zB 101 1 = [.aload 0, .getfield 450, .iconst 7, .aaload, .iload 1, .iaload, .ifCond .le 2, .aload 0, .getfield 450, .iconst 7, .aaload, .iload 1, .dup2, .iaload, .iconst 1, .isub, .iastore, .goto_w 2] := rfl
theorem zb_101_2 : zB 101 2 = [.return_] := rfl
theorem zb_102_0 : zB 102 0 = [.aload 0, .pop, .aload 0, .iconst 120, .newarray .int, .putfield 512, .aload 0, .iconst 0, .putfield 513, .aload 0, .iconst 40, .newarray .int, .putfield 514, .aload 0, .iconst 5, .iconst 40, .multianewarray 0 2, .putfield 515, .return_] := rfl
theorem zb_103_0 : zB 103 0 = [.aload 0, .getfield 513, .iconst 120, .if_icmp .lt 1, .iconst 3, .goto 2] := rfl
theorem zb_103_1 : zB 103 1 = [.iconst 0, .goto_w 2] := rfl
theorem zb_103_2 : zB 103 2 = [.ireturn] := rfl
theorem zb_104_0 : zB 104 0 = [.aload 0, .getfield 512, .aload 0, .getfield 513, .iload 1, .iastore, .aload 0, .dup, .getfield 513, .iconst 1, .iadd, .putfield 513, .aload 0, .getfield 513, .ireturn] := rfl
theorem zb_105_0 : zB 105 0 = [.aload 0, .getfield 513, .istore 1, .aload 0, .iconst 0, .putfield 513, .iload 1, .ireturn] := rfl
theorem zb_106_0 : zB 106 0 = [.iconst 0, .istore 1, .iconst 0, .istore 2, .goto_w 1] := rfl
theorem zb_106_1 : zB 106 1 = [.iload 2, .aload 0, .getfield 513, .if_icmp .ge 3, .iload 1, .iconst 40, .if_icmp .ge 3, .aload 0, .iload 2, .iload 1, .invokeinterface 109 3, .istore 2, .iload 2, .ifCond .ge 2, .iconst (-10), .iload 2, .invokeinterface 108 1, .isub, .ireturn] := rfl
theorem zb_106_2 : zB 106 2 = [.iinc 1 1, .goto 1] := rfl
theorem zb_106_3 : zB 106 3 = [.iload 1, .ireturn] := rfl
theorem zb_107_0 : zB 107 0 = [.iconst (-1), .iload 0, .isub, .ireturn] := rfl
theorem zb_108_0 : zB 108 0 = [.iconst (-1), .iload 0, .isub, .ireturn] := rfl
theorem zb_109_0 : zB 109 0 = [.aload 0, .getfield 512, .iload 1, .iaload, .invokeinterface 110 1, .istore 3, .iload 3, .ifCond .ne 1, .iload 1, .invokeinterface 107 1, .ireturn] := rfl
theorem zb_109_1 : zB 109 1 = [.aload 0, .getfield 514, .iload 2, .aload 0, .getfield 512, .iload 1, .iaload, .iastore, .iload 1, .iconst 1, .iadd, .istore 4, .iconst 0, .istore 5, .goto_w 2] := rfl
theorem zb_109_2 : zB 109 2 = [.iload 5, .iload 3, .if_icmp .ge 7, .aload 0, .iload 4, .invokeinterface 111 2, .istore 6, .iload 6, .iload 4, .if_icmp .eq 5, .iload 6, .aload 0, .getfield 513, .if_icmp .ge 5, .aload 0, .getfield 512, .iload 6, .iaload, .iload 5, .iconst 1, .iadd, .iload 3, .if_icmp .ge 3, .iconst 44, .goto 4] := rfl
theorem zb_109_3 : zB 109 3 = [.iconst 59, .goto_w 4] := rfl
theorem zb_109_4 : zB 109 4 = [.if_icmp .eq 6, .goto_w 5] := rfl
theorem zb_109_5 : zB 109 5 = [.iload 6, .invokeinterface 107 1, .ireturn] := rfl
theorem zb_109_6 : zB 109 6 = [.aload 0, .getfield 515, .iload 5, .aaload, .iload 2, .aload 0, .iload 4, .iload 6, .invokeinterface 112 3, .iastore, .iload 6, .iconst 1, .iadd, .istore 4, .iinc 5 1, .goto 2] := rfl
theorem zb_109_7 : zB 109 7 = [.iload 4, .ireturn] := rfl
theorem zb_110_0 : zB 110 0 = [.iload 0, .lookupswitch 4 #[(97, 1), (98, 4), (99, 3), (100, 1), (101, 4), (102, 4), (103, 4), (104, 4), (105, 4), (106, 4), (107, 4), (108, 4), (109, 4), (110, 4), (111, 4), (112, 2), (113, 4), (114, 1), (115, 1)]] := rfl
theorem zb_110_1 : zB 110 1 = [.iconst 1, .ireturn] := rfl
theorem zb_110_2 : zB 110 2 = [.iconst 3, .ireturn] := rfl
theorem zb_110_3 : zB 110 3 = [.iconst 5, .ireturn] := rfl
theorem zb_110_4 : zB 110 4 = [.iconst 0, .ireturn] := rfl
theorem zb_111_0 : zB 111 0 = [.iload 1, .istore 2, .goto_w 1] := rfl
theorem zb_111_1 : zB 111 1 = [.iload 2, .aload 0, .getfield 513, .if_icmp .ge 2, .iload 2, .iload 1, .iconst 3, .iadd, .if_icmp .ge 2, .aload 0, .getfield 512, .iload 2, .iaload, .iconst 48, .if_icmp .lt 2, .aload 0, .getfield 512, .iload 2, .iaload, .iconst 57, .if_icmp .gt 2, .iinc 2 1, .goto 1] := rfl
theorem zb_111_2 : zB 111 2 = [.iload 2, .ireturn] := rfl
theorem zb_112_0 : zB 112 0 = [.iconst 0, .istore 3, .iload 1, .istore 4, .goto_w 1] := rfl
theorem zb_112_1 : zB 112 1 = [.iload 4, .iload 2, .if_icmp .ge 2, .iconst 10, .iload 3, .imul, .aload 0, .getfield 512, .iload 4, .iaload, .iadd, .iconst 48, .isub, .istore 3, .iinc 4 1, .goto 1] := rfl
theorem zb_112_2 : zB 112 2 = [.iload 3, .ireturn] := rfl
theorem zb_113_0 : zB 113 0 = [.aload 0, .getfield 515, .iconst 0, .aaload, .iload 2, .iaload, .istore 3, .aload 0, .getfield 515, .iconst 1, .aaload, .iload 2, .iaload, .istore 4, .aload 0, .getfield 515, .iconst 2, .aaload, .iload 2, .iaload, .istore 5, .aload 0, .getfield 514, .iload 2, .iaload, .lookupswitch 6 #[(97, 1), (99, 2), (100, 3), (114, 4), (115, 5)]] := rfl
theorem zb_113_1 : zB 113 1 = [.aload 1, .iload 3, .invokeinterface 70 2, .ireturn] := rfl
theorem zb_113_2 : zB 113 2 = [.aload 1, .iload 3, .iload 4, .iload 5, .aload 0, .getfield 515, .iconst 3, .aaload, .iload 2, .iaload, .aload 0, .getfield 515, .iconst 4, .aaload, .iload 2, .iaload, .invokeinterface 72 6, .ireturn] := rfl
theorem zb_113_3 : zB 113 3 = [.aload 1, .iload 3, .invokeinterface 94 2, .ireturn] := rfl
theorem zb_113_4 : zB 113 4 = [.aload 1, .iload 3, .invokeinterface 96 2, .ireturn] := rfl
theorem zb_113_5 : zB 113 5 = [.iload 3, .iconst 1, .iconst 50, .invokeinterface 157 3, .ireturn] := rfl
theorem zb_113_6 : zB 113 6 = [.aload 1, .iload 3, .iload 4, .iload 5, .invokeinterface 76 4, .ireturn] := rfl
theorem zb_114_0 : zB 114 0 = [.aload 0, .getfield 515, .iconst 0, .aaload, .iload 2, .iaload, .istore 3, .aload 0, .getfield 515, .iconst 1, .aaload, .iload 2, .iaload, .istore 4, .aload 0, .getfield 515, .iconst 2, .aaload, .iload 2, .iaload, .istore 5, .aload 0, .getfield 514, .iload 2, .iaload, .lookupswitch 6 #[(97, 1), (99, 2), (100, 3), (114, 4), (115, 5)]] := rfl
theorem zb_114_1 : zB 114 1 = [.aload 1, .iload 3, .invokeinterface 71 2, .pop, .goto 7] := rfl
theorem zb_114_2 : zB 114 2 = [.aload 1, .iload 3, .iload 4, .iload 5, .aload 0, .getfield 515, .iconst 3, .aaload, .iload 2, .iaload, .aload 0, .getfield 515, .iconst 4, .aaload, .iload 2, .iaload, .invokeinterface 73 6, .pop, .goto 7] := rfl
theorem zb_114_3 : zB 114 3 = [.aload 1, .iload 3, .invokeinterface 95 2, .goto 7] := rfl
theorem zb_114_4 : zB 114 4 = [.aload 1, .iload 3, .invokeinterface 97 2, .pop, .goto 7] := rfl
theorem zb_114_5 : zB 114 5 = [.aload 1, .iload 3, .invokeinterface 98 2, .goto 7] := rfl
theorem zb_114_6 : zB 114 6 = [.aload 1, .iload 3, .iload 4, .iload 5, .invokeinterface 77 4, .pop, .goto_w 7] := rfl
theorem zb_114_7 : zB 114 7 = [.return_] := rfl
theorem zb_115_0 : zB 115 0 = [.aload 0, .pop, .aload 0, .new 7, .dup, .invokeinterface 65 1, .putfield 576, .aload 0, .new 7, .dup, .invokeinterface 65 1, .putfield 577, .aload 0, .new 3, .dup, .invokeinterface 31 1, .putfield 578, .aload 0, .new 2, .dup, .invokeinterface 17 1, .putfield 579, .aload 0, .new 5, .dup, .invokeinterface 46 1, .putfield 580, .aload 0, .new 0, .dup, .invokeinterface 0 1, .putfield 581, .aload 0, .new 4, .dup, .invokeinterface 36 1, .putfield 582, .aload 0, .new 1, .dup, .invokeinterface 6 1, .putfield 583, .aload 0, .new 8, .dup, .invokeinterface 102 1, .putfield 584, .return_] := rfl
theorem zb_116_0 : zB 116 0 = [.aload 0, .getfield 576, .iload 1, .invokeinterface 70 2, .invokeinterface 156 1, .aload 0, .getfield 578, .aload 0, .getfield 576, .invokeinterface 32 2, .aload 0, .getfield 576, .iload 1, .invokeinterface 71 2, .ireturn] := rfl
theorem zb_117_0 : zB 117 0 = [.aload 0, .getfield 576, .iload 1, .iload 2, .iload 3, .iload 4, .iload 5, .invokeinterface 72 6, .invokeinterface 156 1, .aload 0, .getfield 578, .aload 0, .getfield 576, .invokeinterface 32 2, .aload 0, .getfield 576, .iload 1, .iload 2, .iload 3, .iload 4, .iload 5, .invokeinterface 73 6, .ireturn] := rfl
theorem zb_118_0 : zB 118 0 = [.aload 0, .getfield 576, .iload 1, .invokeinterface 74 2, .invokeinterface 156 1, .aload 0, .getfield 578, .aload 0, .getfield 576, .invokeinterface 32 2, .aload 0, .getfield 576, .iload 1, .invokeinterface 75 2, .ireturn] := rfl
theorem zb_119_0 : zB 119 0 = [.aload 0, .getfield 576, .iload 1, .iload 2, .iload 3, .invokeinterface 76 4, .invokeinterface 156 1, .aload 0, .getfield 578, .aload 0, .getfield 576, .invokeinterface 32 2, .aload 0, .getfield 576, .iload 1, .iload 2, .iload 3, .invokeinterface 77 4, .ireturn] := rfl
theorem zb_120_0 : zB 120 0 = [.aload 0, .getfield 576, .iload 1, .iload 2, .invokeinterface 78 3, .invokeinterface 156 1, .aload 0, .getfield 578, .aload 0, .getfield 576, .invokeinterface 32 2, .aload 0, .getfield 576, .iload 1, .iload 2, .invokeinterface 79 3, .ireturn] := rfl
theorem zb_121_0 : zB 121 0 = [.aload 0, .getfield 576, .getfield 448, .ireturn] := rfl
theorem zb_122_0 : zB 122 0 = [.aload 0, .getfield 576, .getfield 449, .ireturn] := rfl
theorem zb_123_0 : zB 123 0 = [.aload 0, .getfield 576, .iload 1, .invokeinterface 67 2, .invokeinterface 156 1, .iload 2, .iconst 0, .iconst 10, .invokeinterface 157 3, .invokeinterface 156 1, .aload 0, .getfield 576, .iload 1, .iload 2, .invokeinterface 80 3, .ireturn] := rfl
theorem zb_124_0 : zB 124 0 = [.aload 0, .getfield 576, .iload 1, .invokeinterface 68 2, .invokeinterface 156 1, .iload 2, .iconst 0, .iconst 5, .invokeinterface 157 3, .invokeinterface 156 1, .aload 0, .getfield 576, .getfield 451, .iload 2, .aaload, .iload 1, .iaload, .ireturn] := rfl
theorem zb_125_0 : zB 125 0 = [.aload 0, .getfield 576, .iload 1, .invokeinterface 67 2, .invokeinterface 156 1, .aload 0, .getfield 576, .iload 2, .invokeinterface 67 2, .invokeinterface 156 1, .aload 0, .getfield 576, .iload 1, .invokeinterface 87 2, .iload 2, .invokeinterface 158 2, .ireturn] := rfl
theorem zb_126_0 : zB 126 0 = [.aload 0, .getfield 579, .aload 0, .getfield 576, .invokeinterface 18 2, .aload 0, .getfield 579, .iload 1, .invokeinterface 21 2, .ireturn] := rfl
theorem zb_127_0 : zB 127 0 = [.aload 0, .getfield 576, .iload 1, .invokeinterface 67 2, .invokeinterface 156 1, .aload 0, .getfield 579, .aload 0, .getfield 576, .invokeinterface 23 2, .aload 0, .getfield 579, .getfield 131, .iload 1, .iaload, .ireturn] := rfl
theorem zb_128_0 : zB 128 0 = [.aload 0, .getfield 576, .iload 1, .invokeinterface 67 2, .invokeinterface 156 1, .iload 2, .iconst 0, .iconst 1000, .invokeinterface 157 3, .invokeinterface 156 1, .aload 0, .getfield 580, .aload 0, .getfield 576, .iload 1, .iload 2, .invokeinterface 47 4, .ireturn] := rfl
theorem zb_129_0 : zB 129 0 = [.iload 1, .iconst 0, .iconst 5, .invokeinterface 157 3, .invokeinterface 156 1, .aload 0, .getfield 580, .invokeinterface 52 1, .invokeinterface 156 1, .aload 0, .getfield 580, .iload 1, .invokeinterface 53 2, .ireturn] := rfl
theorem zb_130_0 : zB 130 0 = [.iload 2, .iconst 0, .iconst 3, .invokeinterface 157 3, .invokeinterface 156 1, .aload 0, .getfield 580, .iload 1, .iload 2, .invokeinterface 55 3, .ireturn] := rfl
theorem zb_131_0 : zB 131 0 = [.iload 2, .iconst 0, .iconst 3, .invokeinterface 157 3, .invokeinterface 156 1, .aload 0, .getfield 580, .iload 1, .iload 2, .invokeinterface 56 3, .ireturn] := rfl
theorem zb_132_0 : zB 132 0 = [.aload 0, .getfield 576, .iload 1, .invokeinterface 67 2, .invokeinterface 156 1, .aload 0, .getfield 581, .aload 0, .getfield 576, .iload 1, .invokeinterface 1 3, .ireturn] := rfl
theorem zb_133_0 : zB 133 0 = [.aload 0, .getfield 576, .iload 1, .invokeinterface 67 2, .invokeinterface 156 1, .aload 0, .getfield 579, .aload 0, .getfield 576, .invokeinterface 25 2, .aload 0, .getfield 579, .getfield 132, .iload 1, .iaload, .ireturn] := rfl
theorem zb_134_0 : zB 134 0 = [.aload 0, .getfield 579, .aload 0, .getfield 576, .invokeinterface 25 2, .aload 0, .getfield 579, .aload 0, .getfield 576, .invokeinterface 27 2, .ireturn] := rfl
theorem zb_135_0 : zB 135 0 = [.aload 0, .getfield 578, .aload 0, .getfield 576, .invokeinterface 32 2, .aload 0, .getfield 579, .aload 0, .getfield 576, .invokeinterface 28 2, .ireturn] := rfl
theorem zb_136_0 : zB 136 0 = [.aload 0, .getfield 576, .iload 1, .invokeinterface 94 2, .invokeinterface 156 1, .aload 0, .getfield 578, .aload 0, .getfield 576, .invokeinterface 32 2, .aload 0, .getfield 576, .iload 1, .invokeinterface 95 2, .aload 0, .getfield 576, .invokeinterface 93 1, .ireturn] := rfl
theorem zb_137_0 : zB 137 0 = [.aload 0, .getfield 576, .iload 1, .invokeinterface 96 2, .invokeinterface 156 1, .aload 0, .getfield 578, .aload 0, .getfield 576, .invokeinterface 32 2, .aload 0, .getfield 576, .iload 1, .invokeinterface 97 2, .ireturn] := rfl
theorem zb_138_0 : zB 138 0 = [.iload 1, .iconst 1, .iconst 50, .invokeinterface 157 3, .invokeinterface 156 1, .aload 0, .getfield 578, .aload 0, .getfield 576, .invokeinterface 32 2, .aload 0, .getfield 576, .iload 1, .invokeinterface 98 2, .aload 0, .getfield 576, .invokeinterface 93 1, .ireturn] := rfl
theorem zb_139_0 : zB 139 0 = [.aload 0, .getfield 576, .invokeinterface 92 1, .ireturn] := rfl
theorem zb_140_0 : zB 140 0 = [.aload 0, .getfield 576, .iload 1, .invokeinterface 94 2, .invokeinterface 156 1, .aload 0, .getfield 577, .aload 0, .getfield 576, .invokeinterface 66 2, .aload 0, .getfield 577, .iload 1, .invokeinterface 95 2, .aload 0, .getfield 577, .iconst 40, .invokeinterface 98 2, .aload 0, .getfield 577, .invokeinterface 92 1, .ireturn] := rfl
theorem zb_141_0 : zB 141 0 = [.aload 0, .getfield 576, .iload 1, .invokeinterface 94 2, .invokeinterface 156 1, .aload 0, .getfield 577, .aload 0, .getfield 576, .invokeinterface 66 2, .aload 0, .getfield 577, .iload 1, .invokeinterface 95 2, .iconst 1, .istore 2, .goto_w 1] := rfl
theorem zb_141_1 : zB 141 1 = [.iload 2, .iconst 40, .if_icmp .gt 3, .aload 0, .getfield 577, .invokeinterface 99 1, .ifCond .eq 2, .iload 2, .ireturn] := rfl
theorem zb_141_2 : zB 141 2 = [.iinc 2 1, .goto 1] := rfl
theorem zb_141_3 : zB 141 3 = [.iconst (-1), .ireturn] := rfl
theorem zb_142_0 : zB 142 0 = [.iload 1, .iconst 1, .iconst 4, .invokeinterface 157 3, .invokeinterface 156 1, .aload 0, .getfield 582, .aload 0, .getfield 576, .iload 1, .invokeinterface 38 3, .ireturn] := rfl
theorem zb_143_0 : zB 143 0 = [.iload 1, .iconst 1, .iconst 4, .invokeinterface 157 3, .invokeinterface 156 1, .aload 0, .getfield 576, .iload 2, .invokeinterface 67 2, .invokeinterface 156 1, .aload 0, .getfield 576, .iload 2, .invokeinterface 91 2, .ifCond .eq 1, .iconst (-1), .ireturn] := rfl
theorem zb_143_1 : zB 143 1 = [.aload 0, .getfield 582, .aload 0, .getfield 576, .iload 1, .invokeinterface 38 3, .pop, .aload 0, .getfield 582, .getfield 257, .iload 2, .iaload, .ireturn] := rfl
theorem zb_144_0 : zB 144 0 = [.aload 0, .getfield 582, .aload 0, .getfield 576, .invokeinterface 42 2, .ireturn] := rfl
theorem zb_145_0 : zB 145 0 = [.aload 0, .getfield 582, .aload 0, .getfield 576, .iload 1, .invokeinterface 45 3, .ireturn] := rfl
theorem zb_146_0 : zB 146 0 = [.aload 0, .getfield 576, .iload 1, .invokeinterface 67 2, .invokeinterface 156 1, .aload 0, .getfield 576, .iload 2, .invokeinterface 69 2, .invokeinterface 156 1, .aload 0, .getfield 579, .aload 0, .getfield 576, .invokeinterface 18 2, .aload 0, .getfield 579, .aload 0, .getfield 576, .iload 2, .invokeinterface 30 3, .iload 1, .invokeinterface 158 2, .ireturn] := rfl
theorem zb_147_0 : zB 147 0 = [.aload 0, .getfield 576, .iload 1, .invokeinterface 67 2, .invokeinterface 156 1, .iload 2, .iconst 1, .iconst 12, .invokeinterface 157 3, .invokeinterface 156 1, .aload 0, .getfield 579, .aload 0, .getfield 576, .invokeinterface 18 2, .aload 0, .getfield 583, .aload 0, .getfield 576, .aload 0, .getfield 579, .invokeinterface 7 3, .aload 0, .getfield 583, .aload 0, .getfield 576, .iload 1, .iload 2, .invokeinterface 12 4, .ireturn] := rfl
theorem zb_148_0 : zB 148 0 = [.aload 0, .getfield 576, .iload 1, .invokeinterface 67 2, .invokeinterface 156 1, .iload 2, .iconst 1, .iconst 12, .invokeinterface 157 3, .invokeinterface 156 1, .aload 0, .getfield 579, .aload 0, .getfield 576, .invokeinterface 18 2, .aload 0, .getfield 583, .aload 0, .getfield 576, .aload 0, .getfield 579, .invokeinterface 7 3, .aload 0, .getfield 583, .aload 0, .getfield 576, .iload 1, .iload 2, .iload 3, .invokeinterface 13 5, .ireturn] := rfl
theorem zb_149_0 : zB 149 0 = [.aload 0, .getfield 576, .iload 1, .invokeinterface 67 2, .invokeinterface 156 1, .aload 0, .getfield 579, .aload 0, .getfield 576, .invokeinterface 18 2, .aload 0, .getfield 583, .aload 0, .getfield 576, .aload 0, .getfield 579, .invokeinterface 7 3, .aload 0, .getfield 583, .aload 0, .getfield 576, .iload 1, .iconst (-1), .invokeinterface 14 4, .d2f, .invokeinterface 159 1, .ireturn] := rfl
theorem zb_150_0 : zB 150 0 = [.aload 0, .getfield 576, .iload 1, .invokeinterface 67 2, .invokeinterface 156 1, .aload 0, .getfield 579, .aload 0, .getfield 576, .invokeinterface 18 2, .aload 0, .getfield 583, .aload 0, .getfield 576, .aload 0, .getfield 579, .invokeinterface 7 3, .aload 0, .getfield 583, .aload 0, .getfield 576, .iload 1, .invokeinterface 16 3, .ireturn] := rfl
theorem zb_151_0 : zB 151 0 = [.iload 1, .iconst 0, .iconst 127, .invokeinterface 157 3, .invokeinterface 156 1, .aload 0, .getfield 584, .invokeinterface 103 1, .invokeinterface 156 1, .aload 0, .getfield 584, .iload 1, .invokeinterface 104 2, .ireturn] := rfl
theorem zb_152_0 : zB 152 0 = [.aload 0, .getfield 584, .invokeinterface 105 1, .ireturn] := rfl
theorem zb_153_0 : zB 153 0 = [.aload 0, .getfield 584, .invokeinterface 106 1, .istore 1, .iload 1, .ifCond .ge 1, .iload 1, .ireturn] := rfl
theorem zb_153_1 : zB 153 1 = [.aload 0, .getfield 577, .aload 0, .getfield 576, .invokeinterface 66 2, .iconst 0, .istore 2, .goto_w 2] := rfl
theorem zb_153_2 : zB 153 2 = [.iload 2, .iload 1, .if_icmp .ge 4, .aload 0, .getfield 584, .aload 0, .getfield 576, .iload 2, .invokeinterface 113 3, .ifCond .eq 3, .aload 0, .getfield 576, .aload 0, .getfield 577, .invokeinterface 66 2, .iconst (-1000), .iload 2, .isub, .ireturn] := rfl
theorem zb_153_3 : zB 153 3 = [.aload 0, .getfield 584, .aload 0, .getfield 576, .iload 2, .invokeinterface 114 3, .iinc 2 1, .goto 2] := rfl
theorem zb_153_4 : zB 153 4 = [.aload 0, .getfield 578, .aload 0, .getfield 577, .invokeinterface 32 2, .iload 1, .ireturn] := rfl
theorem zb_154_0 : zB 154 0 = [.aload 0, .getfield 578, .invokeinterface 34 1, .invokeinterface 156 1, .aload 0, .getfield 578, .aload 0, .getfield 576, .invokeinterface 35 2, .ireturn] := rfl
theorem zb_155_0 : zB 155 0 = [.aload 0, .getfield 579, .aload 0, .getfield 576, .invokeinterface 25 2, .jsr_w 57381, .aload 0, .getfield 576, .getfield 448, .i2l, .ladd, .lstore 1, .iconst 0, .istore 3, .goto_w 1] := rfl
theorem zb_155_1 : zB 155 1 = [.iload 3, .aload 0, .getfield 576, .getfield 448, .if_icmp .ge 4, .iconst 0, .istore 4, .goto_w 2] := rfl
theorem zb_155_2 : zB 155 2 = [.iload 4, .iconst 10, .if_icmp .gt 3, .jsr_w 31, .lload 1, .lmul, .aload 0, .getfield 576, .iload 3, .iload 4, .invokeinterface 80 3, .i2l, .ladd, .lstore 1, .iinc 4 1, .goto 2] := rfl
theorem zb_155_3 : zB 155 3 = [.jsr_w 31, .lload 1, .lmul, .aload 0, .getfield 579, .getfield 132, .iload 3, .iaload, .i2l, .ladd, .lstore 1, .iinc 3 1, .goto 1] := rfl
theorem zb_155_4 : zB 155 4 = [.jsr_w 31, .lload 1, .lmul, .aload 0, .getfield 576, .getfield 449, .i2l, .ladd, .lstore 1, .iconst 0, .istore 3, .goto_w 5] := rfl
theorem zb_155_5 : zB 155 5 = [.iload 3, .aload 0, .getfield 576, .getfield 449, .if_icmp .ge 8, .iconst 0, .istore 4, .goto_w 6] := rfl
theorem zb_155_6 : zB 155 6 = [.iload 4, .iconst 5, .if_icmp .gt 7, .jsr_w 31, .lload 1, .lmul, .aload 0, .getfield 576, .getfield 451, .iload 4, .aaload, .iload 3, .iaload, .i2l, .ladd, .lstore 1, .iinc 4 1, .goto 6] := rfl
theorem zb_155_7 : zB 155 7 = [.iinc 3 1, .goto 5] := rfl
theorem zb_155_8 : zB 155 8 = [.jsr_w 31, .lload 1, .lmul, .aload 0, .getfield 579, .aload 0, .getfield 576, .invokeinterface 27 2, .i2l, .ladd, .lstore 1, .jsr_w 31, .lload 1, .lmul, .aload 0, .getfield 576, .invokeinterface 92 1, .i2l, .ladd, .lstore 1, .jsr_w 31, .lload 1, .lmul, .aload 0, .getfield 582, .aload 0, .getfield 576, .iconst 2, .invokeinterface 38 3, .i2l, .ladd, .lstore 1, .jsr_w 31, .lload 1, .lmul, .aload 0, .getfield 582, .aload 0, .getfield 576, .invokeinterface 42 2, .i2l, .ladd, .lstore 1, .jsr_w 31, .lload 1, .lmul, .aload 0, .getfield 584, .getfield 513, .i2l, .ladd, .lstore 1, .jsr_w 31, .lload 1, .lmul, .aload 0, .getfield 578, .getfield 193, .i2l, .ladd, .lreturn] := rfl
theorem zb_157_0 : zB 157 0 = [.iload 0, .iload 1, .if_icmp .lt 1, .iload 0, .iload 2, .if_icmp .le 2, .goto_w 1] := rfl
theorem zb_157_1 : zB 157 1 = [.iconst 2, .goto 3] := rfl
theorem zb_157_2 : zB 157 2 = [.iconst 0, .goto_w 3] := rfl
theorem zb_157_3 : zB 157 3 = [.ireturn] := rfl
theorem zb_158_0 : zB 158 0 = [.iload 0, .iload 1, .ishr, .iconst 1, .iand, .ifCond .eq 1, .iconst 1, .goto 2] := rfl
theorem zb_158_1 : zB 158 1 = [.iconst 0, .goto_w 2] := rfl
theorem zb_158_2 : zB 158 2 = [.ireturn] := rfl
theorem zb_159_0 : zB 159 0 = [.fload 0, .f2d, .dstore 1, .dload 1, .jsr 0, .dcmp .g, .ifCond .gt 1, .iconst 0, .ireturn] := rfl
theorem zb_159_1 : zB 159 1 = [.iconst 127, .istore 3, .goto_w 2] := rfl
theorem zb_159_2 : zB 159 2 = [.dload 1, .jsr 4607182418800017408, .dcmp .g, .ifCond .ge 3, .iload 3, .iconst 1, .if_icmp .le 3, .dload 1, .jsr 4611686018427387904, .dmul, .dstore 1, .iinc 3 (-1), .goto 2] := rfl
theorem zb_159_3 : zB 159 3 = [.dload 1, .jsr 4607182418800017408, .dcmp .g, .ifCond .ge 4, .dload 1, .jsr 4710765210229538816, .dmul, .d2i, .ireturn] := rfl
theorem zb_159_4 : zB 159 4 = [.iload 3, .iconst 23, .ishl, .dload 1, .jsr 4607182418800017408, .dsub, .jsr 4710765210229538816, .dmul, .d2i, .iadd, .ireturn] := rfl
theorem zb_160_0 : zB 160 0 = [.aload 0, .pop, .aload 0, .iconst 230, .newarray .int, .putfield 640, .aload 0, .iconst 920, .newarray .int, .putfield 641, .aload 0, .iconst 230, .newarray .int, .putfield 642, .aload 0, .iconst 120, .newarray .int, .putfield 644, .aload 0, .iconst 12, .newarray .int, .putfield 647, .aload 0, .iconst 12, .newarray .int, .putfield 648, .aload 0, .iconst 12, .newarray .int, .putfield 650, .aload 0, .iconst 13, .newarray .int, .putfield 651, .aload 0, .iconst 13, .newarray .int, .putfield 652, .aload 0, .iconst 13, .newarray .int, .putfield 653, .aload 0, .iconst 13, .newarray .int, .putfield 654, .aload 0, .iconst 13, .newarray .int, .putfield 655, .aload 0, .iconst 13, .newarray .int, .putfield 656, .aload 0, .iconst 13, .newarray .int, .putfield 657, .aload 0, .iconst 13, .newarray .boolean, .putfield 658, .aload 0, .iconst 13, .newarray .int, .putfield 659, .aload 0, .iconst 240, .newarray .int, .putfield 668, .aload 0, .iconst 800, .newarray .int, .putfield 669, .aload 0, .iconst 6, .newarray .int, .putfield 670, .aload 0, .iconst 240, .newarray .int, .putfield 671, .aload 0, .iconst 800, .newarray .int, .putfield 672, .aload 0, .iconst 12, .newarray .int, .putfield 675, .aload 0, .iconst 12, .newarray .int, .putfield 677, .aload 0, .iconst 4096, .newarray .int, .putfield 678, .aload 0, .iconst 4096, .newarray .boolean, .putfield 679, .aload 0, .iconst 5, .newarray .int, .putfield 682, .aload 0, .getfield 640, .iconst 0, .iconst 0, .iastore, .return_] := rfl
theorem zb_161_0 : zB 161 0 = [.aload 0, .getfield 646, .ireturn] := rfl
theorem zb_162_0 : zB 162 0 = [.iload 0, .iload 1, .if_icmp .lt 1, .iload 0, .iload 2, .if_icmp .gt 1, .iconst 1, .goto 2] := rfl
theorem zb_162_1 : zB 162 1 = [.iconst 0, .goto_w 2] := rfl
theorem zb_162_2 : zB 162 2 = [.ireturn] := rfl
theorem zb_163_0 : zB 163 0 = [.aload 0, .iload 1, .putfield 646, .iconst 0, .ireturn] := rfl
theorem zb_164_0 : zB 164 0 = [.aload 0, .iconst 0, .putfield 646, .iload 1, .ireturn] := rfl
theorem zb_165_0 : zB 165 0 = [.iconst 0, .istore 1, .goto_w 1] := rfl
theorem zb_165_1 : zB 165 1 = [.iload 1, .iconst 230, .if_icmp .ge 2, .aload 0, .getfield 642, .iload 1, .aload 0, .getfield 640, .iload 1, .iaload, .iastore, .iinc 1 1, .goto 1] := rfl
theorem zb_165_2 : zB 165 2 = [.return_] := rfl
theorem zb_166_0 : zB 166 0 = [.iconst 0, .istore 1, .goto_w 1] := rfl
theorem zb_166_1 : zB 166 1 = [.iload 1, .iconst 230, .if_icmp .ge 2, .aload 0, .getfield 640, .iload 1, .aload 0, .getfield 642, .iload 1, .iaload, .iastore, .iinc 1 1, .goto 1] := rfl
theorem zb_166_2 : zB 166 2 = [.return_] := rfl
theorem zb_167_0 : zB 167 0 = [.aload 0, .getfield 643, .iconst 4, .if_icmp .ne 3, .iconst 0, .istore 2, .goto_w 1] := rfl
theorem zb_167_1 : zB 167 1 = [.iload 2, .iconst 690, .if_icmp .ge 2, .aload 0, .getfield 641, .iload 2, .aload 0, .getfield 641, .iload 2, .iconst 230, .iadd, .iaload, .iastore, .iinc 2 1, .goto 1] := rfl
theorem zb_167_2 : zB 167 2 = [.aload 0, .dup, .getfield 643, .iconst 1, .isub, .putfield 643, .goto_w 3] := rfl
theorem zb_167_3 : zB 167 3 = [.iconst 0, .istore 2, .goto_w 4] := rfl
theorem zb_167_4 : zB 167 4 = [.iload 2, .iconst 230, .if_icmp .ge 5, .aload 0, .getfield 641, .iconst 230, .aload 0, .getfield 643, .imul, .iload 2, .iadd, .aload 0, .getfield 642, .iload 2, .iaload, .iastore, .iinc 2 1, .goto 4] := rfl
theorem zb_167_5 : zB 167 5 = [.aload 0, .dup, .getfield 643, .iconst 1, .iadd, .putfield 643, .aload 0, .iload 1, .invokeinterface 164 2, .ireturn] := rfl
theorem zb_168_0 : zB 168 0 = [.aload 0, .getfield 640, .iconst 2, .iconst 9, .iload 1, .imul, .iadd, .iload 2, .iadd, .iaload, .ireturn] := rfl
theorem zb_169_0 : zB 169 0 = [.aload 0, .getfield 640, .iconst 2, .iconst 9, .iload 1, .imul, .iadd, .iload 2, .iadd, .iload 3, .iastore, .return_] := rfl
theorem zb_170_0 : zB 170 0 = [.aload 0, .getfield 640, .iconst 110, .iconst 5, .iload 1, .imul, .iadd, .iload 2, .iadd, .iaload, .ireturn] := rfl
theorem zb_171_0 : zB 171 0 = [.aload 0, .iload 1, .iconst 0, .invokeinterface 170 3, .ireturn] := rfl
theorem zb_172_0 : zB 172 0 = [.aload 0, .iload 1, .iconst 1, .invokeinterface 170 3, .ireturn] := rfl
theorem zb_173_0 : zB 173 0 = [.aload 0, .iload 1, .iconst 4, .invokeinterface 170 3, .iconst 2, .if_icmp .ne 1, .iconst 1, .goto 2] := rfl
theorem zb_173_1 : zB 173 1 = [.iconst 0, .goto_w 2] := rfl
theorem zb_173_2 : zB 173 2 = [.ireturn] := rfl
theorem zb_174_0 : zB 174 0 = [.iload 1, .iconst 0, .aload 0, .getfield 640, .iconst 0, .iaload, .iconst 1, .isub, .invokeinterface 162 3, .ireturn] := rfl
theorem zb_175_0 : zB 175 0 = [.iload 1, .iconst 0, .aload 0, .getfield 640, .iconst 1, .iaload, .iconst 1, .isub, .invokeinterface 162 3, .ireturn] := rfl
theorem zb_176_0 : zB 176 0 = [.aload 0, .iload 1, .iconst 6, .invokeinterface 168 3, .iconst 1, .if_icmp .ne 1, .iconst 1, .goto 2] := rfl
theorem zb_176_1 : zB 176 1 = [.iconst 0, .goto_w 2] := rfl
theorem zb_176_2 : zB 176 2 = [.ireturn] := rfl
theorem zb_177_0 : zB 177 0 = [.aload 0, .iload 1, .iconst 0, .invokeinterface 168 3, .aload 0, .iload 1, .iconst 1, .invokeinterface 168 3, .imul, .iconst 99, .iadd, .iconst 100, .idiv, .ireturn] := rfl
theorem zb_178_0 : zB 178 0 = [.iload 2, .iconst 1, .iadd, .istore 3, .goto_w 1] := rfl
theorem zb_178_1 : zB 178 1 = [.iload 3, .aload 0, .getfield 640, .iconst 1, .iaload, .if_icmp .ge 2, .aload 0, .iload 3, .invokeinterface 171 2, .iload 1, .if_icmp .eq 2, .iinc 3 1, .goto 1] := rfl
theorem zb_178_2 : zB 178 2 = [.iload 3, .ireturn] := rfl
theorem zb_179_0 : zB 179 0 = [.iconst 0, .istore 2, .iconst 0, .istore 3, .goto_w 1] := rfl
theorem zb_179_1 : zB 179 1 = [.iload 3, .aload 0, .getfield 640, .iconst 1, .iaload, .if_icmp .ge 4, .iload 2, .aload 0, .iload 3, .invokeinterface 171 2, .iload 1, .if_icmp .ne 2, .iconst 1, .goto 3] := rfl
theorem zb_179_2 : zB 179 2 = [.iconst 0, .goto_w 3] := rfl
theorem zb_179_3 : zB 179 3 = [.iadd, .istore 2, .iinc 3 1, .goto 1] := rfl
theorem zb_179_4 : zB 179 4 = [.iload 2, .ireturn] := rfl
theorem zb_180_0 : zB 180 0 = [.iconst 0, .istore 1, .goto_w 1] := rfl
theorem zb_180_1 : zB 180 1 = [.iload 1, .iconst 12, .if_icmp .ge 2, .aload 0, .getfield 647, .iload 1, .iconst 0, .iastore, .iinc 1 1, .goto 1] := rfl
theorem zb_180_2 : zB 180 2 = [.iconst 1, .istore 1, .goto_w 3] := rfl
theorem zb_180_3 : zB 180 3 = [.iload 1, .ifCond .eq 9, .iconst 0, .istore 1, .iconst 0, .istore 2, .goto_w 4] := rfl
theorem zb_180_4 : zB 180 4 = [.iload 2, .aload 0, .getfield 640, .iconst 1, .iaload, .if_icmp .ge 8, .aload 0, .getfield 647, .aload 0, .iload 2, .invokeinterface 171 2, .iaload, .iconst 1, .aload 0, .iload 2, .invokeinterface 172 2, .ishl, .ior, .aload 0, .getfield 647, .aload 0, .iload 2, .invokeinterface 172 2, .iaload, .ior, .istore 3, .iload 1, .ifCond .ne 5, .iload 3, .aload 0, .getfield 647, .aload 0, .iload 2, .invokeinterface 171 2, .iaload, .if_icmp .eq 6, .goto_w 5] := rfl
theorem zb_180_5 : zB 180 5 = [.iconst 1, .goto 7] := rfl
theorem zb_180_6 : zB 180 6 = [.iconst 0, .goto_w 7] := rfl
theorem zb_180_7 : zB 180 7 = [.istore 1, .aload 0, .getfield 647, .aload 0, .iload 2, .invokeinterface 171 2, .iload 3, .iastore, .iinc 2 1, .goto 4] := rfl
theorem zb_180_8 : zB 180 8 = [.goto 3] := rfl
theorem zb_180_9 : zB 180 9 = [.return_] := rfl
theorem zb_181_0 : zB 181 0 = [.aload 0, .invokeinterface 180 1, .iconst 0, .istore 1, .iconst 0, .istore 2, .goto_w 1] := rfl
theorem zb_181_1 : zB 181 1 = [.iload 2, .aload 0, .getfield 640, .iconst 0, .iaload, .if_icmp .ge 5, .iconst 0, .istore 3, .goto_w 2] := rfl
theorem zb_181_2 : zB 181 2 = [.iload 1, .iload 3, .ishr, .iconst 1, .iand, .iconst 1, .if_icmp .eq 3, .aload 0, .getfield 647, .iload 3, .iaload, .iload 1, .iconst (-1), .ixor, .iand, .ifCond .eq 4, .goto_w 3] := rfl
theorem zb_181_3 : zB 181 3 = [.iinc 3 1, .goto 2] := rfl
theorem zb_181_4 : zB 181 4 = [.aload 0, .getfield 648, .iload 2, .iload 3, .iastore, .iload 1, .iconst 1, .iload 3, .ishl, .ior, .istore 1, .iinc 2 1, .goto 1] := rfl
theorem zb_181_5 : zB 181 5 = [.return_] := rfl
theorem zb_182_0 : zB 182 0 = [.aload 0, .invokeinterface 180 1, .aload 0, .getfield 647, .iload 1, .iaload, .iload 2, .ishr, .iconst 1, .iand, .iconst 1, .if_icmp .ne 1, .iconst 1, .goto 2] := rfl
theorem zb_182_1 : zB 182 1 = [.iconst 0, .goto_w 2] := rfl
theorem zb_182_2 : zB 182 2 = [.ireturn] := rfl
theorem zb_183_0 : zB 183 0 = [.iload 1, .iconst 1, .iconst 100, .invokeinterface 162 3, .ifCond .ne 1, .iconst 1, .ireturn] := rfl
theorem zb_183_1 : zB 183 1 = [.aload 0, .getfield 640, .iconst 0, .iaload, .iconst 12, .if_icmp .ne 2, .iconst 2, .ireturn] := rfl
theorem zb_183_2 : zB 183 2 = [.aload 0, .getfield 640, .iconst 0, .iaload, .istore 2, .aload 0, .iload 2, .iconst 0, .iload 1, .invokeinterface 169 4, .aload 0, .iload 2, .iconst 1, .iconst 100, .invokeinterface 169 4, .aload 0, .iload 2, .iconst 2, .iconst 2, .invokeinterface 169 4, .aload 0, .iload 2, .iconst 3, .iconst 3, .invokeinterface 169 4, .aload 0, .iload 2, .iconst 4, .iconst 1, .invokeinterface 169 4, .aload 0, .iload 2, .iconst 5, .iconst 990, .invokeinterface 169 4, .aload 0, .iload 2, .iconst 6, .iconst 1, .invokeinterface 169 4, .aload 0, .iload 2, .iconst 7, .iconst 0, .invokeinterface 169 4, .aload 0, .iload 2, .iconst 8, .iconst (-1), .invokeinterface 169 4, .aload 0, .getfield 640, .iconst 0, .dup2, .iaload, .iconst 1, .iadd, .iastore, .aload 0, .iload 2, .putfield 649, .iconst 0, .ireturn] := rfl
theorem zb_184_0 : zB 184 0 = [.aload 0, .iload 1, .invokeinterface 174 2, .ifCond .eq 1, .aload 0, .iload 2, .invokeinterface 174 2, .ifCond .ne 2, .goto_w 1] := rfl
theorem zb_184_1 : zB 184 1 = [.iconst 1, .ireturn] := rfl
theorem zb_184_2 : zB 184 2 = [.iload 3, .iconst 1, .iconst 500, .invokeinterface 162 3, .ifCond .eq 3, .iload 4, .iconst 1, .iconst 3, .invokeinterface 162 3, .ifCond .eq 3, .iload 5, .iconst 0, .iconst 2, .invokeinterface 162 3, .ifCond .ne 4, .goto_w 3] := rfl
theorem zb_184_3 : zB 184 3 = [.iconst 2, .ireturn] := rfl
theorem zb_184_4 : zB 184 4 = [.iload 1, .iload 2, .if_icmp .eq 6, .aload 0, .iload 2, .iload 1, .invokeinterface 182 3, .ifCond .ne 6, .iload 5, .iconst 2, .if_icmp .ne 5, .aload 0, .iload 1, .invokeinterface 179 2, .ifCond .eq 6, .goto_w 5] := rfl
theorem zb_184_5 : zB 184 5 = [.aload 0, .getfield 640, .iconst 1, .iaload, .iconst 24, .if_icmp .ne 7, .goto_w 6] := rfl
theorem zb_184_6 : zB 184 6 = [.iconst 3, .ireturn] := rfl
theorem zb_184_7 : zB 184 7 = [.iconst 110, .iconst 5, .aload 0, .getfield 640, .iconst 1, .iaload, .imul, .iadd, .istore 6, .aload 0, .getfield 640, .iload 6, .iload 1, .iastore, .aload 0, .getfield 640, .iload 6, .iconst 1, .iadd, .iload 2, .iastore, .aload 0, .getfield 640, .iload 6, .iconst 2, .iadd, .iload 3, .iastore, .aload 0, .getfield 640, .iload 6, .iconst 3, .iadd, .iload 4, .iastore, .aload 0, .getfield 640, .iload 6, .iconst 4, .iadd, .iload 5, .iastore, .aload 0, .aload 0, .getfield 640, .iconst 1, .iaload, .putfield 649, .aload 0, .getfield 640, .iconst 1, .dup2, .iaload, .iconst 1, .iadd, .iastore, .iconst 0, .ireturn] := rfl
theorem zb_185_0 : zB 185 0 = [.iload 0, .lookupswitch 6 #[(0, 1), (1, 2), (2, 3), (3, 4), (4, 3), (5, 5)]] := rfl
theorem zb_185_1 : zB 185 1 = [.iload 1, .iconst 1, .iconst 100, .invokeinterface 162 3, .ireturn] := rfl
theorem zb_185_2 : zB 185 2 = [.iload 1, .iconst 50, .iconst 400, .invokeinterface 162 3, .ireturn] := rfl
theorem zb_185_3 : zB 185 3 = [.iload 1, .iconst 1, .iconst 9, .invokeinterface 162 3, .ireturn] := rfl
theorem zb_185_4 : zB 185 4 = [.iload 1, .iconst 1, .iconst 20, .invokeinterface 162 3, .ireturn] := rfl
theorem zb_185_5 : zB 185 5 = [.iload 1, .iconst 0, .iconst 1000, .invokeinterface 162 3, .ireturn] := rfl
theorem zb_185_6 : zB 185 6 = [.iconst 0, .ireturn] := rfl
theorem zb_186_0 : zB 186 0 = [.aload 0, .iload 2, .invokeinterface 174 2, .ifCond .ne 1, .iconst 1, .ireturn] := rfl
theorem zb_186_1 : zB 186 1 = [.iload 1, .iload 3, .invokeinterface 185 2, .ifCond .ne 2, .iconst 2, .ireturn] := rfl
theorem zb_186_2 : zB 186 2 = [.aload 0, .aload 0, .iload 2, .iload 1, .invokeinterface 168 3, .putfield 649, .aload 0, .iload 2, .iload 1, .iload 3, .invokeinterface 169 4, .iconst 0, .ireturn] := rfl
theorem zb_187_0 : zB 187 0 = [.iconst 0, .istore 1, .iconst 0, .istore 2, .goto_w 1] := rfl
theorem zb_187_1 : zB 187 1 = [.iload 2, .aload 0, .getfield 640, .iconst 0, .iaload, .if_icmp .ge 2, .iload 1, .aload 0, .iload 2, .iconst 6, .invokeinterface 168 3, .iadd, .istore 1, .iinc 2 1, .goto 1] := rfl
theorem zb_187_2 : zB 187 2 = [.iload 1, .ireturn] := rfl
theorem zb_188_0 : zB 188 0 = [.aload 0, .iload 1, .invokeinterface 174 2, .ifCond .ne 1, .iconst 1, .ireturn] := rfl
theorem zb_188_1 : zB 188 1 = [.aload 0, .iload 1, .invokeinterface 176 2, .ifCond .ne 2, .iconst 2, .ireturn] := rfl
theorem zb_188_2 : zB 188 2 = [.aload 0, .iload 1, .invokeinterface 189 2, .aload 0, .aload 0, .invokeinterface 187 1, .putfield 649, .iconst 0, .ireturn] := rfl
theorem zb_189_0 : zB 189 0 = [.aload 0, .iload 1, .iconst 6, .iconst 0, .invokeinterface 169 4, .aload 0, .iload 1, .iconst 7, .iconst 0, .invokeinterface 169 4, .aload 0, .iload 1, .iconst 8, .iconst (-1), .invokeinterface 169 4, .return_] := rfl
theorem zb_190_0 : zB 190 0 = [.aload 0, .iload 1, .invokeinterface 174 2, .ifCond .ne 1, .iconst 1, .ireturn] := rfl
theorem zb_190_1 : zB 190 1 = [.aload 0, .iload 1, .invokeinterface 176 2, .ifCond .ne 2, .aload 0, .iload 1, .iconst 8, .invokeinterface 168 3, .iconst (-1), .if_icmp .eq 3, .goto_w 2] := rfl
theorem zb_190_2 : zB 190 2 = [.iconst 2, .ireturn] := rfl
theorem zb_190_3 : zB 190 3 = [.aload 0, .iload 1, .iconst 8, .aload 0, .iload 1, .iconst 3, .invokeinterface 168 3, .invokeinterface 169 4, .aload 0, .aload 0, .iload 1, .iconst 8, .invokeinterface 168 3, .putfield 649, .iconst 0, .ireturn] := rfl
theorem zb_191_0 : zB 191 0 = [.iload 1, .iconst 1, .iconst 50, .invokeinterface 162 3, .ifCond .ne 1, .iconst 1, .ireturn] := rfl
theorem zb_191_1 : zB 191 1 = [.iconst 0, .istore 2, .goto_w 2] := rfl
theorem zb_191_2 : zB 191 2 = [.iload 2, .iload 1, .if_icmp .ge 3, .aload 0, .invokeinterface 231 1, .istore 3, .aload 0, .iload 3, .putfield 649, .iinc 2 1, .goto 2] := rfl
theorem zb_191_3 : zB 191 3 = [.aload 0, .aload 0, .invokeinterface 187 1, .putfield 649, .iconst 0, .ireturn] := rfl
theorem zb_192_0 : zB 192 0 = [.iload 1, .ifCond .le 1, .aload 0, .iload 1, .invokeinterface 163 2, .goto 2] := rfl
theorem zb_192_1 : zB 192 1 = [.aload 0, .aload 0, .getfield 649, .invokeinterface 167 2, .goto_w 2] := rfl
theorem zb_192_2 : zB 192 2 = [.ireturn] := rfl
theorem zb_193_0 : zB 193 0 = [.aload 0, .invokeinterface 165 1, .aload 0, .aload 0, .iload 1, .invokeinterface 183 2, .invokeinterface 192 2, .ireturn] := rfl
theorem zb_194_0 : zB 194 0 = [.aload 0, .invokeinterface 165 1, .aload 0, .aload 0, .iload 1, .iload 2, .iload 3, .iload 4, .iload 5, .invokeinterface 184 6, .invokeinterface 192 2, .ireturn] := rfl
theorem zb_195_0 : zB 195 0 = [.iconst (-1), .istore 2, .iconst 0, .istore 3, .goto_w 1] := rfl
theorem zb_195_1 : zB 195 1 = [.iload 3, .iload 1, .if_icmp .ge 4, .aload 0, .iload 1, .invokeinterface 173 2, .ifCond .eq 4, .aload 0, .iload 3, .invokeinterface 171 2, .aload 0, .iload 1, .invokeinterface 171 2, .if_icmp .ne 2, .aload 0, .iload 3, .invokeinterface 173 2, .ifCond .ne 2, .iload 3, .goto 3] := rfl
theorem zb_195_2 : zB 195 2 = [.iload 2, .goto_w 3] := rfl
theorem zb_195_3 : zB 195 3 = [.istore 2, .iinc 3 1, .goto 1] := rfl
theorem zb_195_4 : zB 195 4 = [.iload 2, .ireturn] := rfl
theorem zb_196_0 : zB 196 0 = [.aload 0, .iload 1, .invokeinterface 175 2, .ifCond .ne 1, .aload 0, .iconst 1, .invokeinterface 163 2, .ireturn] := rfl
theorem zb_196_1 : zB 196 1 = [.iload 1, .iconst 1, .iadd, .istore 2, .goto_w 2] := rfl
theorem zb_196_2 : zB 196 2 = [.iload 2, .aload 0, .getfield 640, .iconst 1, .iaload, .if_icmp .ge 4, .aload 0, .iload 2, .invokeinterface 195 2, .iload 1, .if_icmp .ne 3, .aload 0, .iconst 2, .invokeinterface 163 2, .ireturn] := rfl
theorem zb_196_3 : zB 196 3 = [.iinc 2 1, .goto 2] := rfl
theorem zb_196_4 : zB 196 4 = [.aload 0, .invokeinterface 165 1, .aload 0, .getfield 640, .iconst 1, .dup2, .iaload, .iconst 1, .isub, .iastore, .iconst 110, .iconst 5, .iload 1, .imul, .iadd, .istore 2, .goto_w 5] := rfl
theorem zb_196_5 : zB 196 5 = [.iload 2, .iconst 110, .iconst 5, .aload 0, .getfield 640, .iconst 1, .iaload, .imul, .iadd, .if_icmp .ge 6, .aload 0, .getfield 640, .iload 2, .aload 0, .getfield 640, .iload 2, .iconst 5, .iadd, .iaload, .iastore, .iinc 2 1, .goto 5] := rfl
theorem zb_196_6 : zB 196 6 = [.aload 0, .aload 0, .getfield 640, .iconst 1, .iaload, .invokeinterface 167 2, .ireturn] := rfl
theorem zb_197_0 : zB 197 0 = [.aload 0, .invokeinterface 165 1, .aload 0, .aload 0, .iload 1, .iload 2, .iload 3, .invokeinterface 186 4, .invokeinterface 192 2, .ireturn] := rfl
theorem zb_198_0 : zB 198 0 = [.aload 0, .iload 1, .invokeinterface 175 2, .ifCond .ne 1, .aload 0, .iconst 1, .invokeinterface 163 2, .ireturn] := rfl
theorem zb_198_1 : zB 198 1 = [.iload 2, .iconst 1, .iconst 500, .invokeinterface 162 3, .ifCond .ne 2, .aload 0, .iconst 2, .invokeinterface 163 2, .ireturn] := rfl
theorem zb_198_2 : zB 198 2 = [.aload 0, .invokeinterface 165 1, .aload 0, .iload 1, .iconst 2, .invokeinterface 170 3, .istore 3, .aload 0, .getfield 640, .iconst 110, .iconst 5, .iload 1, .imul, .iadd, .iconst 2, .iadd, .iload 2, .iastore, .aload 0, .iload 3, .invokeinterface 167 2, .ireturn] := rfl
theorem zb_199_0 : zB 199 0 = [.aload 0, .aload 0, .getfield 640, .iconst 0, .iaload, .invokeinterface 164 2, .ireturn] := rfl
theorem zb_200_0 : zB 200 0 = [.aload 0, .aload 0, .getfield 640, .iconst 1, .iaload, .invokeinterface 164 2, .ireturn] := rfl
theorem zb_201_0 : zB 201 0 = [.iload 2, .iconst 9, .if_icmp .ge 1, .aload 0, .iload 1, .iload 2, .invokeinterface 168 3, .goto 3] := rfl
theorem zb_201_1 : zB 201 1 = [.iload 2, .iconst 9, .if_icmp .ne 2, .aload 0, .iload 1, .invokeinterface 177 2, .goto 3] := rfl
theorem zb_201_2 : zB 201 2 = [.aload 0, .iload 1, .invokeinterface 179 2, .goto_w 3] := rfl
theorem zb_201_3 : zB 201 3 = [.ireturn] := rfl
theorem zb_202_0 : zB 202 0 = [.aload 0, .iload 1, .invokeinterface 174 2, .ifCond .ne 1, .aload 0, .iconst 1, .invokeinterface 163 2, .ireturn] := rfl
theorem zb_202_1 : zB 202 1 = [.iload 2, .iconst 0, .iconst 10, .invokeinterface 162 3, .ifCond .eq 2, .aload 0, .aload 0, .iload 1, .iload 2, .invokeinterface 201 3, .invokeinterface 164 2, .goto 3] := rfl
theorem zb_202_2 : zB 202 2 = [.aload 0, .iconst 2, .invokeinterface 163 2, .goto_w 3] := rfl
theorem zb_202_3 : zB 202 3 = [.ireturn] := rfl
theorem zb_203_0 : zB 203 0 = [.iload 2, .iconst 5, .if_icmp .ge 1, .aload 0, .iload 1, .iload 2, .invokeinterface 170 3, .goto 2] := rfl
theorem zb_203_1 : zB 203 1 = [.aload 0, .iload 1, .invokeinterface 195 2, .goto_w 2] := rfl
theorem zb_203_2 : zB 203 2 = [.ireturn] := rfl
theorem zb_204_0 : zB 204 0 = [.aload 0, .iload 1, .invokeinterface 175 2, .ifCond .ne 1, .aload 0, .iconst 1, .invokeinterface 163 2, .ireturn] := rfl
theorem zb_204_1 : zB 204 1 = [.iload 2, .iconst 0, .iconst 5, .invokeinterface 162 3, .ifCond .eq 2, .aload 0, .aload 0, .iload 1, .iload 2, .invokeinterface 203 3, .invokeinterface 164 2, .goto 3] := rfl
theorem zb_204_2 : zB 204 2 = [.aload 0, .iconst 2, .invokeinterface 163 2, .goto_w 3] := rfl
theorem zb_204_3 : zB 204 3 = [.ireturn] := rfl
theorem zb_205_0 : zB 205 0 = [.aload 0, .iload 1, .invokeinterface 174 2, .ifCond .eq 1, .aload 0, .iload 2, .invokeinterface 174 2, .ifCond .ne 4, .goto_w 1] := rfl
theorem zb_205_1 : zB 205 1 = [.aload 0, .iconst 1, .invokeinterface 163 2, .ifCond .eq 2, .iconst 1, .goto 3] := rfl
theorem zb_205_2 : zB 205 2 = [.iconst 0, .goto_w 3] := rfl
theorem zb_205_3 : zB 205 3 = [.ireturn] := rfl
theorem zb_205_4 : zB 205 4 = [.aload 0, .iconst 0, .putfield 646, .aload 0, .iload 1, .iload 2, .invokeinterface 182 3, .ireturn] := rfl
theorem zb_206_0 : zB 206 0 = [.aload 0, .invokeinterface 181 1, .aload 0, .aload 0, .iload 1, .invokeinterface 174 2, .ifCond .eq 1, .aload 0, .getfield 648, .iload 1, .iaload, .goto 2] := rfl
theorem zb_206_1 : zB 206 1 = [.iconst (-1), .goto_w 2] := rfl
theorem zb_206_2 : zB 206 2 = [.invokeinterface 164 2, .ireturn] := rfl
theorem zb_207_0 : zB 207 0 = [.aload 0, .invokeinterface 181 1, .iconst 0, .istore 1, .goto_w 1] := rfl
theorem zb_207_1 : zB 207 1 = [.iload 1, .aload 0, .getfield 640, .iconst 0, .iaload, .if_icmp .ge 8, .aload 0, .getfield 648, .iload 1, .iaload, .istore 2, .aload 0, .getfield 650, .iload 2, .iconst 0, .iastore, .iconst 0, .istore 3, .goto_w 2] := rfl
theorem zb_207_2 : zB 207 2 = [.iload 3, .aload 0, .getfield 640, .iconst 1, .iaload, .if_icmp .ge 7, .aload 0, .iload 3, .invokeinterface 171 2, .iload 2, .if_icmp .ne 3, .aload 0, .getfield 650, .aload 0, .iload 3, .invokeinterface 172 2, .iaload, .iconst 1, .iadd, .goto 4] := rfl
theorem zb_207_3 : zB 207 3 = [.iconst 0, .goto_w 4] := rfl
theorem zb_207_4 : zB 207 4 = [.istore 4, .aload 0, .getfield 650, .iload 2, .iload 4, .aload 0, .getfield 650, .iload 2, .iaload, .if_icmp .le 5, .iload 4, .goto 6] := rfl
theorem zb_207_5 : zB 207 5 = [.aload 0, .getfield 650, .iload 2, .iaload, .goto_w 6] := rfl
theorem zb_207_6 : zB 207 6 = [.iastore, .iinc 3 1, .goto 2] := rfl
theorem zb_207_7 : zB 207 7 = [.iinc 1 1, .goto 1] := rfl
theorem zb_207_8 : zB 207 8 = [.return_] := rfl
theorem zb_208_0 : zB 208 0 = [.aload 0, .iload 1, .invokeinterface 174 2, .ifCond .ne 1, .aload 0, .iconst 1, .invokeinterface 163 2, .ireturn] := rfl
theorem zb_208_1 : zB 208 1 = [.aload 0, .invokeinterface 207 1, .aload 0, .aload 0, .getfield 650, .iload 1, .iaload, .invokeinterface 164 2, .ireturn] := rfl
theorem zb_209_0 : zB 209 0 = [.aload 0, .getfield 663, .iconst 60, .if_icmp .ge 1, .aload 0, .getfield 668, .iconst 4, .aload 0, .getfield 663, .imul, .aload 0, .getfield 651, .aload 0, .getfield 660, .iaload, .iastore, .aload 0, .getfield 668, .iconst 4, .aload 0, .getfield 663, .imul, .iconst 1, .iadd, .iload 1, .iastore, .aload 0, .getfield 668, .iconst 4, .aload 0, .getfield 663, .imul, .iconst 2, .iadd, .aload 0, .getfield 652, .aload 0, .getfield 660, .iaload, .aload 0, .getfield 654, .aload 0, .getfield 660, .iaload, .iadd, .iastore, .aload 0, .getfield 668, .iconst 4, .aload 0, .getfield 663, .imul, .iconst 3, .iadd, .aload 0, .getfield 653, .aload 0, .getfield 660, .iaload, .iastore, .aload 0, .dup, .getfield 663, .iconst 1, .iadd, .putfield 663, .goto_w 1] := rfl
theorem zb_209_1 : zB 209 1 = [.aload 0, .aload 0, .getfield 665, .iconst (-1), .if_icmp .ne 2, .iload 1, .iconst 3, .if_icmp .ge 2, .aload 0, .getfield 651, .aload 0, .getfield 660, .iaload, .goto 3] := rfl
theorem zb_209_2 : zB 209 2 = [.aload 0, .getfield 665, .goto_w 3] := rfl
theorem zb_209_3 : zB 209 3 = [.putfield 665, .aload 0, .aload 0, .getfield 666, .iconst (-1), .if_icmp .ne 4, .aload 0, .getfield 651, .aload 0, .getfield 660, .iaload, .goto 5] := rfl
theorem zb_209_4 : zB 209 4 = [.aload 0, .getfield 666, .goto_w 5] := rfl
theorem zb_209_5 : zB 209 5 = [.putfield 666, .return_] := rfl
theorem zb_210_0 : zB 210 0 = [.aload 0, .getfield 651, .aload 0, .getfield 660, .iload 1, .iastore, .aload 0, .getfield 652, .aload 0, .getfield 660, .iload 2, .iastore, .aload 0, .getfield 653, .aload 0, .getfield 660, .iload 3, .iastore, .aload 0, .getfield 654, .aload 0, .getfield 660, .iconst 0, .iastore, .aload 0, .dup, .getfield 667, .iconst 1, .iadd, .putfield 667, .return_] := rfl
theorem zb_211_0 : zB 211 0 = [.aload 0, .getfield 651, .aload 0, .getfield 660, .iaload, .istore 1, .aload 0, .iconst 0, .putfield 674, .aload 0, .iload 1, .invokeinterface 176 2, .ifCond .ne 1, .aload 0, .iconst 1, .invokeinterface 209 2, .iconst 0, .ireturn] := rfl
theorem zb_211_1 : zB 211 1 = [.aload 0, .iload 1, .invokeinterface 177 2, .aload 0, .getfield 653, .aload 0, .getfield 660, .iaload, .if_icmp .le 2, .aload 0, .getfield 654, .aload 0, .getfield 660, .aload 0, .getfield 653, .aload 0, .getfield 660, .iaload, .iastore, .aload 0, .iconst 2, .invokeinterface 209 2, .iconst 0, .ireturn] := rfl
theorem zb_211_2 : zB 211 2 = [.aload 0, .getfield 654, .aload 0, .getfield 660, .aload 0, .iload 1, .invokeinterface 177 2, .iastore, .aload 0, .aload 0, .iload 1, .iconst (-1), .invokeinterface 178 3, .invokeinterface 212 2, .iconst 1, .ireturn] := rfl
theorem zb_212_0 : zB 212 0 = [.aload 0, .getfield 655, .aload 0, .getfield 660, .iload 1, .iastore, .aload 0, .getfield 656, .aload 0, .getfield 660, .iload 1, .iastore, .aload 0, .getfield 657, .aload 0, .getfield 660, .iconst 0, .iastore, .aload 0, .getfield 658, .aload 0, .getfield 660, .iconst 0, .bastore, .return_] := rfl
theorem zb_213_0 : zB 213 0 = [.aload 0, .getfield 651, .aload 0, .getfield 660, .iaload, .istore 1, .aload 0, .getfield 655, .aload 0, .getfield 660, .iaload, .istore 2, .iload 2, .aload 0, .getfield 640, .iconst 1, .iaload, .if_icmp .ne 1, .aload 0, .iconst 1, .putfield 674, .iconst 2, .ireturn] := rfl
theorem zb_213_1 : zB 213 1 = [.aload 0, .getfield 658, .aload 0, .getfield 660, .baload, .ifCond .ne 2, .aload 0, .getfield 657, .aload 0, .getfield 660, .iaload, .aload 0, .iload 2, .iconst 3, .invokeinterface 170 3, .if_icmp .ne 3, .goto_w 2] := rfl
theorem zb_213_2 : zB 213 2 = [.aload 0, .iload 1, .iload 2, .invokeinterface 214 3, .ireturn] := rfl
theorem zb_213_3 : zB 213 3 = [.aload 0, .getfield 653, .aload 0, .getfield 660, .iaload, .aload 0, .getfield 654, .aload 0, .getfield 660, .iaload, .isub, .ifCond .gt 4, .aload 0, .iconst 3, .invokeinterface 209 2, .aload 0, .getfield 657, .aload 0, .getfield 660, .aload 0, .iload 2, .iconst 3, .invokeinterface 170 3, .iastore, .iconst 0, .ireturn] := rfl
theorem zb_213_4 : zB 213 4 = [.iconst 1, .ireturn] := rfl
theorem zb_214_0 : zB 214 0 = [.aload 0, .iload 1, .iload 2, .invokeinterface 178 3, .istore 3, .goto_w 1] := rfl
theorem zb_214_1 : zB 214 1 = [.aload 0, .getfield 658, .aload 0, .getfield 660, .baload, .ifCond .eq 2, .iload 3, .aload 0, .getfield 640, .iconst 1, .iaload, .if_icmp .ge 2, .aload 0, .iload 3, .invokeinterface 173 2, .ifCond .eq 2, .aload 0, .iload 1, .iload 3, .invokeinterface 178 3, .istore 3, .goto 1] := rfl
theorem zb_214_2 : zB 214 2 = [.aload 0, .getfield 658, .aload 0, .getfield 660, .baload, .ifCond .ne 3, .iload 3, .aload 0, .getfield 640, .iconst 1, .iaload, .if_icmp .ge 3, .aload 0, .iload 3, .invokeinterface 173 2, .ifCond .eq 3, .aload 0, .getfield 655, .aload 0, .getfield 660, .iload 3, .iastore, .aload 0, .getfield 657, .aload 0, .getfield 660, .iconst 0, .iastore, .iconst 0, .ireturn] := rfl
theorem zb_214_3 : zB 214 3 = [.aload 0, .getfield 658, .aload 0, .getfield 660, .baload, .ifCond .ne 4, .aload 0, .aload 0, .getfield 656, .aload 0, .getfield 660, .iaload, .iconst 4, .invokeinterface 170 3, .ifCond .ne 4, .aload 0, .iconst 4, .invokeinterface 209 2, .aload 0, .iconst 0, .putfield 674, .iconst 2, .ireturn] := rfl
theorem zb_214_4 : zB 214 4 = [.aload 0, .dup, .getfield 662, .aload 0, .getfield 658, .aload 0, .getfield 660, .baload, .ifCond .eq 5, .iconst 0, .goto 6] := rfl
theorem zb_214_5 : zB 214 5 = [.iconst 1, .goto_w 6] := rfl
theorem zb_214_6 : zB 214 6 = [.iadd, .putfield 662, .aload 0, .iload 3, .invokeinterface 212 2, .iconst 0, .ireturn] := rfl
theorem zb_215_0 : zB 215 0 = [.aload 0, .getfield 655, .aload 0, .getfield 660, .iaload, .istore 1, .aload 0, .getfield 653, .aload 0, .getfield 660, .iaload, .aload 0, .getfield 654, .aload 0, .getfield 660, .iaload, .isub, .istore 2, .aload 0, .iload 1, .iconst 2, .invokeinterface 170 3, .iload 2, .if_icmp .ge 1, .aload 0, .iload 1, .iconst 2, .invokeinterface 170 3, .goto 2] := rfl
theorem zb_215_1 : zB 215 1 = [.iload 2, .goto_w 2] := rfl
theorem zb_215_2 : zB 215 2 = [.istore 3, .aload 0, .getfield 652, .aload 0, .getfield 660, .iaload, .aload 0, .getfield 654, .aload 0, .getfield 660, .iaload, .iadd, .istore 4, .aload 0, .getfield 659, .aload 0, .getfield 660, .iconst (-1), .iastore, .aload 0, .getfield 664, .iconst 200, .if_icmp .ge 3, .aload 0, .getfield 669, .iconst 4, .aload 0, .getfield 664, .imul, .iload 1, .iastore, .aload 0, .getfield 669, .iconst 4, .aload 0, .getfield 664, .imul, .iconst 1, .iadd, .iload 4, .iastore, .aload 0, .getfield 669, .iconst 4, .aload 0, .getfield 664, .imul, .iconst 2, .iadd, .iload 3, .iastore, .aload 0, .getfield 669, .iconst 4, .aload 0, .getfield 664, .imul, .iconst 3, .iadd, .iconst 0, .iastore, .aload 0, .getfield 659, .aload 0, .getfield 660, .aload 0, .getfield 664, .iastore, .aload 0, .dup, .getfield 664, .iconst 1, .iadd, .putfield 664, .goto_w 3] := rfl
theorem zb_215_3 : zB 215 3 = [.aload 0, .dup, .getfield 660, .iconst 1, .iadd, .putfield 660, .aload 0, .aload 0, .iload 1, .invokeinterface 172 2, .iload 4, .iload 3, .invokeinterface 210 4, .return_] := rfl
theorem zb_216_0 : zB 216 0 = [.aload 0, .getfield 654, .aload 0, .getfield 660, .iaload, .istore 1, .aload 0, .dup, .getfield 660, .iconst 1, .isub, .putfield 660, .aload 0, .getfield 654, .aload 0, .getfield 660, .dup2, .iaload, .iload 1, .iadd, .iastore, .aload 0, .getfield 657, .aload 0, .getfield 660, .dup2, .iaload, .iconst 1, .iadd, .iastore, .aload 0, .getfield 658, .aload 0, .getfield 660, .aload 0, .getfield 674, .bastore, .aload 0, .getfield 674, .ifCond .eq 1, .aload 0, .getfield 659, .aload 0, .getfield 660, .iaload, .iconst (-1), .if_icmp .eq 1, .aload 0, .getfield 669, .iconst 4, .aload 0, .getfield 659, .aload 0, .getfield 660, .iaload, .imul, .iconst 3, .iadd, .iconst 1, .iastore, .goto_w 1] := rfl
theorem zb_216_1 : zB 216 1 = [.return_] := rfl
theorem zb_217_0 : zB 217 0 = [.aload 0, .iconst 0, .putfield 662, .aload 0, .iconst 0, .putfield 663, .aload 0, .iconst 0, .putfield 664, .aload 0, .iconst (-1), .putfield 665, .aload 0, .iconst (-1), .putfield 666, .aload 0, .iconst 0, .putfield 667, .aload 0, .iconst 0, .putfield 660, .aload 0, .iload 1, .iconst 0, .iload 2, .invokeinterface 210 4, .aload 0, .invokeinterface 211 1, .istore 3, .iconst 0, .istore 4, .goto_w 1] := rfl
theorem zb_217_1 : zB 217 1 = [.iload 4, .ifCond .ne 7, .iload 3, .ifCond .eq 2, .aload 0, .invokeinterface 213 1, .goto 3] := rfl
theorem zb_217_2 : zB 217 2 = [.iconst 2, .goto_w 3] := rfl
theorem zb_217_3 : zB 217 3 = [.istore 5, .iload 5, .iconst 1, .if_icmp .ne 4, .aload 0, .invokeinterface 215 1, .aload 0, .invokeinterface 211 1, .istore 3, .goto 6] := rfl
theorem zb_217_4 : zB 217 4 = [.iload 5, .iconst 2, .if_icmp .ne 5, .aload 0, .getfield 660, .ifCond .ne 5, .iconst 1, .istore 4, .goto 6] := rfl
theorem zb_217_5 : zB 217 5 = [.iload 5, .iconst 2, .if_icmp .ne 6, .aload 0, .invokeinterface 216 1, .iconst 1, .istore 3, .goto_w 6] := rfl
theorem zb_217_6 : zB 217 6 = [.goto 1] := rfl
theorem zb_217_7 : zB 217 7 = [.aload 0, .aload 0, .getfield 654, .iconst 0, .iaload, .putfield 661, .aload 0, .getfield 674, .ireturn] := rfl
theorem zb_218_0 : zB 218 0 = [.aload 0, .iload 1, .invokeinterface 174 2, .ifCond .ne 3, .aload 0, .iconst 1, .invokeinterface 163 2, .ifCond .eq 1, .iconst 1, .goto 2] := rfl
theorem zb_218_1 : zB 218 1 = [.iconst 0, .goto_w 2] := rfl
theorem zb_218_2 : zB 218 2 = [.ireturn] := rfl
theorem zb_218_3 : zB 218 3 = [.iload 2, .iconst 0, .iconst 1000, .invokeinterface 162 3, .ifCond .ne 6, .aload 0, .iconst 2, .invokeinterface 163 2, .ifCond .eq 4, .iconst 1, .goto 5] := rfl
theorem zb_218_4 : zB 218 4 = [.iconst 0, .goto_w 5] := rfl
theorem zb_218_5 : zB 218 5 = [.ireturn] := rfl
theorem zb_218_6 : zB 218 6 = [.aload 0, .iconst 0, .putfield 646, .aload 0, .iload 1, .iload 2, .invokeinterface 217 3, .istore 3, .aload 0, .getfield 670, .iconst 0, .aload 0, .getfield 661, .iastore, .aload 0, .getfield 670, .iconst 1, .aload 0, .getfield 662, .iastore, .aload 0, .getfield 670, .iconst 2, .aload 0, .getfield 663, .iastore, .aload 0, .getfield 670, .iconst 3, .aload 0, .getfield 664, .iastore, .aload 0, .getfield 670, .iconst 4, .iload 3, .ifCond .eq 7, .iconst (-1), .goto 9] := rfl
theorem zb_218_7 : zB 218 7 = [.aload 0, .getfield 665, .iconst (-1), .if_icmp .ne 8, .aload 0, .getfield 666, .goto 9] := rfl
theorem zb_218_8 : zB 218 8 = [.aload 0, .getfield 665, .goto_w 9] := rfl
theorem zb_218_9 : zB 218 9 = [.iastore, .aload 0, .getfield 670, .iconst 5, .aload 0, .getfield 667, .iastore, .iconst 0, .istore 4, .goto_w 10] := rfl
theorem zb_218_10 : zB 218 10 = [.iload 4, .iconst 240, .if_icmp .ge 11, .aload 0, .getfield 671, .iload 4, .aload 0, .getfield 668, .iload 4, .iaload, .iastore, .iinc 4 1, .goto 10] := rfl
theorem zb_218_11 : zB 218 11 = [.iconst 0, .istore 4, .goto_w 12] := rfl
theorem zb_218_12 : zB 218 12 = [.iload 4, .iconst 800, .if_icmp .ge 13, .aload 0, .getfield 672, .iload 4, .aload 0, .getfield 669, .iload 4, .iaload, .iastore, .iinc 4 1, .goto 12] := rfl
theorem zb_218_13 : zB 218 13 = [.aload 0, .iconst 1, .putfield 673, .iload 3, .ireturn] := rfl
theorem zb_219_0 : zB 219 0 = [.iload 1, .iconst 0, .iconst 5, .invokeinterface 162 3, .ifCond .ne 1, .aload 0, .iconst 1, .invokeinterface 163 2, .ireturn] := rfl
theorem zb_219_1 : zB 219 1 = [.aload 0, .getfield 673, .ifCond .eq 2, .aload 0, .aload 0, .getfield 670, .iload 1, .iaload, .invokeinterface 164 2, .goto 3] := rfl
theorem zb_219_2 : zB 219 2 = [.aload 0, .iconst 2, .invokeinterface 163 2, .goto_w 3] := rfl
theorem zb_219_3 : zB 219 3 = [.ireturn] := rfl
theorem zb_220_0 : zB 220 0 = [.iload 2, .iconst 0, .iconst 3, .invokeinterface 162 3, .ifCond .ne 1, .aload 0, .iconst 1, .invokeinterface 163 2, .ireturn] := rfl
theorem zb_220_1 : zB 220 1 = [.aload 0, .aload 0, .getfield 673, .ifCond .eq 2, .iload 1, .iconst 0, .aload 0, .getfield 670, .iconst 2, .iaload, .iconst 1, .isub, .invokeinterface 162 3, .ifCond .eq 2, .aload 0, .getfield 671, .iconst 4, .iload 1, .imul, .iload 2, .iadd, .iaload, .goto 3] := rfl
theorem zb_220_2 : zB 220 2 = [.iconst (-1), .goto_w 3] := rfl
theorem zb_220_3 : zB 220 3 = [.invokeinterface 164 2, .ireturn] := rfl
theorem zb_221_0 : zB 221 0 = [.iload 2, .iconst 0, .iconst 3, .invokeinterface 162 3, .ifCond .ne 1, .aload 0, .iconst 1, .invokeinterface 163 2, .ireturn] := rfl
theorem zb_221_1 : zB 221 1 = [.aload 0, .aload 0, .getfield 673, .ifCond .eq 2, .iload 1, .iconst 0, .aload 0, .getfield 670, .iconst 3, .iaload, .iconst 1, .isub, .invokeinterface 162 3, .ifCond .eq 2, .aload 0, .getfield 672, .iconst 4, .iload 1, .imul, .iload 2, .iadd, .iaload, .goto 3] := rfl
theorem zb_221_2 : zB 221 2 = [.iconst (-1), .goto_w 3] := rfl
theorem zb_221_3 : zB 221 3 = [.invokeinterface 164 2, .ireturn] := rfl
theorem zb_222_0 : zB 222 0 = [.aload 0, .iload 1, .invokeinterface 174 2, .ifCond .ne 1, .aload 0, .iconst 1, .invokeinterface 163 2, .ireturn] := rfl
theorem zb_222_1 : zB 222 1 = [.iconst 0, .istore 2, .goto_w 2] := rfl
theorem zb_222_2 : zB 222 2 = [.iload 2, .iconst 1000, .if_icmp .gt 3, .aload 0, .iload 1, .iload 2, .invokeinterface 217 3, .ifCond .ne 3, .iinc 2 1, .goto 2] := rfl
theorem zb_222_3 : zB 222 3 = [.aload 0, .iload 2, .iconst 1000, .if_icmp .gt 4, .iload 2, .goto 5] := rfl
theorem zb_222_4 : zB 222 4 = [.iconst (-1), .goto_w 5] := rfl
theorem zb_222_5 : zB 222 5 = [.invokeinterface 164 2, .ireturn] := rfl
theorem zb_223_0 : zB 223 0 = [.aload 0, .iload 1, .invokeinterface 177 2, .istore 2, .iconst 0, .istore 3, .goto_w 1] := rfl
theorem zb_223_1 : zB 223 1 = [.iload 3, .aload 0, .getfield 640, .iconst 1, .iaload, .if_icmp .ge 5, .aload 0, .iload 3, .invokeinterface 171 2, .iload 1, .if_icmp .ne 4, .aload 0, .iload 3, .iconst 2, .invokeinterface 170 3, .istore 4, .iload 2, .aload 0, .iload 3, .iconst 3, .invokeinterface 170 3, .iload 4, .aload 0, .getfield 675, .aload 0, .iload 3, .invokeinterface 172 2, .iaload, .if_icmp .ge 2, .iload 4, .goto 3] := rfl
theorem zb_223_2 : zB 223 2 = [.aload 0, .getfield 675, .aload 0, .iload 3, .invokeinterface 172 2, .iaload, .goto_w 3] := rfl
theorem zb_223_3 : zB 223 3 = [.imul, .iadd, .istore 2, .goto_w 4] := rfl
theorem zb_223_4 : zB 223 4 = [.iinc 3 1, .goto 1] := rfl
theorem zb_223_5 : zB 223 5 = [.aload 0, .getfield 675, .iload 1, .iload 2, .iconst 100000, .if_icmp .ge 6, .iload 2, .goto 7] := rfl
theorem zb_223_6 : zB 223 6 = [.iconst 100000, .goto_w 7] := rfl
theorem zb_223_7 : zB 223 7 = [.iastore, .return_] := rfl
theorem zb_224_0 : zB 224 0 = [.aload 0, .invokeinterface 181 1, .iconst 0, .istore 1, .goto_w 1] := rfl
theorem zb_224_1 : zB 224 1 = [.iload 1, .aload 0, .getfield 640, .iconst 0, .iaload, .if_icmp .ge 2, .aload 0, .aload 0, .getfield 648, .iload 1, .iaload, .invokeinterface 223 2, .iinc 1 1, .goto 1] := rfl
theorem zb_224_2 : zB 224 2 = [.return_] := rfl
theorem zb_225_0 : zB 225 0 = [.aload 0, .iload 1, .invokeinterface 174 2, .ifCond .ne 1, .aload 0, .iconst 1, .invokeinterface 163 2, .ireturn] := rfl
theorem zb_225_1 : zB 225 1 = [.aload 0, .invokeinterface 224 1, .aload 0, .aload 0, .getfield 675, .iload 1, .iaload, .invokeinterface 164 2, .ireturn] := rfl
theorem zb_226_0 : zB 226 0 = [.aload 0, .invokeinterface 224 1, .iconst 0, .istore 1, .iconst 0, .istore 2, .goto_w 1] := rfl
theorem zb_226_1 : zB 226 1 = [.iload 2, .aload 0, .getfield 640, .iconst 1, .iaload, .if_icmp .ge 4, .iload 1, .aload 0, .iload 2, .iconst 2, .invokeinterface 170 3, .aload 0, .getfield 675, .aload 0, .iload 2, .invokeinterface 172 2, .iaload, .if_icmp .ge 2, .iconst 1, .goto 3] := rfl
theorem zb_226_2 : zB 226 2 = [.iconst 0, .goto_w 3] := rfl
theorem zb_226_3 : zB 226 3 = [.iadd, .istore 1, .iinc 2 1, .goto 1] := rfl
theorem zb_226_4 : zB 226 4 = [.iload 1, .ireturn] := rfl
theorem zb_227_0 : zB 227 0 = [.aload 0, .aload 0, .invokeinterface 226 1, .invokeinterface 164 2, .ireturn] := rfl
theorem zb_228_0 : zB 228 0 = [.aload 0, .invokeinterface 165 1, .aload 0, .invokeinterface 181 1, .iconst 0, .istore 1, .goto_w 1] := rfl
theorem zb_228_1 : zB 228 1 = [.iload 1, .aload 0, .getfield 640, .iconst 0, .iaload, .if_icmp .ge 7, .aload 0, .getfield 648, .iload 1, .iaload, .istore 2, .aload 0, .iload 2, .invokeinterface 223 2, .iconst 0, .istore 3, .goto_w 2] := rfl
theorem zb_228_2 : zB 228 2 = [.iload 3, .aload 0, .getfield 640, .iconst 1, .iaload, .if_icmp .ge 6, .aload 0, .iload 3, .invokeinterface 172 2, .iload 2, .if_icmp .ne 5, .aload 0, .getfield 640, .iconst 110, .iconst 5, .iload 3, .imul, .iadd, .iconst 2, .iadd, .aload 0, .getfield 675, .iload 2, .iaload, .iconst 500, .if_icmp .ge 3, .aload 0, .getfield 675, .iload 2, .iaload, .goto 4] := rfl
theorem zb_228_3 : zB 228 3 = [.iconst 500, .goto_w 4] := rfl
theorem zb_228_4 : zB 228 4 = [.iastore, .goto_w 5] := rfl
theorem zb_228_5 : zB 228 5 = [.iinc 3 1, .goto 2] := rfl
theorem zb_228_6 : zB 228 6 = [.iinc 1 1, .goto 1] := rfl
theorem zb_228_7 : zB 228 7 = [.iconst 0, .istore 1, .iconst 0, .istore 2, .goto_w 8] := rfl
theorem zb_228_8 : zB 228 8 = [.iload 2, .aload 0, .getfield 640, .iconst 1, .iaload, .if_icmp .ge 11, .iconst 110, .iconst 5, .iload 2, .imul, .iadd, .iconst 2, .iadd, .istore 3, .iload 1, .aload 0, .getfield 640, .iload 3, .iaload, .aload 0, .getfield 642, .iload 3, .iaload, .if_icmp .ne 9, .iconst 0, .goto 10] := rfl
theorem zb_228_9 : zB 228 9 = [.iconst 1, .goto_w 10] := rfl
theorem zb_228_10 : zB 228 10 = [.iadd, .istore 1, .iinc 2 1, .goto 8] := rfl
theorem zb_228_11 : zB 228 11 = [.aload 0, .iload 1, .invokeinterface 167 2, .ireturn] := rfl
theorem zb_229_0 : zB 229 0 = [.iconst 0, .istore 1, .iconst 0, .istore 2, .goto_w 1] := rfl
theorem zb_229_1 : zB 229 1 = [.iload 2, .aload 0, .getfield 640, .iconst 0, .iaload, .if_icmp .ge 4, .iload 1, .aload 0, .iload 2, .invokeinterface 176 2, .ifCond .eq 2, .iconst 0, .goto 3] := rfl
theorem zb_229_2 : zB 229 2 = [.iconst 1, .iload 2, .ishl, .goto_w 3] := rfl
theorem zb_229_3 : zB 229 3 = [.ior, .istore 1, .iinc 2 1, .goto 1] := rfl
theorem zb_229_4 : zB 229 4 = [.iload 1, .ireturn] := rfl
theorem zb_230_0 : zB 230 0 = [.iconst 0, .istore 3, .aload 0, .iload 1, .iconst (-1), .invokeinterface 178 3, .istore 4, .goto_w 1] := rfl
theorem zb_230_1 : zB 230 1 = [.iload 4, .aload 0, .getfield 640, .iconst 1, .iaload, .if_icmp .ge 13, .iload 2, .aload 0, .iload 4, .invokeinterface 172 2, .ishr, .iconst 1, .iand, .iconst 1, .if_icmp .ne 2, .iconst 1, .goto 3] := rfl
theorem zb_230_2 : zB 230 2 = [.iconst 0, .goto_w 3] := rfl
theorem zb_230_3 : zB 230 3 = [.istore 5, .aload 0, .iload 4, .iconst 4, .invokeinterface 170 3, .ifCond .ne 4, .iconst 1, .goto 5] := rfl
theorem zb_230_4 : zB 230 4 = [.iconst 0, .goto_w 5] := rfl
theorem zb_230_5 : zB 230 5 = [.istore 6, .aload 0, .iload 1, .iload 4, .invokeinterface 178 3, .istore 4, .goto_w 6] := rfl
theorem zb_230_6 : zB 230 6 = [.iload 4, .aload 0, .getfield 640, .iconst 1, .iaload, .if_icmp .ge 9, .aload 0, .iload 4, .invokeinterface 173 2, .ifCond .eq 9, .iload 5, .ifCond .eq 7, .iload 2, .aload 0, .iload 4, .invokeinterface 172 2, .ishr, .iconst 1, .iand, .iconst 1, .if_icmp .ne 7, .iconst 1, .goto 8] := rfl
theorem zb_230_7 : zB 230 7 = [.iconst 0, .goto_w 8] := rfl
theorem zb_230_8 : zB 230 8 = [.istore 5, .aload 0, .iload 1, .iload 4, .invokeinterface 178 3, .istore 4, .goto 6] := rfl
theorem zb_230_9 : zB 230 9 = [.iload 3, .ifCond .ne 10, .iload 6, .ifCond .eq 11, .iload 5, .ifCond .eq 11, .goto_w 10] := rfl
theorem zb_230_10 : zB 230 10 = [.iconst 1, .goto 12] := rfl
theorem zb_230_11 : zB 230 11 = [.iconst 0, .goto_w 12] := rfl
theorem zb_230_12 : zB 230 12 = [.istore 3, .goto 1] := rfl
theorem zb_230_13 : zB 230 13 = [.iload 3, .ireturn] := rfl
theorem zb_231_0 : zB 231 0 = [.aload 0, .invokeinterface 229 1, .istore 1, .iconst 0, .istore 2, .iconst 0, .istore 3, .goto_w 1] := rfl
theorem zb_231_1 : zB 231 1 = [.iload 3, .aload 0, .getfield 640, .iconst 0, .iaload, .if_icmp .ge 10, .aload 0, .iload 3, .iload 1, .invokeinterface 230 3, .istore 4, .iload 1, .iload 3, .ishr, .iconst 1, .iand, .ifCond .ne 6, .aload 0, .iload 3, .iconst 7, .invokeinterface 168 3, .istore 5, .aload 0, .iload 3, .iconst 7, .iload 4, .ifCond .eq 2, .iload 5, .iconst 1, .iadd, .goto 4] := rfl
theorem zb_231_2 : zB 231 2 = [.iload 5, .ifCond .le 3, .iload 5, .iconst 1, .isub, .goto 4] := rfl
theorem zb_231_3 : zB 231 3 = [.iconst 0, .goto_w 4] := rfl
theorem zb_231_4 : zB 231 4 = [.invokeinterface 169 4, .aload 0, .iload 3, .iconst 7, .invokeinterface 168 3, .aload 0, .iload 3, .iconst 2, .invokeinterface 168 3, .if_icmp .lt 5, .aload 0, .iload 3, .invokeinterface 189 2, .iload 2, .iconst 1, .iload 3, .ishl, .ior, .istore 2, .goto_w 5] := rfl
theorem zb_231_5 : zB 231 5 = [.goto 9] := rfl
theorem zb_231_6 : zB 231 6 = [.aload 0, .iload 3, .iconst 8, .invokeinterface 168 3, .iconst (-1), .if_icmp .eq 9, .aload 0, .iload 3, .iconst 8, .aload 0, .iload 3, .iconst 8, .invokeinterface 168 3, .ifCond .le 7, .aload 0, .iload 3, .iconst 8, .invokeinterface 168 3, .iconst 1, .isub, .goto 8] := rfl
theorem zb_231_7 : zB 231 7 = [.iconst 0, .goto_w 8] := rfl
theorem zb_231_8 : zB 231 8 = [.invokeinterface 169 4, .aload 0, .iload 3, .iconst 8, .invokeinterface 168 3, .ifCond .ne 9, .iload 4, .ifCond .ne 9, .aload 0, .iload 3, .iconst 6, .iconst 1, .invokeinterface 169 4, .aload 0, .iload 3, .iconst 7, .iconst 0, .invokeinterface 169 4, .aload 0, .iload 3, .iconst 8, .iconst (-1), .invokeinterface 169 4, .goto_w 9] := rfl
theorem zb_231_9 : zB 231 9 = [.iinc 3 1, .goto 1] := rfl
theorem zb_231_10 : zB 231 10 = [.iload 2, .ireturn] := rfl
theorem zb_232_0 : zB 232 0 = [.aload 0, .invokeinterface 165 1, .aload 0, .aload 0, .iload 1, .invokeinterface 188 2, .invokeinterface 192 2, .ireturn] := rfl
theorem zb_233_0 : zB 233 0 = [.aload 0, .invokeinterface 165 1, .aload 0, .aload 0, .iload 1, .invokeinterface 190 2, .invokeinterface 192 2, .ireturn] := rfl
theorem zb_234_0 : zB 234 0 = [.aload 0, .invokeinterface 165 1, .aload 0, .aload 0, .iload 1, .invokeinterface 191 2, .invokeinterface 192 2, .ireturn] := rfl
theorem zb_235_0 : zB 235 0 = [.aload 0, .aload 0, .invokeinterface 229 1, .invokeinterface 164 2, .ireturn] := rfl
theorem zb_236_0 : zB 236 0 = [.aload 0, .invokeinterface 165 1, .aload 0, .iload 1, .invokeinterface 189 2, .aload 0, .iconst (-1), .putfield 676, .iconst 1, .istore 2, .goto_w 1] := rfl
theorem zb_236_1 : zB 236 1 = [.iload 2, .iconst 40, .if_icmp .gt 4, .aload 0, .invokeinterface 231 1, .iconst 1, .iload 1, .ishl, .iconst (-1), .ixor, .iand, .istore 3, .aload 0, .aload 0, .getfield 676, .iconst (-1), .if_icmp .ne 2, .iload 3, .ifCond .eq 2, .iload 2, .goto 3] := rfl
theorem zb_236_2 : zB 236 2 = [.aload 0, .getfield 676, .goto_w 3] := rfl
theorem zb_236_3 : zB 236 3 = [.putfield 676, .iinc 2 1, .goto 1] := rfl
theorem zb_236_4 : zB 236 4 = [.aload 0, .invokeinterface 229 1, .istore 2, .aload 0, .invokeinterface 166 1, .iload 2, .ireturn] := rfl
theorem zb_237_0 : zB 237 0 = [.aload 0, .iload 1, .invokeinterface 174 2, .ifCond .ne 1, .aload 0, .iconst 1, .invokeinterface 163 2, .ireturn] := rfl
theorem zb_237_1 : zB 237 1 = [.aload 0, .iload 1, .invokeinterface 176 2, .ifCond .eq 2, .aload 0, .aload 0, .iload 1, .invokeinterface 236 2, .invokeinterface 164 2, .goto 3] := rfl
theorem zb_237_2 : zB 237 2 = [.aload 0, .iconst 2, .invokeinterface 163 2, .goto_w 3] := rfl
theorem zb_237_3 : zB 237 3 = [.ireturn] := rfl
theorem zb_238_0 : zB 238 0 = [.aload 0, .iload 1, .invokeinterface 174 2, .ifCond .ne 1, .aload 0, .iconst 1, .invokeinterface 163 2, .ireturn] := rfl
theorem zb_238_1 : zB 238 1 = [.aload 0, .iload 1, .invokeinterface 176 2, .ifCond .ne 2, .aload 0, .iconst 2, .invokeinterface 163 2, .ireturn] := rfl
theorem zb_238_2 : zB 238 2 = [.aload 0, .iload 1, .invokeinterface 236 2, .istore 2, .aload 0, .iload 2, .ifCond .ne 3, .iconst (-1), .goto 4] := rfl
theorem zb_238_3 : zB 238 3 = [.aload 0, .getfield 676, .goto_w 4] := rfl
theorem zb_238_4 : zB 238 4 = [.invokeinterface 164 2, .ireturn] := rfl
theorem zb_239_0 : zB 239 0 = [.iconst (-1), .istore 3, .iconst 0, .istore 4, .goto_w 1] := rfl
theorem zb_239_1 : zB 239 1 = [.iload 4, .aload 0, .getfield 640, .iconst 0, .iaload, .if_icmp .ge 7, .iload 1, .iload 4, .ishr, .iconst 1, .iand, .iconst 1, .if_icmp .ne 2, .aload 0, .getfield 677, .iload 4, .iaload, .iconst (-1), .if_icmp .ne 2, .aload 0, .getfield 647, .iload 4, .iaload, .iload 1, .iand, .iload 2, .iconst (-1), .ixor, .iand, .ifCond .ne 2, .iconst 1, .goto 3] := rfl
theorem zb_239_2 : zB 239 2 = [.iconst 0, .goto_w 3] := rfl
theorem zb_239_3 : zB 239 3 = [.istore 5, .iload 5, .ifCond .eq 5, .iload 3, .iconst (-1), .if_icmp .eq 4, .aload 0, .iload 4, .iconst 4, .invokeinterface 168 3, .aload 0, .iload 3, .iconst 4, .invokeinterface 168 3, .if_icmp .le 5, .goto_w 4] := rfl
theorem zb_239_4 : zB 239 4 = [.iload 4, .goto 6] := rfl
theorem zb_239_5 : zB 239 5 = [.iload 3, .goto_w 6] := rfl
theorem zb_239_6 : zB 239 6 = [.istore 3, .iinc 4 1, .goto 1] := rfl
theorem zb_239_7 : zB 239 7 = [.iload 3, .ireturn] := rfl
theorem zb_240_0 : zB 240 0 = [.aload 0, .invokeinterface 180 1, .aload 0, .invokeinterface 229 1, .istore 2, .iconst 0, .istore 3, .iconst 0, .istore 4, .goto_w 1] := rfl
theorem zb_240_1 : zB 240 1 = [.iload 4, .iconst 12, .if_icmp .ge 2, .aload 0, .getfield 677, .iload 4, .iconst (-1), .iastore, .iinc 4 1, .goto 1] := rfl
theorem zb_240_2 : zB 240 2 = [.iconst 0, .istore 4, .goto_w 3] := rfl
theorem zb_240_3 : zB 240 3 = [.iload 3, .iload 2, .if_icmp .eq 17, .iload 1, .istore 5, .iconst 0, .istore 6, .goto_w 4] := rfl
theorem zb_240_4 : zB 240 4 = [.iload 6, .aload 0, .getfield 640, .iconst 0, .iaload, .if_icmp .ge 12, .aload 0, .getfield 677, .iload 6, .iaload, .iconst (-1), .if_icmp .eq 11, .iload 3, .iload 6, .ishr, .iconst 1, .iand, .ifCond .ne 11, .aload 0, .getfield 677, .iload 6, .iaload, .aload 0, .iload 6, .iconst 3, .invokeinterface 168 3, .iadd, .iload 4, .if_icmp .gt 5, .iconst 1, .goto 6] := rfl
theorem zb_240_5 : zB 240 5 = [.iconst 0, .goto_w 6] := rfl
theorem zb_240_6 : zB 240 6 = [.istore 7, .iload 3, .iload 7, .ifCond .eq 7, .iconst 1, .iload 6, .ishl, .goto 8] := rfl
theorem zb_240_7 : zB 240 7 = [.iconst 0, .goto_w 8] := rfl
theorem zb_240_8 : zB 240 8 = [.ior, .istore 3, .iload 5, .iload 7, .ifCond .eq 9, .iconst 0, .goto 10] := rfl
theorem zb_240_9 : zB 240 9 = [.iconst 1, .goto_w 10] := rfl
theorem zb_240_10 : zB 240 10 = [.isub, .istore 5, .goto_w 11] := rfl
theorem zb_240_11 : zB 240 11 = [.iinc 6 1, .goto 4] := rfl
theorem zb_240_12 : zB 240 12 = [.aload 0, .iload 2, .iload 3, .invokeinterface 239 3, .istore 6, .goto_w 13] := rfl
theorem zb_240_13 : zB 240 13 = [.iload 5, .ifCond .le 14, .iload 6, .iconst (-1), .if_icmp .eq 14, .aload 0, .getfield 677, .iload 6, .iload 4, .iastore, .iinc 5 (-1), .aload 0, .iload 2, .iload 3, .invokeinterface 239 3, .istore 6, .goto 13] := rfl
theorem zb_240_14 : zB 240 14 = [.iload 4, .iload 3, .iload 2, .if_icmp .ne 15, .iconst 0, .goto 16] := rfl
theorem zb_240_15 : zB 240 15 = [.iconst 1, .goto_w 16] := rfl
theorem zb_240_16 : zB 240 16 = [.iadd, .istore 4, .goto 3] := rfl
theorem zb_240_17 : zB 240 17 = [.iload 4, .ireturn] := rfl
theorem zb_241_0 : zB 241 0 = [.iload 1, .iconst 1, .iconst 4, .invokeinterface 162 3, .ifCond .eq 1, .aload 0, .aload 0, .iload 1, .invokeinterface 240 2, .invokeinterface 164 2, .goto 2] := rfl
theorem zb_241_1 : zB 241 1 = [.aload 0, .iconst 1, .invokeinterface 163 2, .goto_w 2] := rfl
theorem zb_241_2 : zB 241 2 = [.ireturn] := rfl
theorem zb_242_0 : zB 242 0 = [.iload 1, .iconst 1, .iconst 4, .invokeinterface 162 3, .ifCond .ne 1, .aload 0, .iconst 1, .invokeinterface 163 2, .ireturn] := rfl
theorem zb_242_1 : zB 242 1 = [.aload 0, .iload 2, .invokeinterface 174 2, .ifCond .ne 2, .aload 0, .iconst 2, .invokeinterface 163 2, .ireturn] := rfl
theorem zb_242_2 : zB 242 2 = [.aload 0, .iload 1, .invokeinterface 240 2, .istore 3, .aload 0, .iload 3, .ifCond .ge 3, .iconst (-1), .goto 4] := rfl
theorem zb_242_3 : zB 242 3 = [.aload 0, .getfield 677, .iload 2, .iaload, .goto_w 4] := rfl
theorem zb_242_4 : zB 242 4 = [.invokeinterface 164 2, .ireturn] := rfl
theorem zb_243_0 : zB 243 0 = [.iconst 0, .istore 2, .iconst 0, .istore 3, .goto_w 1] := rfl
theorem zb_243_1 : zB 243 1 = [.iload 3, .aload 0, .getfield 640, .iconst 0, .iaload, .if_icmp .ge 4, .iload 2, .iload 1, .iload 3, .ishr, .iconst 1, .iand, .iconst 1, .if_icmp .ne 2, .aload 0, .iload 3, .iconst 3, .invokeinterface 168 3, .goto 3] := rfl
theorem zb_243_2 : zB 243 2 = [.iconst 0, .goto_w 3] := rfl
theorem zb_243_3 : zB 243 3 = [.iadd, .istore 2, .iinc 3 1, .goto 1] := rfl
theorem zb_243_4 : zB 243 4 = [.iload 2, .ireturn] := rfl
theorem zb_244_0 : zB 244 0 = [.iload 2, .iload 3, .iconst (-1), .ixor, .iand, .iload 1, .ishr, .iconst 1, .iand, .iconst 1, .if_icmp .ne 1, .aload 0, .getfield 647, .iload 1, .iaload, .iload 2, .iand, .iload 3, .iconst (-1), .ixor, .iand, .ifCond .ne 1, .iconst 1, .goto 2] := rfl
theorem zb_244_1 : zB 244 1 = [.iconst 0, .goto_w 2] := rfl
theorem zb_244_2 : zB 244 2 = [.istore 4, .iload 4, .ifCond .eq 3, .aload 0, .iload 1, .iconst 4, .invokeinterface 168 3, .aload 0, .iload 3, .invokeinterface 243 2, .aload 0, .iload 1, .iconst 3, .invokeinterface 168 3, .iadd, .imul, .aload 0, .getfield 678, .iload 3, .iconst 1, .iload 1, .ishl, .ior, .iaload, .iadd, .goto 4] := rfl
theorem zb_244_3 : zB 244 3 = [.iconst 100000000, .goto_w 4] := rfl
theorem zb_244_4 : zB 244 4 = [.ireturn] := rfl
theorem zb_245_0 : zB 245 0 = [.aload 0, .invokeinterface 180 1, .aload 0, .invokeinterface 229 1, .istore 1, .iload 1, .istore 2, .goto_w 1] := rfl
theorem zb_245_1 : zB 245 1 = [.iload 2, .ifCond .lt 9, .iload 2, .iload 1, .iconst (-1), .ixor, .iand, .ifCond .ne 8, .iload 2, .iload 1, .if_icmp .ne 2, .iconst 0, .goto 3] := rfl
theorem zb_245_2 : zB 245 2 = [.iconst 100000000, .goto_w 3] := rfl
theorem zb_245_3 : zB 245 3 = [.istore 3, .iconst 0, .istore 4, .goto_w 4] := rfl
theorem zb_245_4 : zB 245 4 = [.iload 4, .aload 0, .getfield 640, .iconst 0, .iaload, .if_icmp .ge 7, .aload 0, .iload 4, .iload 1, .iload 2, .invokeinterface 244 4, .istore 5, .iload 5, .iload 3, .if_icmp .ge 5, .iload 5, .goto 6] := rfl
theorem zb_245_5 : zB 245 5 = [.iload 3, .goto_w 6] := rfl
theorem zb_245_6 : zB 245 6 = [.istore 3, .iinc 4 1, .goto 4] := rfl
theorem zb_245_7 : zB 245 7 = [.aload 0, .getfield 678, .iload 2, .iload 3, .iastore, .goto_w 8] := rfl
theorem zb_245_8 : zB 245 8 = [.iinc 2 (-1), .goto 1] := rfl
theorem zb_245_9 : zB 245 9 = [.aload 0, .getfield 678, .iconst 0, .iaload, .ireturn] := rfl
theorem zb_246_0 : zB 246 0 = [.aload 0, .aload 0, .invokeinterface 245 1, .invokeinterface 164 2, .ireturn] := rfl
theorem zb_247_0 : zB 247 0 = [.aload 0, .invokeinterface 245 1, .istore 2, .aload 0, .invokeinterface 229 1, .istore 3, .iconst 0, .istore 4, .iload 1, .istore 5, .iconst (-1), .istore 6, .goto_w 1] := rfl
theorem zb_247_1 : zB 247 1 = [.iload 4, .iload 3, .if_icmp .eq 6, .iload 5, .ifCond .lt 6, .iload 2, .ifCond .lt 6, .iconst 0, .istore 7, .goto_w 2] := rfl
theorem zb_247_2 : zB 247 2 = [.aload 0, .iload 7, .iload 3, .iload 4, .invokeinterface 244 4, .aload 0, .getfield 678, .iload 4, .iaload, .if_icmp .eq 3, .iinc 7 1, .goto 2] := rfl
theorem zb_247_3 : zB 247 3 = [.iload 5, .ifCond .ne 4, .iload 7, .goto 5] := rfl
theorem zb_247_4 : zB 247 4 = [.iload 6, .goto_w 5] := rfl
theorem zb_247_5 : zB 247 5 = [.istore 6, .iinc 5 (-1), .iload 4, .iconst 1, .iload 7, .ishl, .ior, .istore 4, .goto 1] := rfl
theorem zb_247_6 : zB 247 6 = [.aload 0, .iload 6, .invokeinterface 164 2, .ireturn] := rfl
theorem zb_248_0 : zB 248 0 = [.iload 1, .istore 2, .iconst 0, .istore 3, .goto_w 1] := rfl
theorem zb_248_1 : zB 248 1 = [.iload 3, .aload 0, .getfield 640, .iconst 0, .iaload, .if_icmp .ge 4, .iload 2, .aload 0, .aload 0, .getfield 648, .iload 3, .iaload, .iload 2, .invokeinterface 230 3, .ifCond .eq 2, .iconst 1, .aload 0, .getfield 648, .iload 3, .iaload, .ishl, .goto 3] := rfl
theorem zb_248_2 : zB 248 2 = [.iconst 0, .goto_w 3] := rfl
theorem zb_248_3 : zB 248 3 = [.ior, .istore 2, .iinc 3 1, .goto 1] := rfl
theorem zb_248_4 : zB 248 4 = [.iload 2, .ireturn] := rfl
theorem zb_249_0 : zB 249 0 = [.aload 0, .iload 1, .invokeinterface 174 2, .ifCond .ne 3, .aload 0, .iconst 1, .invokeinterface 163 2, .ifCond .eq 1, .iconst 1, .goto 2] := rfl
theorem zb_249_1 : zB 249 1 = [.iconst 0, .goto_w 2] := rfl
theorem zb_249_2 : zB 249 2 = [.ireturn] := rfl
theorem zb_249_3 : zB 249 3 = [.iload 2, .ifCond .lt 4, .iload 2, .iconst 1, .aload 0, .getfield 640, .iconst 0, .iaload, .ishl, .if_icmp .lt 7, .goto_w 4] := rfl
theorem zb_249_4 : zB 249 4 = [.aload 0, .iconst 2, .invokeinterface 163 2, .ifCond .eq 5, .iconst 1, .goto 6] := rfl
theorem zb_249_5 : zB 249 5 = [.iconst 0, .goto_w 6] := rfl
theorem zb_249_6 : zB 249 6 = [.ireturn] := rfl
theorem zb_249_7 : zB 249 7 = [.aload 0, .iconst 0, .putfield 646, .aload 0, .invokeinterface 181 1, .aload 0, .iload 2, .invokeinterface 248 2, .iload 1, .ishr, .iconst 1, .iand, .iconst 1, .if_icmp .ne 8, .iconst 1, .goto 9] := rfl
theorem zb_249_8 : zB 249 8 = [.iconst 0, .goto_w 9] := rfl
theorem zb_249_9 : zB 249 9 = [.ireturn] := rfl
theorem zb_250_0 : zB 250 0 = [.aload 0, .invokeinterface 181 1, .iconst 0, .istore 2, .goto_w 1] := rfl
theorem zb_250_1 : zB 250 1 = [.iload 2, .iconst 1, .aload 0, .getfield 640, .iconst 0, .iaload, .ishl, .if_icmp .ge 4, .aload 0, .getfield 679, .iload 2, .aload 0, .iload 2, .invokeinterface 248 2, .iload 1, .ishr, .iconst 1, .iand, .iconst 1, .if_icmp .ne 2, .iconst 1, .goto 3] := rfl
theorem zb_250_2 : zB 250 2 = [.iconst 0, .goto_w 3] := rfl
theorem zb_250_3 : zB 250 3 = [.bastore, .iinc 2 1, .goto 1] := rfl
theorem zb_250_4 : zB 250 4 = [.return_] := rfl
theorem zb_251_0 : zB 251 0 = [.iconst 0, .istore 1, .iconst 0, .istore 2, .goto_w 1] := rfl
theorem zb_251_1 : zB 251 1 = [.iload 2, .iconst 12, .if_icmp .ge 2, .iload 1, .iload 0, .iload 2, .ishr, .iconst 1, .iand, .iadd, .istore 1, .iinc 2 1, .goto 1] := rfl
theorem zb_251_2 : zB 251 2 = [.iload 1, .ireturn] := rfl
theorem zb_252_0 : zB 252 0 = [.aload 0, .getfield 679, .iload 1, .baload, .istore 2, .iconst 0, .istore 3, .goto_w 1] := rfl
theorem zb_252_1 : zB 252 1 = [.iload 3, .iconst 12, .if_icmp .ge 5, .iload 2, .ifCond .eq 5, .iload 1, .iload 3, .ishr, .iconst 1, .iand, .ifCond .eq 2, .aload 0, .getfield 679, .iload 1, .iconst 1, .iload 3, .ishl, .iconst (-1), .ixor, .iand, .baload, .ifCond .ne 3, .goto_w 2] := rfl
theorem zb_252_2 : zB 252 2 = [.iconst 1, .goto 4] := rfl
theorem zb_252_3 : zB 252 3 = [.iconst 0, .goto_w 4] := rfl
theorem zb_252_4 : zB 252 4 = [.istore 2, .iinc 3 1, .goto 1] := rfl
theorem zb_252_5 : zB 252 5 = [.iload 2, .ireturn] := rfl
theorem zb_253_0 : zB 253 0 = [.aload 0, .iload 1, .invokeinterface 250 2, .iconst 0, .istore 4, .iconst (-1), .istore 5, .iconst 0, .istore 6, .goto_w 1] := rfl
theorem zb_253_1 : zB 253 1 = [.iload 6, .iconst 1, .aload 0, .getfield 640, .iconst 0, .iaload, .ishl, .if_icmp .ge 5, .iload 6, .invokeinterface 251 1, .iload 2, .if_icmp .ne 4, .aload 0, .iload 6, .invokeinterface 252 2, .ifCond .eq 4, .iload 4, .iload 3, .if_icmp .ne 2, .iload 6, .goto 3] := rfl
theorem zb_253_2 : zB 253 2 = [.iload 5, .goto_w 3] := rfl
theorem zb_253_3 : zB 253 3 = [.istore 5, .iinc 4 1, .goto_w 4] := rfl
theorem zb_253_4 : zB 253 4 = [.iinc 6 1, .goto 1] := rfl
theorem zb_253_5 : zB 253 5 = [.iload 3, .ifCond .ge 6, .iload 4, .goto 7] := rfl
theorem zb_253_6 : zB 253 6 = [.iload 5, .goto_w 7] := rfl
theorem zb_253_7 : zB 253 7 = [.ireturn] := rfl
theorem zb_254_0 : zB 254 0 = [.aload 0, .iload 1, .invokeinterface 174 2, .ifCond .ne 1, .aload 0, .iconst 1, .invokeinterface 163 2, .ireturn] := rfl
theorem zb_254_1 : zB 254 1 = [.iload 2, .iconst 1, .iconst 12, .invokeinterface 162 3, .ifCond .eq 2, .aload 0, .aload 0, .iload 1, .iload 2, .iconst (-1), .invokeinterface 253 4, .invokeinterface 164 2, .goto 3] := rfl
theorem zb_254_2 : zB 254 2 = [.aload 0, .iconst 2, .invokeinterface 163 2, .goto_w 3] := rfl
theorem zb_254_3 : zB 254 3 = [.ireturn] := rfl
theorem zb_255_0 : zB 255 0 = [.aload 0, .iload 1, .invokeinterface 174 2, .ifCond .ne 1, .aload 0, .iconst 1, .invokeinterface 163 2, .ireturn] := rfl
theorem zb_255_1 : zB 255 1 = [.iload 2, .iconst 1, .iconst 12, .invokeinterface 162 3, .ifCond .ne 2, .aload 0, .iconst 2, .invokeinterface 163 2, .ireturn] := rfl
theorem zb_255_2 : zB 255 2 = [.aload 0, .iload 3, .ifCond .ge 3, .iconst (-1), .goto 4] := rfl
theorem zb_255_3 : zB 255 3 = [.aload 0, .iload 1, .iload 2, .iload 3, .invokeinterface 253 4, .goto_w 4] := rfl
theorem zb_255_4 : zB 255 4 = [.invokeinterface 164 2, .ireturn] := rfl
theorem zb_256_0 : zB 256 0 = [.jsr 0, .dstore 2, .iconst 0, .istore 4, .goto_w 1] := rfl
theorem zb_256_1 : zB 256 1 = [.iload 4, .iconst 1, .aload 0, .getfield 640, .iconst 0, .iaload, .ishl, .if_icmp .ge 9, .aload 0, .getfield 679, .iload 4, .baload, .ifCond .ne 8, .jsr 4607182418800017408, .dstore 5, .iconst 0, .istore 7, .goto_w 2] := rfl
theorem zb_256_2 : zB 256 2 = [.iload 7, .aload 0, .getfield 640, .iconst 0, .iaload, .if_icmp .ge 7, .iload 7, .iload 1, .if_icmp .ne 3, .iconst 1000, .goto 4] := rfl
theorem zb_256_3 : zB 256 3 = [.aload 0, .iload 7, .iconst 5, .invokeinterface 168 3, .goto_w 4] := rfl
theorem zb_256_4 : zB 256 4 = [.istore 8, .dload 5, .iload 4, .iload 7, .ishr, .iconst 1, .iand, .ifCond .ne 5, .iload 8, .i2d, .jsr 4652007308841189376, .ddiv, .goto 6] := rfl
theorem zb_256_5 : zB 256 5 = [.iconst 1000, .iload 8, .isub, .i2d, .jsr 4652007308841189376, .ddiv, .goto_w 6] := rfl
theorem zb_256_6 : zB 256 6 = [.dmul, .dstore 5, .iinc 7 1, .goto 2] := rfl
theorem zb_256_7 : zB 256 7 = [.dload 2, .dload 5, .dadd, .dstore 2, .goto_w 8] := rfl
theorem zb_256_8 : zB 256 8 = [.iinc 4 1, .goto 1] := rfl
theorem zb_256_9 : zB 256 9 = [.dload 2, .dreturn] := rfl
theorem zb_257_0 : zB 257 0 = [.aload 0, .iload 1, .invokeinterface 174 2, .ifCond .ne 1, .aload 0, .iconst 1, .invokeinterface 163 2, .ireturn] := rfl
theorem zb_257_1 : zB 257 1 = [.aload 0, .iload 1, .invokeinterface 250 2, .aload 0, .aload 0, .iconst (-1), .invokeinterface 256 2, .d2f, .invokeinterface 303 1, .invokeinterface 164 2, .ireturn] := rfl
theorem zb_258_0 : zB 258 0 = [.aload 0, .iload 1, .invokeinterface 174 2, .ifCond .ne 1, .aload 0, .iconst 1, .invokeinterface 163 2, .ireturn] := rfl
theorem zb_258_1 : zB 258 1 = [.aload 0, .iload 1, .invokeinterface 250 2, .iconst (-1), .istore 2, .jsr 0, .dstore 3, .iconst 0, .istore 5, .goto_w 2] := rfl
theorem zb_258_2 : zB 258 2 = [.iload 5, .aload 0, .getfield 640, .iconst 0, .iaload, .if_icmp .ge 5, .aload 0, .iload 5, .invokeinterface 256 2, .dstore 6, .iload 2, .iconst (-1), .if_icmp .eq 3, .dload 6, .dload 3, .dcmp .l, .ifCond .le 4, .goto_w 3] := rfl
theorem zb_258_3 : zB 258 3 = [.iload 5, .istore 2, .dload 6, .dstore 3, .goto_w 4] := rfl
theorem zb_258_4 : zB 258 4 = [.iinc 5 1, .goto 2] := rfl
theorem zb_258_5 : zB 258 5 = [.aload 0, .iload 2, .invokeinterface 164 2, .ireturn] := rfl
theorem zb_259_0 : zB 259 0 = [.iload 1, .iconst 0, .iconst 127, .invokeinterface 162 3, .ifCond .ne 1, .aload 0, .iconst 1, .invokeinterface 163 2, .ireturn] := rfl
theorem zb_259_1 : zB 259 1 = [.aload 0, .getfield 645, .iconst 120, .if_icmp .ne 2, .aload 0, .iconst 2, .invokeinterface 163 2, .ireturn] := rfl
theorem zb_259_2 : zB 259 2 = [.aload 0, .getfield 644, .aload 0, .getfield 645, .iload 1, .iastore, .aload 0, .dup, .getfield 645, .iconst 1, .iadd, .putfield 645, .aload 0, .aload 0, .getfield 645, .invokeinterface 164 2, .ireturn] := rfl
theorem zb_260_0 : zB 260 0 = [.aload 0, .getfield 645, .istore 1, .aload 0, .iconst 0, .putfield 645, .aload 0, .iload 1, .invokeinterface 164 2, .ireturn] := rfl
theorem zb_261_0 : zB 261 0 = [.aload 0, .getfield 680, .aload 0, .getfield 645, .if_icmp .ge 1, .aload 0, .getfield 644, .aload 0, .getfield 680, .iaload, .iload 1, .iload 2, .invokeinterface 162 3, .ifCond .eq 1, .iconst 1, .goto 2] := rfl
theorem zb_261_1 : zB 261 1 = [.iconst 0, .goto_w 2] := rfl
theorem zb_261_2 : zB 261 2 = [.ireturn] := rfl
theorem zb_262_0 : zB 262 0 = [.iload 0, .lookupswitch 4 #[(97, 1), (98, 4), (99, 2), (100, 1), (101, 4), (102, 4), (103, 4), (104, 4), (105, 4), (106, 4), (107, 4), (108, 4), (109, 4), (110, 4), (111, 4), (112, 3), (113, 4), (114, 1), (115, 1)]] := rfl
theorem zb_262_1 : zB 262 1 = [.iconst 1, .ireturn] := rfl
theorem zb_262_2 : zB 262 2 = [.iconst 5, .ireturn] := rfl
theorem zb_262_3 : zB 262 3 = [.iconst 3, .ireturn] := rfl
theorem zb_262_4 : zB 262 4 = [.iconst 0, .ireturn] := rfl
theorem zb_263_0 : zB 263 0 = [.aload 0, .getfield 680, .istore 2, .aload 0, .getfield 682, .iload 1, .iconst 0, .iastore, .goto_w 1] := rfl
theorem zb_263_1 : zB 263 1 = [.aload 0, .iconst 48, .iconst 57, .invokeinterface 261 3, .ifCond .eq 2, .aload 0, .getfield 680, .iload 2, .isub, .iconst 3, .if_icmp .ge 2, .aload 0, .getfield 682, .iload 1, .iconst 10, .aload 0, .getfield 682, .iload 1, .iaload, .imul, .aload 0, .getfield 644, .aload 0, .getfield 680, .iaload, .iadd, .iconst 48, .isub, .iastore, .aload 0, .dup, .getfield 680, .iconst 1, .iadd, .putfield 680, .goto 1] := rfl
theorem zb_263_2 : zB 263 2 = [.aload 0, .getfield 680, .iload 2, .if_icmp .le 3, .iconst 1, .goto 4] := rfl
theorem zb_263_3 : zB 263 3 = [.iconst 0, .goto_w 4] := rfl
theorem zb_263_4 : zB 263 4 = [.ireturn] := rfl
theorem zb_264_0 : zB 264 0 = [.aload 0, .aload 0, .getfield 644, .aload 0, .getfield 680, .iaload, .putfield 681, .aload 0, .getfield 681, .invokeinterface 262 1, .istore 1, .iload 1, .ifCond .ne 1, .iconst 0, .ireturn] := rfl
theorem zb_264_1 : zB 264 1 = [.aload 0, .dup, .getfield 680, .iconst 1, .iadd, .putfield 680, .iconst 0, .istore 2, .goto_w 2] := rfl
theorem zb_264_2 : zB 264 2 = [.iload 2, .iload 1, .if_icmp .ge 9, .aload 0, .iload 2, .invokeinterface 263 2, .ifCond .eq 7, .aload 0, .iload 2, .iload 1, .iconst 1, .isub, .if_icmp .ge 3, .iconst 44, .goto 4] := rfl
theorem zb_264_3 : zB 264 3 = [.iconst 59, .goto_w 4] := rfl
theorem zb_264_4 : zB 264 4 = [.iload 2, .iload 1, .iconst 1, .isub, .if_icmp .ge 5, .iconst 44, .goto 6] := rfl
theorem zb_264_5 : zB 264 5 = [.iconst 59, .goto_w 6] := rfl
theorem zb_264_6 : zB 264 6 = [.invokeinterface 261 3, .ifCond .ne 8, .goto_w 7] := rfl
theorem zb_264_7 : zB 264 7 = [.iconst 0, .ireturn] := rfl
theorem zb_264_8 : zB 264 8 = [.aload 0, .dup, .getfield 680, .iconst 1, .iadd, .putfield 680, .iinc 2 1, .goto 2] := rfl
theorem zb_264_9 : zB 264 9 = [.iconst 1, .ireturn] := rfl
theorem zb_265_0 : zB 265 0 = [.aload 0, .getfield 681, .lookupswitch 6 #[(97, 1), (99, 2), (100, 3), (114, 4), (115, 5)]] := rfl
theorem zb_265_1 : zB 265 1 = [.aload 0, .aload 0, .getfield 682, .iconst 0, .iaload, .invokeinterface 183 2, .ireturn] := rfl
theorem zb_265_2 : zB 265 2 = [.aload 0, .aload 0, .getfield 682, .iconst 0, .iaload, .aload 0, .getfield 682, .iconst 1, .iaload, .aload 0, .getfield 682, .iconst 2, .iaload, .aload 0, .getfield 682, .iconst 3, .iaload, .aload 0, .getfield 682, .iconst 4, .iaload, .invokeinterface 184 6, .ireturn] := rfl
theorem zb_265_3 : zB 265 3 = [.aload 0, .aload 0, .getfield 682, .iconst 0, .iaload, .invokeinterface 188 2, .ireturn] := rfl
theorem zb_265_4 : zB 265 4 = [.aload 0, .aload 0, .getfield 682, .iconst 0, .iaload, .invokeinterface 190 2, .ireturn] := rfl
theorem zb_265_5 : zB 265 5 = [.aload 0, .aload 0, .getfield 682, .iconst 0, .iaload, .invokeinterface 191 2, .ireturn] := rfl
theorem zb_265_6 : zB 265 6 = [.aload 0, .aload 0, .getfield 682, .iconst 0, .iaload, .aload 0, .getfield 682, .iconst 1, .iaload, .aload 0, .getfield 682, .iconst 2, .iaload, .invokeinterface 186 4, .ireturn] := rfl
theorem zb_266_0 : zB 266 0 = [.aload 0, .iconst 0, .putfield 646, .aload 0, .iconst 0, .putfield 680, .goto_w 1] := rfl
theorem zb_266_1 : zB 266 1 = [.aload 0, .getfield 680, .aload 0, .getfield 645, .if_icmp .ge 2, .aload 0, .invokeinterface 264 1, .ifCond .ne 1, .iconst (-10), .aload 0, .getfield 680, .isub, .ireturn] := rfl
theorem zb_266_2 : zB 266 2 = [.aload 0, .invokeinterface 165 1, .aload 0, .iconst 0, .putfield 680, .iconst 0, .istore 1, .goto_w 3] := rfl
theorem zb_266_3 : zB 266 3 = [.aload 0, .getfield 680, .aload 0, .getfield 645, .if_icmp .ge 7, .aload 0, .invokeinterface 264 1, .ifCond .eq 4, .aload 0, .invokeinterface 265 1, .ifCond .ne 4, .iconst 1, .goto 5] := rfl
theorem zb_266_4 : zB 266 4 = [.iconst 0, .goto_w 5] := rfl
theorem zb_266_5 : zB 266 5 = [.istore 2, .iload 2, .ifCond .ne 6, .aload 0, .invokeinterface 166 1, .iconst (-1000), .iload 1, .isub, .ireturn] := rfl
theorem zb_266_6 : zB 266 6 = [.iinc 1 1, .goto 3] := rfl
theorem zb_266_7 : zB 266 7 = [.aload 0, .iload 1, .invokeinterface 167 2, .ireturn] := rfl
theorem zb_267_0 : zB 267 0 = [.aload 0, .getfield 643, .ifCond .ne 1, .aload 0, .iconst 1, .invokeinterface 163 2, .ireturn] := rfl
theorem zb_267_1 : zB 267 1 = [.aload 0, .dup, .getfield 643, .iconst 1, .isub, .putfield 643, .iconst 0, .istore 1, .goto_w 2] := rfl
theorem zb_267_2 : zB 267 2 = [.iload 1, .iconst 230, .if_icmp .ge 3, .aload 0, .getfield 640, .iload 1, .aload 0, .getfield 641, .iconst 230, .aload 0, .getfield 643, .imul, .iload 1, .iadd, .iaload, .iastore, .iinc 1 1, .goto 2] := rfl
theorem zb_267_3 : zB 267 3 = [.aload 0, .aload 0, .getfield 643, .invokeinterface 164 2, .ireturn] := rfl
theorem zb_268_0 : zB 268 0 = [.aload 0, .jsr_w 31, .aload 0, .getfield 683, .lmul, .iload 1, .i2l, .ladd, .putfield 683, .return_] := rfl
theorem zb_269_0 : zB 269 0 = [.aload 0, .iconst 0, .putfield 646, .aload 0, .jsr_w 1851, .putfield 683, .aload 0, .aload 0, .getfield 640, .iconst 0, .iaload, .invokeinterface 268 2, .aload 0, .invokeinterface 224 1, .iconst 0, .istore 1, .goto_w 1] := rfl
theorem zb_269_1 : zB 269 1 = [.iload 1, .aload 0, .getfield 640, .iconst 0, .iaload, .if_icmp .ge 4, .iconst 0, .istore 2, .goto_w 2] := rfl
theorem zb_269_2 : zB 269 2 = [.iload 2, .iconst 11, .if_icmp .ge 3, .aload 0, .aload 0, .iload 1, .iload 2, .invokeinterface 201 3, .invokeinterface 268 2, .iinc 2 1, .goto 2] := rfl
theorem zb_269_3 : zB 269 3 = [.aload 0, .aload 0, .getfield 675, .iload 1, .iaload, .invokeinterface 268 2, .iinc 1 1, .goto 1] := rfl
theorem zb_269_4 : zB 269 4 = [.aload 0, .aload 0, .getfield 640, .iconst 1, .iaload, .invokeinterface 268 2, .iconst 0, .istore 1, .goto_w 5] := rfl
theorem zb_269_5 : zB 269 5 = [.iload 1, .aload 0, .getfield 640, .iconst 1, .iaload, .if_icmp .ge 8, .iconst 0, .istore 2, .goto_w 6] := rfl
theorem zb_269_6 : zB 269 6 = [.iload 2, .iconst 6, .if_icmp .ge 7, .aload 0, .aload 0, .iload 1, .iload 2, .invokeinterface 203 3, .invokeinterface 268 2, .iinc 2 1, .goto 6] := rfl
theorem zb_269_7 : zB 269 7 = [.iinc 1 1, .goto 5] := rfl
theorem zb_269_8 : zB 269 8 = [.aload 0, .aload 0, .invokeinterface 226 1, .invokeinterface 268 2, .aload 0, .aload 0, .invokeinterface 229 1, .invokeinterface 268 2, .aload 0, .aload 0, .iconst 2, .invokeinterface 240 2, .invokeinterface 268 2, .aload 0, .aload 0, .invokeinterface 245 1, .invokeinterface 268 2, .aload 0, .aload 0, .getfield 645, .invokeinterface 268 2, .aload 0, .aload 0, .getfield 643, .invokeinterface 268 2, .aload 0, .getfield 683, .lreturn] := rfl
theorem zb_270_0 : zB 270 0 = [.aload 2, .iconst 0, .aload 0, .iload 1, .invokeinterface 116 2, .i2l, .lastore, .goto 3] := rfl
theorem zb_270_1 : zB 270 1 = [.astore 3, .iconst 1, .ireturn] := rfl
theorem zb_270_2 : zB 270 2 = [.astore 3, .iconst 2, .ireturn] := rfl
theorem zb_270_3 : zB 270 3 = [.iconst 0, .ireturn] := rfl
theorem zb_271_0 : zB 271 0 = [.aload 6, .iconst 0, .aload 0, .iload 1, .iload 2, .iload 3, .iload 4, .iload 5, .invokeinterface 117 6, .i2l, .lastore, .goto 4] := rfl
theorem zb_271_1 : zB 271 1 = [.astore 7, .iconst 1, .ireturn] := rfl
theorem zb_271_2 : zB 271 2 = [.astore 7, .iconst 2, .ireturn] := rfl
theorem zb_271_3 : zB 271 3 = [.astore 7, .iconst 3, .ireturn] := rfl
theorem zb_271_4 : zB 271 4 = [.iconst 0, .ireturn] := rfl
theorem zb_272_0 : zB 272 0 = [.aload 2, .iconst 0, .aload 0, .iload 1, .invokeinterface 118 2, .i2l, .lastore, .goto 3] := rfl
theorem zb_272_1 : zB 272 1 = [.astore 3, .iconst 1, .ireturn] := rfl
theorem zb_272_2 : zB 272 2 = [.astore 3, .iconst 2, .ireturn] := rfl
theorem zb_272_3 : zB 272 3 = [.iconst 0, .ireturn] := rfl
theorem zb_273_0 : zB 273 0 = [.aload 4, .iconst 0, .aload 0, .iload 1, .iload 2, .iload 3, .invokeinterface 119 4, .i2l, .lastore, .goto 3] := rfl
theorem zb_273_1 : zB 273 1 = [.astore 5, .iconst 1, .ireturn] := rfl
theorem zb_273_2 : zB 273 2 = [.astore 5, .iconst 2, .ireturn] := rfl
theorem zb_273_3 : zB 273 3 = [.iconst 0, .ireturn] := rfl
theorem zb_274_0 : zB 274 0 = [.aload 3, .iconst 0, .aload 0, .iload 1, .iload 2, .invokeinterface 120 3, .i2l, .lastore, .goto 3] := rfl
theorem zb_274_1 : zB 274 1 = [.astore 4, .iconst 1, .ireturn] := rfl
theorem zb_274_2 : zB 274 2 = [.astore 4, .iconst 2, .ireturn] := rfl
theorem zb_274_3 : zB 274 3 = [.iconst 0, .ireturn] := rfl
theorem zb_275_0 : zB 275 0 = [.aload 3, .iconst 0, .aload 0, .iload 1, .iload 2, .invokeinterface 123 3, .i2l, .lastore, .goto 3] := rfl
theorem zb_275_1 : zB 275 1 = [.astore 4, .iconst 1, .ireturn] := rfl
theorem zb_275_2 : zB 275 2 = [.astore 4, .iconst 2, .ireturn] := rfl
theorem zb_275_3 : zB 275 3 = [.iconst 0, .ireturn] := rfl
theorem zb_276_0 : zB 276 0 = [.aload 3, .iconst 0, .aload 0, .iload 1, .iload 2, .invokeinterface 124 3, .i2l, .lastore, .goto 3] := rfl
theorem zb_276_1 : zB 276 1 = [.astore 4, .iconst 1, .ireturn] := rfl
theorem zb_276_2 : zB 276 2 = [.astore 4, .iconst 2, .ireturn] := rfl
theorem zb_276_3 : zB 276 3 = [.iconst 0, .ireturn] := rfl
theorem zb_277_0 : zB 277 0 = [.aload 3, .iconst 0, .aload 0, .iload 1, .iload 2, .invokeinterface 125 3, .ifCond .eq 1, .jsr_w 1, .goto 2] := rfl
theorem zb_277_1 : zB 277 1 = [.jsr_w 0, .goto_w 2] := rfl
theorem zb_277_2 : zB 277 2 = [.lastore, .goto 4] := rfl
theorem zb_277_3 : zB 277 3 = [.astore 4, .iconst 1, .ireturn] := rfl
theorem zb_277_4 : zB 277 4 = [.iconst 0, .ireturn] := rfl
theorem zb_278_0 : zB 278 0 = [.aload 2, .iconst 0, .aload 0, .iload 1, .invokeinterface 127 2, .i2l, .lastore, .goto 2] := rfl
theorem zb_278_1 : zB 278 1 = [.astore 3, .iconst 1, .ireturn] := rfl
theorem zb_278_2 : zB 278 2 = [.iconst 0, .ireturn] := rfl
theorem zb_279_0 : zB 279 0 = [.aload 3, .iconst 0, .aload 0, .iload 1, .iload 2, .invokeinterface 128 3, .ifCond .eq 1, .jsr_w 1, .goto 2] := rfl
theorem zb_279_1 : zB 279 1 = [.jsr_w 0, .goto_w 2] := rfl
theorem zb_279_2 : zB 279 2 = [.lastore, .goto 5] := rfl
theorem zb_279_3 : zB 279 3 = [.astore 4, .iconst 1, .ireturn] := rfl
theorem zb_279_4 : zB 279 4 = [.astore 4, .iconst 2, .ireturn] := rfl
theorem zb_279_5 : zB 279 5 = [.iconst 0, .ireturn] := rfl
theorem zb_280_0 : zB 280 0 = [.aload 2, .iconst 0, .aload 0, .iload 1, .invokeinterface 129 2, .i2l, .lastore, .goto 3] := rfl
theorem zb_280_1 : zB 280 1 = [.astore 3, .iconst 1, .ireturn] := rfl
theorem zb_280_2 : zB 280 2 = [.astore 3, .iconst 2, .ireturn] := rfl
theorem zb_280_3 : zB 280 3 = [.iconst 0, .ireturn] := rfl
theorem zb_281_0 : zB 281 0 = [.aload 3, .iconst 0, .aload 0, .iload 1, .iload 2, .invokeinterface 130 3, .i2l, .lastore, .goto 2] := rfl
theorem zb_281_1 : zB 281 1 = [.astore 4, .iconst 1, .ireturn] := rfl
theorem zb_281_2 : zB 281 2 = [.iconst 0, .ireturn] := rfl
theorem zb_282_0 : zB 282 0 = [.aload 3, .iconst 0, .aload 0, .iload 1, .iload 2, .invokeinterface 131 3, .i2l, .lastore, .goto 2] := rfl
theorem zb_282_1 : zB 282 1 = [.astore 4, .iconst 1, .ireturn] := rfl
theorem zb_282_2 : zB 282 2 = [.iconst 0, .ireturn] := rfl
theorem zb_283_0 : zB 283 0 = [.aload 2, .iconst 0, .aload 0, .iload 1, .invokeinterface 132 2, .i2l, .lastore, .goto 2] := rfl
theorem zb_283_1 : zB 283 1 = [.astore 3, .iconst 1, .ireturn] := rfl
theorem zb_283_2 : zB 283 2 = [.iconst 0, .ireturn] := rfl
theorem zb_284_0 : zB 284 0 = [.aload 2, .iconst 0, .aload 0, .iload 1, .invokeinterface 133 2, .i2l, .lastore, .goto 2] := rfl
theorem zb_284_1 : zB 284 1 = [.astore 3, .iconst 1, .ireturn] := rfl
theorem zb_284_2 : zB 284 2 = [.iconst 0, .ireturn] := rfl
theorem zb_285_0 : zB 285 0 = [.aload 2, .iconst 0, .aload 0, .iload 1, .invokeinterface 136 2, .i2l, .lastore, .goto 3] := rfl
theorem zb_285_1 : zB 285 1 = [.astore 3, .iconst 1, .ireturn] := rfl
theorem zb_285_2 : zB 285 2 = [.astore 3, .iconst 2, .ireturn] := rfl
theorem zb_285_3 : zB 285 3 = [.iconst 0, .ireturn] := rfl
theorem zb_286_0 : zB 286 0 = [.aload 2, .iconst 0, .aload 0, .iload 1, .invokeinterface 137 2, .i2l, .lastore, .goto 3] := rfl
theorem zb_286_1 : zB 286 1 = [.astore 3, .iconst 1, .ireturn] := rfl
theorem zb_286_2 : zB 286 2 = [.astore 3, .iconst 2, .ireturn] := rfl
theorem zb_286_3 : zB 286 3 = [.iconst 0, .ireturn] := rfl
theorem zb_287_0 : zB 287 0 = [.aload 2, .iconst 0, .aload 0, .iload 1, .invokeinterface 138 2, .i2l, .lastore, .goto 2] := rfl
theorem zb_287_1 : zB 287 1 = [.astore 3, .iconst 1, .ireturn] := rfl
theorem zb_287_2 : zB 287 2 = [.iconst 0, .ireturn] := rfl
theorem zb_288_0 : zB 288 0 = [.aload 2, .iconst 0, .aload 0, .iload 1, .invokeinterface 140 2, .i2l, .lastore, .goto 3] := rfl
theorem zb_288_1 : zB 288 1 = [.astore 3, .iconst 1, .ireturn] := rfl
theorem zb_288_2 : zB 288 2 = [.astore 3, .iconst 2, .ireturn] := rfl
theorem zb_288_3 : zB 288 3 = [.iconst 0, .ireturn] := rfl
theorem zb_289_0 : zB 289 0 = [.aload 2, .iconst 0, .aload 0, .iload 1, .invokeinterface 141 2, .i2l, .lastore, .goto 3] := rfl
theorem zb_289_1 : zB 289 1 = [.astore 3, .iconst 1, .ireturn] := rfl
theorem zb_289_2 : zB 289 2 = [.astore 3, .iconst 2, .ireturn] := rfl
theorem zb_289_3 : zB 289 3 = [.iconst 0, .ireturn] := rfl
theorem zb_290_0 : zB 290 0 = [.aload 2, .iconst 0, .aload 0, .iload 1, .invokeinterface 142 2, .i2l, .lastore, .goto 2] := rfl
theorem zb_290_1 : zB 290 1 = [.astore 3, .iconst 1, .ireturn] := rfl
theorem zb_290_2 : zB 290 2 = [.iconst 0, .ireturn] := rfl
theorem zb_291_0 : zB 291 0 = [.aload 3, .iconst 0, .aload 0, .iload 1, .iload 2, .invokeinterface 143 3, .i2l, .lastore, .goto 3] := rfl
theorem zb_291_1 : zB 291 1 = [.astore 4, .iconst 1, .ireturn] := rfl
theorem zb_291_2 : zB 291 2 = [.astore 4, .iconst 2, .ireturn] := rfl
theorem zb_291_3 : zB 291 3 = [.iconst 0, .ireturn] := rfl
theorem zb_292_0 : zB 292 0 = [.aload 3, .iconst 0, .aload 0, .iload 1, .iload 2, .invokeinterface 146 3, .ifCond .eq 1, .jsr_w 1, .goto 2] := rfl
theorem zb_292_1 : zB 292 1 = [.jsr_w 0, .goto_w 2] := rfl
theorem zb_292_2 : zB 292 2 = [.lastore, .goto 5] := rfl
theorem zb_292_3 : zB 292 3 = [.astore 4, .iconst 1, .ireturn] := rfl
theorem zb_292_4 : zB 292 4 = [.astore 4, .iconst 2, .ireturn] := rfl
theorem zb_292_5 : zB 292 5 = [.iconst 0, .ireturn] := rfl
theorem zb_293_0 : zB 293 0 = [.aload 3, .iconst 0, .aload 0, .iload 1, .iload 2, .invokeinterface 147 3, .i2l, .lastore, .goto 3] := rfl
theorem zb_293_1 : zB 293 1 = [.astore 4, .iconst 1, .ireturn] := rfl
theorem zb_293_2 : zB 293 2 = [.astore 4, .iconst 2, .ireturn] := rfl
theorem zb_293_3 : zB 293 3 = [.iconst 0, .ireturn] := rfl
theorem zb_294_0 : zB 294 0 = [.aload 4, .iconst 0, .aload 0, .iload 1, .iload 2, .iload 3, .invokeinterface 148 4, .i2l, .lastore, .goto 3] := rfl
theorem zb_294_1 : zB 294 1 = [.astore 5, .iconst 1, .ireturn] := rfl
theorem zb_294_2 : zB 294 2 = [.astore 5, .iconst 2, .ireturn] := rfl
theorem zb_294_3 : zB 294 3 = [.iconst 0, .ireturn] := rfl
theorem zb_295_0 : zB 295 0 = [.aload 2, .iconst 0, .aload 0, .iload 1, .invokeinterface 149 2, .i2l, .lastore, .goto 2] := rfl
theorem zb_295_1 : zB 295 1 = [.astore 3, .iconst 1, .ireturn] := rfl
theorem zb_295_2 : zB 295 2 = [.iconst 0, .ireturn] := rfl
theorem zb_296_0 : zB 296 0 = [.aload 2, .iconst 0, .aload 0, .iload 1, .invokeinterface 150 2, .i2l, .lastore, .goto 2] := rfl
theorem zb_296_1 : zB 296 1 = [.astore 3, .iconst 1, .ireturn] := rfl
theorem zb_296_2 : zB 296 2 = [.iconst 0, .ireturn] := rfl
theorem zb_297_0 : zB 297 0 = [.aload 2, .iconst 0, .aload 0, .iload 1, .invokeinterface 151 2, .i2l, .lastore, .goto 3] := rfl
theorem zb_297_1 : zB 297 1 = [.astore 3, .iconst 1, .ireturn] := rfl
theorem zb_297_2 : zB 297 2 = [.astore 3, .iconst 2, .ireturn] := rfl
theorem zb_297_3 : zB 297 3 = [.iconst 0, .ireturn] := rfl
theorem zb_298_0 : zB 298 0 = [.aload 1, .iconst 0, .aload 0, .invokeinterface 154 1, .i2l, .lastore, .goto 2] := rfl
theorem zb_298_1 : zB 298 1 = [.astore 2, .iconst 1, .ireturn] := rfl
theorem zb_298_2 : zB 298 2 = [.iconst 0, .ireturn] := rfl
theorem zb_299_0 : zB 299 0 = [.new 9, .dup, .invokeinterface 115 1, .astore 1, .new 10, .dup, .invokeinterface 160 1, .astore 2, .iconst 1, .newarray .long, .astore 3, .iconst 0, .istore 4, .goto_w 1] := rfl
theorem zb_299_1 : zB 299 1 = [.iload 4, .aload 0, .arraylength, .iconst 6, .isub, .if_icmp .gt 107, .aload 0, .iload 4, .iaload, .iconst 63, .iand, .lookupswitch 106 #[(0, 2), (1, 5), (2, 8), (3, 11), (4, 14), (5, 17), (6, 18), (7, 19), (8, 22), (9, 25), (10, 30), (11, 31), (12, 34), (13, 39), (14, 42), (15, 45), (16, 48), (17, 51), (18, 54), (19, 55), (20, 56), (21, 59), (22, 62), (23, 65), (24, 66), (25, 69), (26, 72), (27, 75), (28, 78), (29, 79), (30, 80), (31, 85), (32, 88), (33, 91), (34, 94), (35, 97), (36, 100), (37, 101), (38, 102), (39, 105)]] := rfl
theorem zb_299_2 : zB 299 2 = [.aload 1, .aload 0, .iload 4, .iconst 1, .iadd, .iaload, .aload 3, .invokeinterface 270 3, .istore 5, .aload 2, .aload 0, .iload 4, .iconst 1, .iadd, .iaload, .invokeinterface 193 2, .istore 6, .aload 2, .invokeinterface 161 1, .iload 5, .if_icmp .eq 3, .iconst 0, .ireturn] := rfl
theorem zb_299_3 : zB 299 3 = [.iload 5, .ifCond .ne 4, .aload 3, .iconst 0, .laload, .iload 6, .i2l, .lcmp, .ifCond .eq 4, .iconst 0, .ireturn] := rfl
theorem zb_299_4 : zB 299 4 = [.goto 106] := rfl
theorem zb_299_5 : zB 299 5 = [.aload 1, .aload 0, .iload 4, .iconst 1, .iadd, .iaload, .aload 0, .iload 4, .iconst 2, .iadd, .iaload, .aload 0, .iload 4, .iconst 3, .iadd, .iaload, .aload 0, .iload 4, .iconst 4, .iadd, .iaload, .aload 0, .iload 4, .iconst 5, .iadd, .iaload, .aload 3, .invokeinterface 271 7, .istore 5, .aload 2, .aload 0, .iload 4, .iconst 1, .iadd, .iaload, .aload 0, .iload 4, .iconst 2, .iadd, .iaload, .aload 0, .iload 4, .iconst 3, .iadd, .iaload, .aload 0, .iload 4, .iconst 4, .iadd, .iaload, .aload 0, .iload 4, .iconst 5, .iadd, .iaload, .invokeinterface 194 6, .istore 6, .aload 2, .invokeinterface 161 1, .iload 5, .if_icmp .eq 6, .iconst 0, .ireturn] := rfl
theorem zb_299_6 : zB 299 6 = [.iload 5, .ifCond .ne 7, .aload 3, .iconst 0, .laload, .iload 6, .i2l, .lcmp, .ifCond .eq 7, .iconst 0, .ireturn] := rfl
theorem zb_299_7 : zB 299 7 = [.goto 106] := rfl
theorem zb_299_8 : zB 299 8 = [.aload 1, .aload 0, .iload 4, .iconst 1, .iadd, .iaload, .aload 3, .invokeinterface 272 3, .istore 5, .aload 2, .aload 0, .iload 4, .iconst 1, .iadd, .iaload, .invokeinterface 196 2, .istore 6, .aload 2, .invokeinterface 161 1, .iload 5, .if_icmp .eq 9, .iconst 0, .ireturn] := rfl
theorem zb_299_9 : zB 299 9 = [.iload 5, .ifCond .ne 10, .aload 3, .iconst 0, .laload, .iload 6, .i2l, .lcmp, .ifCond .eq 10, .iconst 0, .ireturn] := rfl
theorem zb_299_10 : zB 299 10 = [.goto 106] := rfl
theorem zb_299_11 : zB 299 11 = [.aload 1, .aload 0, .iload 4, .iconst 1, .iadd, .iaload, .aload 0, .iload 4, .iconst 2, .iadd, .iaload, .aload 0, .iload 4, .iconst 3, .iadd, .iaload, .aload 3, .invokeinterface 273 5, .istore 5, .aload 2, .aload 0, .iload 4, .iconst 1, .iadd, .iaload, .aload 0, .iload 4, .iconst 2, .iadd, .iaload, .aload 0, .iload 4, .iconst 3, .iadd, .iaload, .invokeinterface 197 4, .istore 6, .aload 2, .invokeinterface 161 1, .iload 5, .if_icmp .eq 12, .iconst 0, .ireturn] := rfl
theorem zb_299_12 : zB 299 12 = [.iload 5, .ifCond .ne 13, .aload 3, .iconst 0, .laload, .iload 6, .i2l, .lcmp, .ifCond .eq 13, .iconst 0, .ireturn] := rfl
theorem zb_299_13 : zB 299 13 = [.goto 106] := rfl
theorem zb_299_14 : zB 299 14 = [.aload 1, .aload 0, .iload 4, .iconst 1, .iadd, .iaload, .aload 0, .iload 4, .iconst 2, .iadd, .iaload, .aload 3, .invokeinterface 274 4, .istore 5, .aload 2, .aload 0, .iload 4, .iconst 1, .iadd, .iaload, .aload 0, .iload 4, .iconst 2, .iadd, .iaload, .invokeinterface 198 3, .istore 6, .aload 2, .invokeinterface 161 1, .iload 5, .if_icmp .eq 15, .iconst 0, .ireturn] := rfl
theorem zb_299_15 : zB 299 15 = [.iload 5, .ifCond .ne 16, .aload 3, .iconst 0, .laload, .iload 6, .i2l, .lcmp, .ifCond .eq 16, .iconst 0, .ireturn] := rfl
theorem zb_299_16 : zB 299 16 = [.goto 106] := rfl
theorem zb_299_17 : zB 299 17 = [.aload 1, .invokeinterface 121 1, .aload 2, .invokeinterface 199 1, .if_icmp .eq 106, .iconst 0, .ireturn] := rfl
theorem zb_299_18 : zB 299 18 = [.aload 1, .invokeinterface 122 1, .aload 2, .invokeinterface 200 1, .if_icmp .eq 106, .iconst 0, .ireturn] := rfl
theorem zb_299_19 : zB 299 19 = [.aload 1, .aload 0, .iload 4, .iconst 1, .iadd, .iaload, .aload 0, .iload 4, .iconst 2, .iadd, .iaload, .aload 3, .invokeinterface 275 4, .istore 5, .aload 2, .aload 0, .iload 4, .iconst 1, .iadd, .iaload, .aload 0, .iload 4, .iconst 2, .iadd, .iaload, .invokeinterface 202 3, .istore 6, .aload 2, .invokeinterface 161 1, .iload 5, .if_icmp .eq 20, .iconst 0, .ireturn] := rfl
theorem zb_299_20 : zB 299 20 = [.iload 5, .ifCond .ne 21, .aload 3, .iconst 0, .laload, .iload 6, .i2l, .lcmp, .ifCond .eq 21, .iconst 0, .ireturn] := rfl
theorem zb_299_21 : zB 299 21 = [.goto 106] := rfl
theorem zb_299_22 : zB 299 22 = [.aload 1, .aload 0, .iload 4, .iconst 1, .iadd, .iaload, .aload 0, .iload 4, .iconst 2, .iadd, .iaload, .aload 3, .invokeinterface 276 4, .istore 5, .aload 2, .aload 0, .iload 4, .iconst 1, .iadd, .iaload, .aload 0, .iload 4, .iconst 2, .iadd, .iaload, .invokeinterface 204 3, .istore 6, .aload 2, .invokeinterface 161 1, .iload 5, .if_icmp .eq 23, .iconst 0, .ireturn] := rfl
theorem zb_299_23 : zB 299 23 = [.iload 5, .ifCond .ne 24, .aload 3, .iconst 0, .laload, .iload 6, .i2l, .lcmp, .ifCond .eq 24, .iconst 0, .ireturn] := rfl
theorem zb_299_24 : zB 299 24 = [.goto 106] := rfl
theorem zb_299_25 : zB 299 25 = [.aload 1, .aload 0, .iload 4, .iconst 1, .iadd, .iaload, .aload 0, .iload 4, .iconst 2, .iadd, .iaload, .aload 3, .invokeinterface 277 4, .istore 5, .aload 2, .aload 0, .iload 4, .iconst 1, .iadd, .iaload, .aload 0, .iload 4, .iconst 2, .iadd, .iaload, .invokeinterface 205 3, .istore 6, .aload 2, .invokeinterface 161 1, .iload 5, .if_icmp .eq 26, .iconst 0, .ireturn] := rfl
theorem zb_299_26 : zB 299 26 = [.iload 5, .ifCond .ne 29, .aload 3, .iconst 0, .laload, .iload 6, .ifCond .eq 27, .jsr_w 1, .goto 28] := rfl
theorem zb_299_27 : zB 299 27 = [.jsr_w 0, .goto_w 28] := rfl
theorem zb_299_28 : zB 299 28 = [.lcmp, .ifCond .eq 29, .iconst 0, .ireturn] := rfl
theorem zb_299_29 : zB 299 29 = [.goto 106] := rfl
theorem zb_299_30 : zB 299 30 = [.aload 1, .aload 0, .iload 4, .iconst 1, .iadd, .iaload, .invokeinterface 126 2, .aload 2, .aload 0, .iload 4, .iconst 1, .iadd, .iaload, .invokeinterface 206 2, .if_icmp .eq 106, .iconst 0, .ireturn] := rfl
theorem zb_299_31 : zB 299 31 = [.aload 1, .aload 0, .iload 4, .iconst 1, .iadd, .iaload, .aload 3, .invokeinterface 278 3, .istore 5, .aload 2, .aload 0, .iload 4, .iconst 1, .iadd, .iaload, .invokeinterface 208 2, .istore 6, .aload 2, .invokeinterface 161 1, .iload 5, .if_icmp .eq 32, .iconst 0, .ireturn] := rfl
theorem zb_299_32 : zB 299 32 = [.iload 5, .ifCond .ne 33, .aload 3, .iconst 0, .laload, .iload 6, .i2l, .lcmp, .ifCond .eq 33, .iconst 0, .ireturn] := rfl
theorem zb_299_33 : zB 299 33 = [.goto 106] := rfl
theorem zb_299_34 : zB 299 34 = [.aload 1, .aload 0, .iload 4, .iconst 1, .iadd, .iaload, .aload 0, .iload 4, .iconst 2, .iadd, .iaload, .aload 3, .invokeinterface 279 4, .istore 5, .aload 2, .aload 0, .iload 4, .iconst 1, .iadd, .iaload, .aload 0, .iload 4, .iconst 2, .iadd, .iaload, .invokeinterface 218 3, .istore 6, .aload 2, .invokeinterface 161 1, .iload 5, .if_icmp .eq 35, .iconst 0, .ireturn] := rfl
theorem zb_299_35 : zB 299 35 = [.iload 5, .ifCond .ne 38, .aload 3, .iconst 0, .laload, .iload 6, .ifCond .eq 36, .jsr_w 1, .goto 37] := rfl
theorem zb_299_36 : zB 299 36 = [.jsr_w 0, .goto_w 37] := rfl
theorem zb_299_37 : zB 299 37 = [.lcmp, .ifCond .eq 38, .iconst 0, .ireturn] := rfl
theorem zb_299_38 : zB 299 38 = [.goto 106] := rfl
theorem zb_299_39 : zB 299 39 = [.aload 1, .aload 0, .iload 4, .iconst 1, .iadd, .iaload, .aload 3, .invokeinterface 280 3, .istore 5, .aload 2, .aload 0, .iload 4, .iconst 1, .iadd, .iaload, .invokeinterface 219 2, .istore 6, .aload 2, .invokeinterface 161 1, .iload 5, .if_icmp .eq 40, .iconst 0, .ireturn] := rfl
theorem zb_299_40 : zB 299 40 = [.iload 5, .ifCond .ne 41, .aload 3, .iconst 0, .laload, .iload 6, .i2l, .lcmp, .ifCond .eq 41, .iconst 0, .ireturn] := rfl
theorem zb_299_41 : zB 299 41 = [.goto 106] := rfl
theorem zb_299_42 : zB 299 42 = [.aload 1, .aload 0, .iload 4, .iconst 1, .iadd, .iaload, .aload 0, .iload 4, .iconst 2, .iadd, .iaload, .aload 3, .invokeinterface 281 4, .istore 5, .aload 2, .aload 0, .iload 4, .iconst 1, .iadd, .iaload, .aload 0, .iload 4, .iconst 2, .iadd, .iaload, .invokeinterface 220 3, .istore 6, .aload 2, .invokeinterface 161 1, .iload 5, .if_icmp .eq 43, .iconst 0, .ireturn] := rfl
theorem zb_299_43 : zB 299 43 = [.iload 5, .ifCond .ne 44, .aload 3, .iconst 0, .laload, .iload 6, .i2l, .lcmp, .ifCond .eq 44, .iconst 0, .ireturn] := rfl
theorem zb_299_44 : zB 299 44 = [.goto 106] := rfl
theorem zb_299_45 : zB 299 45 = [.aload 1, .aload 0, .iload 4, .iconst 1, .iadd, .iaload, .aload 0, .iload 4, .iconst 2, .iadd, .iaload, .aload 3, .invokeinterface 282 4, .istore 5, .aload 2, .aload 0, .iload 4, .iconst 1, .iadd, .iaload, .aload 0, .iload 4, .iconst 2, .iadd, .iaload, .invokeinterface 221 3, .istore 6, .aload 2, .invokeinterface 161 1, .iload 5, .if_icmp .eq 46, .iconst 0, .ireturn] := rfl
theorem zb_299_46 : zB 299 46 = [.iload 5, .ifCond .ne 47, .aload 3, .iconst 0, .laload, .iload 6, .i2l, .lcmp, .ifCond .eq 47, .iconst 0, .ireturn] := rfl
theorem zb_299_47 : zB 299 47 = [.goto 106] := rfl
theorem zb_299_48 : zB 299 48 = [.aload 1, .aload 0, .iload 4, .iconst 1, .iadd, .iaload, .aload 3, .invokeinterface 283 3, .istore 5, .aload 2, .aload 0, .iload 4, .iconst 1, .iadd, .iaload, .invokeinterface 222 2, .istore 6, .aload 2, .invokeinterface 161 1, .iload 5, .if_icmp .eq 49, .iconst 0, .ireturn] := rfl
theorem zb_299_49 : zB 299 49 = [.iload 5, .ifCond .ne 50, .aload 3, .iconst 0, .laload, .iload 6, .i2l, .lcmp, .ifCond .eq 50, .iconst 0, .ireturn] := rfl
theorem zb_299_50 : zB 299 50 = [.goto 106] := rfl
theorem zb_299_51 : zB 299 51 = [.aload 1, .aload 0, .iload 4, .iconst 1, .iadd, .iaload, .aload 3, .invokeinterface 284 3, .istore 5, .aload 2, .aload 0, .iload 4, .iconst 1, .iadd, .iaload, .invokeinterface 225 2, .istore 6, .aload 2, .invokeinterface 161 1, .iload 5, .if_icmp .eq 52, .iconst 0, .ireturn] := rfl
theorem zb_299_52 : zB 299 52 = [.iload 5, .ifCond .ne 53, .aload 3, .iconst 0, .laload, .iload 6, .i2l, .lcmp, .ifCond .eq 53, .iconst 0, .ireturn] := rfl
theorem zb_299_53 : zB 299 53 = [.goto 106] := rfl
theorem zb_299_54 : zB 299 54 = [.aload 1, .invokeinterface 134 1, .aload 2, .invokeinterface 227 1, .if_icmp .eq 106, .iconst 0, .ireturn] := rfl
theorem zb_299_55 : zB 299 55 = [.aload 1, .invokeinterface 135 1, .aload 2, .invokeinterface 228 1, .if_icmp .eq 106, .iconst 0, .ireturn] := rfl
theorem zb_299_56 : zB 299 56 = [.aload 1, .aload 0, .iload 4, .iconst 1, .iadd, .iaload, .aload 3, .invokeinterface 285 3, .istore 5, .aload 2, .aload 0, .iload 4, .iconst 1, .iadd, .iaload, .invokeinterface 232 2, .istore 6, .aload 2, .invokeinterface 161 1, .iload 5, .if_icmp .eq 57, .iconst 0, .ireturn] := rfl
theorem zb_299_57 : zB 299 57 = [.iload 5, .ifCond .ne 58, .aload 3, .iconst 0, .laload, .iload 6, .i2l, .lcmp, .ifCond .eq 58, .iconst 0, .ireturn] := rfl
theorem zb_299_58 : zB 299 58 = [.goto 106] := rfl
theorem zb_299_59 : zB 299 59 = [.aload 1, .aload 0, .iload 4, .iconst 1, .iadd, .iaload, .aload 3, .invokeinterface 286 3, .istore 5, .aload 2, .aload 0, .iload 4, .iconst 1, .iadd, .iaload, .invokeinterface 233 2, .istore 6, .aload 2, .invokeinterface 161 1, .iload 5, .if_icmp .eq 60, .iconst 0, .ireturn] := rfl
theorem zb_299_60 : zB 299 60 = [.iload 5, .ifCond .ne 61, .aload 3, .iconst 0, .laload, .iload 6, .i2l, .lcmp, .ifCond .eq 61, .iconst 0, .ireturn] := rfl
theorem zb_299_61 : zB 299 61 = [.goto 106] := rfl
theorem zb_299_62 : zB 299 62 = [.aload 1, .aload 0, .iload 4, .iconst 1, .iadd, .iaload, .aload 3, .invokeinterface 287 3, .istore 5, .aload 2, .aload 0, .iload 4, .iconst 1, .iadd, .iaload, .invokeinterface 234 2, .istore 6, .aload 2, .invokeinterface 161 1, .iload 5, .if_icmp .eq 63, .iconst 0, .ireturn] := rfl
theorem zb_299_63 : zB 299 63 = [.iload 5, .ifCond .ne 64, .aload 3, .iconst 0, .laload, .iload 6, .i2l, .lcmp, .ifCond .eq 64, .iconst 0, .ireturn] := rfl
theorem zb_299_64 : zB 299 64 = [.goto 106] := rfl
theorem zb_299_65 : zB 299 65 = [.aload 1, .invokeinterface 139 1, .aload 2, .invokeinterface 235 1, .if_icmp .eq 106, .iconst 0, .ireturn] := rfl
theorem zb_299_66 : zB 299 66 = [.aload 1, .aload 0, .iload 4, .iconst 1, .iadd, .iaload, .aload 3, .invokeinterface 288 3, .istore 5, .aload 2, .aload 0, .iload 4, .iconst 1, .iadd, .iaload, .invokeinterface 237 2, .istore 6, .aload 2, .invokeinterface 161 1, .iload 5, .if_icmp .eq 67, .iconst 0, .ireturn] := rfl
theorem zb_299_67 : zB 299 67 = [.iload 5, .ifCond .ne 68, .aload 3, .iconst 0, .laload, .iload 6, .i2l, .lcmp, .ifCond .eq 68, .iconst 0, .ireturn] := rfl
theorem zb_299_68 : zB 299 68 = [.goto 106] := rfl
theorem zb_299_69 : zB 299 69 = [.aload 1, .aload 0, .iload 4, .iconst 1, .iadd, .iaload, .aload 3, .invokeinterface 289 3, .istore 5, .aload 2, .aload 0, .iload 4, .iconst 1, .iadd, .iaload, .invokeinterface 238 2, .istore 6, .aload 2, .invokeinterface 161 1, .iload 5, .if_icmp .eq 70, .iconst 0, .ireturn] := rfl
theorem zb_299_70 : zB 299 70 = [.iload 5, .ifCond .ne 71, .aload 3, .iconst 0, .laload, .iload 6, .i2l, .lcmp, .ifCond .eq 71, .iconst 0, .ireturn] := rfl
theorem zb_299_71 : zB 299 71 = [.goto 106] := rfl
theorem zb_299_72 : zB 299 72 = [.aload 1, .aload 0, .iload 4, .iconst 1, .iadd, .iaload, .aload 3, .invokeinterface 290 3, .istore 5, .aload 2, .aload 0, .iload 4, .iconst 1, .iadd, .iaload, .invokeinterface 241 2, .istore 6, .aload 2, .invokeinterface 161 1, .iload 5, .if_icmp .eq 73, .iconst 0, .ireturn] := rfl
theorem zb_299_73 : zB 299 73 = [.iload 5, .ifCond .ne 74, .aload 3, .iconst 0, .laload, .iload 6, .i2l, .lcmp, .ifCond .eq 74, .iconst 0, .ireturn] := rfl
theorem zb_299_74 : zB 299 74 = [.goto 106] := rfl
theorem zb_299_75 : zB 299 75 = [.aload 1, .aload 0, .iload 4, .iconst 1, .iadd, .iaload, .aload 0, .iload 4, .iconst 2, .iadd, .iaload, .aload 3, .invokeinterface 291 4, .istore 5, .aload 2, .aload 0, .iload 4, .iconst 1, .iadd, .iaload, .aload 0, .iload 4, .iconst 2, .iadd, .iaload, .invokeinterface 242 3, .istore 6, .aload 2, .invokeinterface 161 1, .iload 5, .if_icmp .eq 76, .iconst 0, .ireturn] := rfl
theorem zb_299_76 : zB 299 76 = [.iload 5, .ifCond .ne 77, .aload 3, .iconst 0, .laload, .iload 6, .i2l, .lcmp, .ifCond .eq 77, .iconst 0, .ireturn] := rfl
theorem zb_299_77 : zB 299 77 = [.goto 106] := rfl
theorem zb_299_78 : zB 299 78 = [.aload 1, .invokeinterface 144 1, .aload 2, .invokeinterface 246 1, .if_icmp .eq 106, .iconst 0, .ireturn] := rfl
theorem zb_299_79 : zB 299 79 = [.aload 1, .aload 0, .iload 4, .iconst 1, .iadd, .iaload, .invokeinterface 145 2, .aload 2, .aload 0, .iload 4, .iconst 1, .iadd, .iaload, .invokeinterface 247 2, .if_icmp .eq 106, .iconst 0, .ireturn] := rfl
theorem zb_299_80 : zB 299 80 = [.aload 1, .aload 0, .iload 4, .iconst 1, .iadd, .iaload, .aload 0, .iload 4, .iconst 2, .iadd, .iaload, .aload 3, .invokeinterface 292 4, .istore 5, .aload 2, .aload 0, .iload 4, .iconst 1, .iadd, .iaload, .aload 0, .iload 4, .iconst 2, .iadd, .iaload, .invokeinterface 249 3, .istore 6, .aload 2, .invokeinterface 161 1, .iload 5, .if_icmp .eq 81, .iconst 0, .ireturn] := rfl
theorem zb_299_81 : zB 299 81 = [.iload 5, .ifCond .ne 84, .aload 3, .iconst 0, .laload, .iload 6, .ifCond .eq 82, .jsr_w 1, .goto 83] := rfl
theorem zb_299_82 : zB 299 82 = [.jsr_w 0, .goto_w 83] := rfl
theorem zb_299_83 : zB 299 83 = [.lcmp, .ifCond .eq 84, .iconst 0, .ireturn] := rfl
theorem zb_299_84 : zB 299 84 = [.goto 106] := rfl
theorem zb_299_85 : zB 299 85 = [.aload 1, .aload 0, .iload 4, .iconst 1, .iadd, .iaload, .aload 0, .iload 4, .iconst 2, .iadd, .iaload, .aload 3, .invokeinterface 293 4, .istore 5, .aload 2, .aload 0, .iload 4, .iconst 1, .iadd, .iaload, .aload 0, .iload 4, .iconst 2, .iadd, .iaload, .invokeinterface 254 3, .istore 6, .aload 2, .invokeinterface 161 1, .iload 5, .if_icmp .eq 86, .iconst 0, .ireturn] := rfl
theorem zb_299_86 : zB 299 86 = [.iload 5, .ifCond .ne 87, .aload 3, .iconst 0, .laload, .iload 6, .i2l, .lcmp, .ifCond .eq 87, .iconst 0, .ireturn] := rfl
theorem zb_299_87 : zB 299 87 = [.goto 106] := rfl
theorem zb_299_88 : zB 299 88 = [.aload 1, .aload 0, .iload 4, .iconst 1, .iadd, .iaload, .aload 0, .iload 4, .iconst 2, .iadd, .iaload, .aload 0, .iload 4, .iconst 3, .iadd, .iaload, .aload 3, .invokeinterface 294 5, .istore 5, .aload 2, .aload 0, .iload 4, .iconst 1, .iadd, .iaload, .aload 0, .iload 4, .iconst 2, .iadd, .iaload, .aload 0, .iload 4, .iconst 3, .iadd, .iaload, .invokeinterface 255 4, .istore 6, .aload 2, .invokeinterface 161 1, .iload 5, .if_icmp .eq 89, .iconst 0, .ireturn] := rfl
theorem zb_299_89 : zB 299 89 = [.iload 5, .ifCond .ne 90, .aload 3, .iconst 0, .laload, .iload 6, .i2l, .lcmp, .ifCond .eq 90, .iconst 0, .ireturn] := rfl
theorem zb_299_90 : zB 299 90 = [.goto 106] := rfl
theorem zb_299_91 : zB 299 91 = [.aload 1, .aload 0, .iload 4, .iconst 1, .iadd, .iaload, .aload 3, .invokeinterface 295 3, .istore 5, .aload 2, .aload 0, .iload 4, .iconst 1, .iadd, .iaload, .invokeinterface 257 2, .istore 6, .aload 2, .invokeinterface 161 1, .iload 5, .if_icmp .eq 92, .iconst 0, .ireturn] := rfl
theorem zb_299_92 : zB 299 92 = [.iload 5, .ifCond .ne 93, .aload 3, .iconst 0, .laload, .iload 6, .i2l, .lcmp, .ifCond .eq 93, .iconst 0, .ireturn] := rfl
theorem zb_299_93 : zB 299 93 = [.goto 106] := rfl
theorem zb_299_94 : zB 299 94 = [.aload 1, .aload 0, .iload 4, .iconst 1, .iadd, .iaload, .aload 3, .invokeinterface 296 3, .istore 5, .aload 2, .aload 0, .iload 4, .iconst 1, .iadd, .iaload, .invokeinterface 258 2, .istore 6, .aload 2, .invokeinterface 161 1, .iload 5, .if_icmp .eq 95, .iconst 0, .ireturn] := rfl
theorem zb_299_95 : zB 299 95 = [.iload 5, .ifCond .ne 96, .aload 3, .iconst 0, .laload, .iload 6, .i2l, .lcmp, .ifCond .eq 96, .iconst 0, .ireturn] := rfl
theorem zb_299_96 : zB 299 96 = [.goto 106] := rfl
theorem zb_299_97 : zB 299 97 = [.aload 1, .aload 0, .iload 4, .iconst 1, .iadd, .iaload, .aload 3, .invokeinterface 297 3, .istore 5, .aload 2, .aload 0, .iload 4, .iconst 1, .iadd, .iaload, .invokeinterface 259 2, .istore 6, .aload 2, .invokeinterface 161 1, .iload 5, .if_icmp .eq 98, .iconst 0, .ireturn] := rfl
theorem zb_299_98 : zB 299 98 = [.iload 5, .ifCond .ne 99, .aload 3, .iconst 0, .laload, .iload 6, .i2l, .lcmp, .ifCond .eq 99, .iconst 0, .ireturn] := rfl
theorem zb_299_99 : zB 299 99 = [.goto 106] := rfl
theorem zb_299_100 : zB 299 100 = [.aload 1, .invokeinterface 152 1, .aload 2, .invokeinterface 260 1, .if_icmp .eq 106, .iconst 0, .ireturn] := rfl
theorem zb_299_101 : zB 299 101 = [.aload 1, .invokeinterface 153 1, .aload 2, .invokeinterface 266 1, .if_icmp .eq 106, .iconst 0, .ireturn] := rfl
theorem zb_299_102 : zB 299 102 = [.aload 1, .aload 3, .invokeinterface 298 2, .istore 5, .aload 2, .invokeinterface 267 1, .istore 6, .aload 2, .invokeinterface 161 1, .iload 5, .if_icmp .eq 103, .iconst 0, .ireturn] := rfl
theorem zb_299_103 : zB 299 103 = [.iload 5, .ifCond .ne 104, .aload 3, .iconst 0, .laload, .iload 6, .i2l, .lcmp, .ifCond .eq 104, .iconst 0, .ireturn] := rfl
theorem zb_299_104 : zB 299 104 = [.goto 106] := rfl
theorem zb_299_105 : zB 299 105 = [.aload 1, .invokeinterface 155 1, .aload 2, .invokeinterface 269 1, .lcmp, .ifCond .eq 106, .iconst 0, .ireturn] := rfl
theorem zb_299_106 : zB 299 106 = [.iinc 4 6, .goto 1] := rfl
theorem zb_299_107 : zB 299 107 = [.iconst 1, .ireturn] := rfl
theorem zb_300_0 : zB 300 0 = [.iload 0, .iload 1, .if_icmp .lt 1, .iload 0, .goto 2] := rfl
theorem zb_300_1 : zB 300 1 = [.iload 1, .goto_w 2] := rfl
theorem zb_300_2 : zB 300 2 = [.ireturn] := rfl
theorem zb_301_0 : zB 301 0 = [.iload 0, .iload 1, .if_icmp .gt 1, .iload 0, .goto 2] := rfl
theorem zb_301_1 : zB 301 1 = [.iload 1, .goto_w 2] := rfl
theorem zb_301_2 : zB 301 2 = [.ireturn] := rfl
theorem zb_302_0 : zB 302 0 = [.iload 0, .iload 0, .iconst 1, .iushr, .iconst 1431655765, .iand, .isub, .istore 0, .iload 0, .iconst 858993459, .iand, .iload 0, .iconst 2, .iushr, .iconst 858993459, .iand, .iadd, .istore 0, .iload 0, .iload 0, .iconst 4, .iushr, .iadd, .iconst 252645135, .iand, .istore 0, .iload 0, .iload 0, .iconst 8, .iushr, .iadd, .istore 0, .iload 0, .iload 0, .iconst 16, .iushr, .iadd, .istore 0, .iload 0, .iconst 63, .iand, .ireturn] := rfl
theorem zb_303_0 : zB 303 0 = [.fload 0, .invokeinterface 304 1, .ifCond .ne 1, .fload 0, .f2i, .ireturn] := rfl
theorem zb_303_1 : zB 303 1 = [.iconst 2143289344, .ireturn] := rfl
theorem zb_304_0 : zB 304 0 = [.fload 0, .fload 0, .fcmp .l, .ifCond .eq 1, .iconst 1, .goto 2] := rfl
theorem zb_304_1 : zB 304 1 = [.iconst 0, .goto_w 2] := rfl
theorem zb_304_2 : zB 304 2 = [.ireturn] := rfl
theorem zc_0 {d : Nat} {a0 : Value} {h : zH} {Q : zO → zH → Prop} : zcall (d + 1) 0 [a0] h Q = zwp (zcall d) 0 Q (zB 0 0) [a0] [] h := rfl
theorem zc_1 {d : Nat} {a0 a1 a2 : Value} {h : zH} {Q : zO → zH → Prop} : zcall (d + 1) 1 [a0, a1, a2] h Q = zwp (zcall d) 1 Q (zB 1 0) [a0, a1, a2, zJ, zJ] [] h := rfl
theorem zc_2 {d : Nat} {a0 a1 a2 a3 : Value} {h : zH} {Q : zO → zH → Prop} : zcall (d + 1) 2 [a0, a1, a2, a3] h Q = zwp (zcall d) 2 Q (zB 2 0) [a0, a1, a2, a3, zJ] [] h := rfl
theorem zc_3 {d : Nat} {a0 a1 a2 a3 a4 a5 : Value} {h : zH} {Q : zO → zH → Prop} : zcall (d + 1) 3 [a0, a1, a2, a3, a4, a5] h Q = zwp (zcall d) 3 Q (zB 3 0) [a0, a1, a2, a3, a4, a5] [] h := rfl
theorem zc_4 {d : Nat} {a0 a1 a2 a3 a4 : Value} {h : zH} {Q : zO → zH → Prop} : zcall (d + 1) 4 [a0, a1, a2, a3, a4] h Q = zwp (zcall d) 4 Q (zB 4 0) [a0, a1, a2, a3, a4] [] h := rfl
theorem zc_5 {d : Nat} {a0 : Value} {h : zH} {Q : zO → zH → Prop} : zcall (d + 1) 5 [a0] h Q = zwp (zcall d) 5 Q (zB 5 0) [a0] [] h := rfl
theorem zc_6 {d : Nat} {a0 : Value} {h : zH} {Q : zO → zH → Prop} : zcall (d + 1) 6 [a0] h Q = zwp (zcall d) 6 Q (zB 6 0) [a0] [] h := rfl
theorem zc_7 {d : Nat} {a0 a1 a2 : Value} {h : zH} {Q : zO → zH → Prop} : zcall (d + 1) 7 [a0, a1, a2] h Q = zwp (zcall d) 7 Q (zB 7 0) [a0, a1, a2, zJ, zJ, zJ, zJ] [] h := rfl
theorem zc_8 {d : Nat} {a0 a1 : Value} {h : zH} {Q : zO → zH → Prop} : zcall (d + 1) 8 [a0, a1] h Q = zwp (zcall d) 8 Q (zB 8 0) [a0, a1] [] h := rfl
theorem zc_9 {d : Nat} {a0 a1 a2 a3 : Value} {h : zH} {Q : zO → zH → Prop} : zcall (d + 1) 9 [a0, a1, a2, a3] h Q = zwp (zcall d) 9 Q (zB 9 0) [a0, a1, a2, a3, zJ, zJ, zJ] [] h := rfl
theorem zc_10 {d : Nat} {a0 a1 a2 : Value} {h : zH} {Q : zO → zH → Prop} : zcall (d + 1) 10 [a0, a1, a2] h Q = zwp (zcall d) 10 Q (zB 10 0) [a0, a1, a2] [] h := rfl
theorem zc_11 {d : Nat} {a0 a1 a2 a3 : Value} {h : zH} {Q : zO → zH → Prop} : zcall (d + 1) 11 [a0, a1, a2, a3] h Q = zwp (zcall d) 11 Q (zB 11 0) [a0, a1, a2, a3, zJ] [] h := rfl
theorem zc_12 {d : Nat} {a0 a1 a2 a3 : Value} {h : zH} {Q : zO → zH → Prop} : zcall (d + 1) 12 [a0, a1, a2, a3] h Q = zwp (zcall d) 12 Q (zB 12 0) [a0, a1, a2, a3, zJ, zJ] [] h := rfl
theorem zc_13 {d : Nat} {a0 a1 a2 a3 a4 : Value} {h : zH} {Q : zO → zH → Prop} : zcall (d + 1) 13 [a0, a1, a2, a3, a4] h Q = zwp (zcall d) 13 Q (zB 13 0) [a0, a1, a2, a3, a4, zJ, zJ] [] h := rfl
theorem zc_14 {d : Nat} {a0 a1 a2 a3 : Value} {h : zH} {Q : zO → zH → Prop} : zcall (d + 1) 14 [a0, a1, a2, a3] h Q = zwp (zcall d) 14 Q (zB 14 0) [a0, a1, a2, a3, zJ, zJ, zJ] [] h := rfl
theorem zc_15 {d : Nat} {a0 a1 a2 : Value} {h : zH} {Q : zO → zH → Prop} : zcall (d + 1) 15 [a0, a1, a2] h Q = zwp (zcall d) 15 Q (zB 15 0) [a0, a1, a2, zJ, zJ, zJ, zJ, zJ, zJ, zJ, zJ] [] h := rfl
theorem zc_16 {d : Nat} {a0 a1 a2 : Value} {h : zH} {Q : zO → zH → Prop} : zcall (d + 1) 16 [a0, a1, a2] h Q = zwp (zcall d) 16 Q (zB 16 0) [a0, a1, a2, zJ, zJ, zJ, zJ, zJ, zJ] [] h := rfl
theorem zc_17 {d : Nat} {a0 : Value} {h : zH} {Q : zO → zH → Prop} : zcall (d + 1) 17 [a0] h Q = zwp (zcall d) 17 Q (zB 17 0) [a0] [] h := rfl
theorem zc_18 {d : Nat} {a0 a1 : Value} {h : zH} {Q : zO → zH → Prop} : zcall (d + 1) 18 [a0, a1] h Q = zwp (zcall d) 18 Q (zB 18 0) [a0, a1, zJ, zJ, zJ] [] h := rfl
theorem zc_19 {d : Nat} {a0 a1 : Value} {h : zH} {Q : zO → zH → Prop} : zcall (d + 1) 19 [a0, a1] h Q = zwp (zcall d) 19 Q (zB 19 0) [a0, a1, zJ] [] h := rfl
theorem zc_20 {d : Nat} {a0 a1 a2 : Value} {h : zH} {Q : zO → zH → Prop} : zcall (d + 1) 20 [a0, a1, a2] h Q = zwp (zcall d) 20 Q (zB 20 0) [a0, a1, a2, zJ] [] h := rfl
theorem zc_21 {d : Nat} {a0 a1 : Value} {h : zH} {Q : zO → zH → Prop} : zcall (d + 1) 21 [a0, a1] h Q = zwp (zcall d) 21 Q (zB 21 0) [a0, a1] [] h := rfl
theorem zc_22 {d : Nat} {a0 : Value} {h : zH} {Q : zO → zH → Prop} : zcall (d + 1) 22 [a0] h Q = zwp (zcall d) 22 Q (zB 22 0) [a0] [] h := rfl
theorem zc_23 {d : Nat} {a0 a1 : Value} {h : zH} {Q : zO → zH → Prop} : zcall (d + 1) 23 [a0, a1] h Q = zwp (zcall d) 23 Q (zB 23 0) [a0, a1, zJ] [] h := rfl
theorem zc_24 {d : Nat} {a0 a1 a2 : Value} {h : zH} {Q : zO → zH → Prop} : zcall (d + 1) 24 [a0, a1, a2] h Q = zwp (zcall d) 24 Q (zB 24 0) [a0, a1, a2, zJ, zJ] [] h := rfl
theorem zc_25 {d : Nat} {a0 a1 : Value} {h : zH} {Q : zO → zH → Prop} : zcall (d + 1) 25 [a0, a1] h Q = zwp (zcall d) 25 Q (zB 25 0) [a0, a1, zJ] [] h := rfl
theorem zc_26 {d : Nat} {a0 a1 a2 : Value} {h : zH} {Q : zO → zH → Prop} : zcall (d + 1) 26 [a0, a1, a2] h Q = zwp (zcall d) 26 Q (zB 26 0) [a0, a1, a2, zJ, zJ, zJ, zJ] [] h := rfl
theorem zc_27 {d : Nat} {a0 a1 : Value} {h : zH} {Q : zO → zH → Prop} : zcall (d + 1) 27 [a0, a1] h Q = zwp (zcall d) 27 Q (zB 27 0) [a0, a1, zJ, zJ] [] h := rfl
theorem zc_28 {d : Nat} {a0 a1 : Value} {h : zH} {Q : zO → zH → Prop} : zcall (d + 1) 28 [a0, a1] h Q = zwp (zcall d) 28 Q (zB 28 0) [a0, a1, zJ, zJ, zJ] [] h := rfl
theorem zc_29 {d : Nat} {a0 a1 a2 a3 : Value} {h : zH} {Q : zO → zH → Prop} : zcall (d + 1) 29 [a0, a1, a2, a3] h Q = zwp (zcall d) 29 Q (zB 29 0) [a0, a1, a2, a3, zJ, zJ] [] h := rfl
theorem zc_30 {d : Nat} {a0 a1 a2 : Value} {h : zH} {Q : zO → zH → Prop} : zcall (d + 1) 30 [a0, a1, a2] h Q = zwp (zcall d) 30 Q (zB 30 0) [a0, a1, a2, zJ, zJ] [] h := rfl
theorem zc_31 {d : Nat} {a0 : Value} {h : zH} {Q : zO → zH → Prop} : zcall (d + 1) 31 [a0] h Q = zwp (zcall d) 31 Q (zB 31 0) [a0, zJ] [] h := rfl
theorem zc_32 {d : Nat} {a0 a1 : Value} {h : zH} {Q : zO → zH → Prop} : zcall (d + 1) 32 [a0, a1] h Q = zwp (zcall d) 32 Q (zB 32 0) [a0, a1] [] h := rfl
theorem zc_33 {d : Nat} {a0 : Value} {h : zH} {Q : zO → zH → Prop} : zcall (d + 1) 33 [a0] h Q = zwp (zcall d) 33 Q (zB 33 0) [a0, zJ, zJ] [] h := rfl
theorem zc_34 {d : Nat} {a0 : Value} {h : zH} {Q : zO → zH → Prop} : zcall (d + 1) 34 [a0] h Q = zwp (zcall d) 34 Q (zB 34 0) [a0] [] h := rfl
theorem zc_35 {d : Nat} {a0 a1 : Value} {h : zH} {Q : zO → zH → Prop} : zcall (d + 1) 35 [a0, a1] h Q = zwp (zcall d) 35 Q (zB 35 0) [a0, a1] [] h := rfl
theorem zc_36 {d : Nat} {a0 : Value} {h : zH} {Q : zO → zH → Prop} : zcall (d + 1) 36 [a0] h Q = zwp (zcall d) 36 Q (zB 36 0) [a0] [] h := rfl
theorem zc_37 {d : Nat} {a0 a1 : Value} {h : zH} {Q : zO → zH → Prop} : zcall (d + 1) 37 [a0, a1] h Q = zwp (zcall d) 37 Q (zB 37 0) [a0, a1, zJ, zJ] [] h := rfl
theorem zc_38 {d : Nat} {a0 a1 a2 : Value} {h : zH} {Q : zO → zH → Prop} : zcall (d + 1) 38 [a0, a1, a2] h Q = zwp (zcall d) 38 Q (zB 38 0) [a0, a1, a2, zJ, zJ, zJ, zJ, zJ, zJ, zJ, zJ] [] h := rfl
theorem zc_39 {d : Nat} {a0 a1 a2 a3 : Value} {h : zH} {Q : zO → zH → Prop} : zcall (d + 1) 39 [a0, a1, a2, a3] h Q = zwp (zcall d) 39 Q (zB 39 0) [a0, a1, a2, a3, zJ, zJ] [] h := rfl
theorem zc_40 {d : Nat} {a0 a1 a2 : Value} {h : zH} {Q : zO → zH → Prop} : zcall (d + 1) 40 [a0, a1, a2] h Q = zwp (zcall d) 40 Q (zB 40 0) [a0, a1, a2, zJ, zJ] [] h := rfl
theorem zc_41 {d : Nat} {a0 a1 a2 a3 : Value} {h : zH} {Q : zO → zH → Prop} : zcall (d + 1) 41 [a0, a1, a2, a3] h Q = zwp (zcall d) 41 Q (zB 41 0) [a0, a1, a2, a3, zJ, zJ, zJ] [] h := rfl
theorem zc_42 {d : Nat} {a0 a1 : Value} {h : zH} {Q : zO → zH → Prop} : zcall (d + 1) 42 [a0, a1] h Q = zwp (zcall d) 42 Q (zB 42 0) [a0, a1, zJ, zJ] [] h := rfl
theorem zc_43 {d : Nat} {a0 a1 a2 a3 : Value} {h : zH} {Q : zO → zH → Prop} : zcall (d + 1) 43 [a0, a1, a2, a3] h Q = zwp (zcall d) 43 Q (zB 43 0) [a0, a1, a2, a3, zJ, zJ, zJ, zJ, zJ, zJ] [] h := rfl
theorem zc_44 {d : Nat} {a0 a1 : Value} {h : zH} {Q : zO → zH → Prop} : zcall (d + 1) 44 [a0, a1] h Q = zwp (zcall d) 44 Q (zB 44 0) [a0, a1, zJ, zJ] [] h := rfl
theorem zc_45 {d : Nat} {a0 a1 a2 : Value} {h : zH} {Q : zO → zH → Prop} : zcall (d + 1) 45 [a0, a1, a2] h Q = zwp (zcall d) 45 Q (zB 45 0) [a0, a1, a2, zJ, zJ, zJ, zJ] [] h := rfl
theorem zc_46 {d : Nat} {a0 : Value} {h : zH} {Q : zO → zH → Prop} : zcall (d + 1) 46 [a0] h Q = zwp (zcall d) 46 Q (zB 46 0) [a0] [] h := rfl
theorem zc_47 {d : Nat} {a0 a1 a2 a3 : Value} {h : zH} {Q : zO → zH → Prop} : zcall (d + 1) 47 [a0, a1, a2, a3] h Q = zwp (zcall d) 47 Q (zB 47 0) [a0, a1, a2, a3] [] h := rfl
theorem zc_48 {d : Nat} {a0 a1 a2 a3 a4 a5 : Value} {h : zH} {Q : zO → zH → Prop} : zcall (d + 1) 48 [a0, a1, a2, a3, a4, a5] h Q = zwp (zcall d) 48 Q (zB 48 0) [a0, a1, a2, a3, a4, a5, zJ, zJ] [] h := rfl
theorem zc_49 {d : Nat} {a0 a1 a2 a3 : Value} {h : zH} {Q : zO → zH → Prop} : zcall (d + 1) 49 [a0, a1, a2, a3] h Q = zwp (zcall d) 49 Q (zB 49 0) [a0, a1, a2, a3, zJ] [] h := rfl
theorem zc_50 {d : Nat} {a0 a1 a2 a3 a4 : Value} {h : zH} {Q : zO → zH → Prop} : zcall (d + 1) 50 [a0, a1, a2, a3, a4] h Q = zwp (zcall d) 50 Q (zB 50 0) [a0, a1, a2, a3, a4] [] h := rfl
theorem zc_51 {d : Nat} {a0 : Value} {h : zH} {Q : zO → zH → Prop} : zcall (d + 1) 51 [a0] h Q = zwp (zcall d) 51 Q (zB 51 0) [a0] [] h := rfl
theorem zc_52 {d : Nat} {a0 : Value} {h : zH} {Q : zO → zH → Prop} : zcall (d + 1) 52 [a0] h Q = zwp (zcall d) 52 Q (zB 52 0) [a0] [] h := rfl
theorem zc_53 {d : Nat} {a0 a1 : Value} {h : zH} {Q : zO → zH → Prop} : zcall (d + 1) 53 [a0, a1] h Q = zwp (zcall d) 53 Q (zB 53 0) [a0, a1] [] h := rfl
theorem zc_54 {d : Nat} {a0 : Value} {h : zH} {Q : zO → zH → Prop} : zcall (d + 1) 54 [a0] h Q = zwp (zcall d) 54 Q (zB 54 0) [a0] [] h := rfl
theorem zc_55 {d : Nat} {a0 a1 a2 : Value} {h : zH} {Q : zO → zH → Prop} : zcall (d + 1) 55 [a0, a1, a2] h Q = zwp (zcall d) 55 Q (zB 55 0) [a0, a1, a2] [] h := rfl
theorem zc_56 {d : Nat} {a0 a1 a2 : Value} {h : zH} {Q : zO → zH → Prop} : zcall (d + 1) 56 [a0, a1, a2] h Q = zwp (zcall d) 56 Q (zB 56 0) [a0, a1, a2] [] h := rfl
theorem zc_57 {d : Nat} {a0 : Value} {h : zH} {Q : zO → zH → Prop} : zcall (d + 1) 57 [a0] h Q = zwp (zcall d) 57 Q (zB 57 0) [a0] [] h := rfl
theorem zc_58 {d : Nat} {a0 : Value} {h : zH} {Q : zO → zH → Prop} : zcall (d + 1) 58 [a0] h Q = zwp (zcall d) 58 Q (zB 58 0) [a0] [] h := rfl
theorem zc_59 {d : Nat} {a0 : Value} {h : zH} {Q : zO → zH → Prop} : zcall (d + 1) 59 [a0] h Q = zwp (zcall d) 59 Q (zB 59 0) [a0] [] h := rfl
theorem zc_60 {d : Nat} {a0 : Value} {h : zH} {Q : zO → zH → Prop} : zcall (d + 1) 60 [a0] h Q = zwp (zcall d) 60 Q (zB 60 0) [a0] [] h := rfl
theorem zc_61 {d : Nat} {a0 : Value} {h : zH} {Q : zO → zH → Prop} : zcall (d + 1) 61 [a0] h Q = zwp (zcall d) 61 Q (zB 61 0) [a0] [] h := rfl
theorem zc_62 {d : Nat} {a0 a1 a2 a3 a4 a5 : Value} {h : zH} {Q : zO → zH → Prop} : zcall (d + 1) 62 [a0, a1, a2, a3, a4, a5] h Q = zwp (zcall d) 62 Q (zB 62 0) [a0, a1, a2, a3, a4, a5, zJ, zJ, zJ] [] h := rfl
theorem zc_63 {d : Nat} {a0 a1 a2 a3 a4 a5 a6 : Value} {h : zH} {Q : zO → zH → Prop} : zcall (d + 1) 63 [a0, a1, a2, a3, a4, a5, a6] h Q = zwp (zcall d) 63 Q (zB 63 0) [a0, a1, a2, a3, a4, a5, a6, zJ, zJ, zJ] [] h := rfl
theorem zc_64 {d : Nat} {a0 a1 a2 a3 a4 a5 a6 : Value} {h : zH} {Q : zO → zH → Prop} : zcall (d + 1) 64 [a0, a1, a2, a3, a4, a5, a6] h Q = zwp (zcall d) 64 Q (zB 64 0) [a0, a1, a2, a3, a4, a5, a6, zJ, zJ, zJ, zJ, zJ] [] h := rfl
theorem zc_65 {d : Nat} {a0 : Value} {h : zH} {Q : zO → zH → Prop} : zcall (d + 1) 65 [a0] h Q = zwp (zcall d) 65 Q (zB 65 0) [a0] [] h := rfl
theorem zc_66 {d : Nat} {a0 a1 : Value} {h : zH} {Q : zO → zH → Prop} : zcall (d + 1) 66 [a0, a1] h Q = zwp (zcall d) 66 Q (zB 66 0) [a0, a1, zJ] [] h := rfl
theorem zc_67 {d : Nat} {a0 a1 : Value} {h : zH} {Q : zO → zH → Prop} : zcall (d + 1) 67 [a0, a1] h Q = zwp (zcall d) 67 Q (zB 67 0) [a0, a1] [] h := rfl
theorem zc_68 {d : Nat} {a0 a1 : Value} {h : zH} {Q : zO → zH → Prop} : zcall (d + 1) 68 [a0, a1] h Q = zwp (zcall d) 68 Q (zB 68 0) [a0, a1] [] h := rfl
theorem zc_69 {d : Nat} {a0 a1 : Value} {h : zH} {Q : zO → zH → Prop} : zcall (d + 1) 69 [a0, a1] h Q = zwp (zcall d) 69 Q (zB 69 0) [a0, a1] [] h := rfl
theorem zc_70 {d : Nat} {a0 a1 : Value} {h : zH} {Q : zO → zH → Prop} : zcall (d + 1) 70 [a0, a1] h Q = zwp (zcall d) 70 Q (zB 70 0) [a0, a1] [] h := rfl
theorem zc_71 {d : Nat} {a0 a1 : Value} {h : zH} {Q : zO → zH → Prop} : zcall (d + 1) 71 [a0, a1] h Q = zwp (zcall d) 71 Q (zB 71 0) [a0, a1, zJ, zJ] [] h := rfl
theorem zc_72 {d : Nat} {a0 a1 a2 a3 a4 a5 : Value} {h : zH} {Q : zO → zH → Prop} : zcall (d + 1) 72 [a0, a1, a2, a3, a4, a5] h Q = zwp (zcall d) 72 Q (zB 72 0) [a0, a1, a2, a3, a4, a5] [] h := rfl
theorem zc_73 {d : Nat} {a0 a1 a2 a3 a4 a5 : Value} {h : zH} {Q : zO → zH → Prop} : zcall (d + 1) 73 [a0, a1, a2, a3, a4, a5] h Q = zwp (zcall d) 73 Q (zB 73 0) [a0, a1, a2, a3, a4, a5, zJ] [] h := rfl
theorem zc_74 {d : Nat} {a0 a1 : Value} {h : zH} {Q : zO → zH → Prop} : zcall (d + 1) 74 [a0, a1] h Q = zwp (zcall d) 74 Q (zB 74 0) [a0, a1, zJ] [] h := rfl
theorem zc_75 {d : Nat} {a0 a1 : Value} {h : zH} {Q : zO → zH → Prop} : zcall (d + 1) 75 [a0, a1] h Q = zwp (zcall d) 75 Q (zB 75 0) [a0, a1, zJ] [] h := rfl
theorem zc_76 {d : Nat} {a0 a1 a2 a3 : Value} {h : zH} {Q : zO → zH → Prop} : zcall (d + 1) 76 [a0, a1, a2, a3] h Q = zwp (zcall d) 76 Q (zB 76 0) [a0, a1, a2, a3] [] h := rfl
theorem zc_77 {d : Nat} {a0 a1 a2 a3 : Value} {h : zH} {Q : zO → zH → Prop} : zcall (d + 1) 77 [a0, a1, a2, a3] h Q = zwp (zcall d) 77 Q (zB 77 0) [a0, a1, a2, a3, zJ] [] h := rfl
theorem zc_78 {d : Nat} {a0 a1 a2 : Value} {h : zH} {Q : zO → zH → Prop} : zcall (d + 1) 78 [a0, a1, a2] h Q = zwp (zcall d) 78 Q (zB 78 0) [a0, a1, a2] [] h := rfl
theorem zc_79 {d : Nat} {a0 a1 a2 : Value} {h : zH} {Q : zO → zH → Prop} : zcall (d + 1) 79 [a0, a1, a2] h Q = zwp (zcall d) 79 Q (zB 79 0) [a0, a1, a2, zJ] [] h := rfl
theorem zc_80 {d : Nat} {a0 a1 a2 : Value} {h : zH} {Q : zO → zH → Prop} : zcall (d + 1) 80 [a0, a1, a2] h Q = zwp (zcall d) 80 Q (zB 80 0) [a0, a1, a2] [] h := rfl
theorem zc_81 {d : Nat} {a0 a1 : Value} {h : zH} {Q : zO → zH → Prop} : zcall (d + 1) 81 [a0, a1] h Q = zwp (zcall d) 81 Q (zB 81 0) [a0, a1] [] h := rfl
theorem zc_82 {d : Nat} {a0 a1 : Value} {h : zH} {Q : zO → zH → Prop} : zcall (d + 1) 82 [a0, a1] h Q = zwp (zcall d) 82 Q (zB 82 0) [a0, a1, zJ, zJ] [] h := rfl
theorem zc_83 {d : Nat} {a0 a1 : Value} {h : zH} {Q : zO → zH → Prop} : zcall (d + 1) 83 [a0, a1] h Q = zwp (zcall d) 83 Q (zB 83 0) [a0, a1, zJ] [] h := rfl
theorem zc_84 {d : Nat} {a0 a1 a2 : Value} {h : zH} {Q : zO → zH → Prop} : zcall (d + 1) 84 [a0, a1, a2] h Q = zwp (zcall d) 84 Q (zB 84 0) [a0, a1, a2] [] h := rfl
theorem zc_85 {d : Nat} {a0 a1 a2 : Value} {h : zH} {Q : zO → zH → Prop} : zcall (d + 1) 85 [a0, a1, a2] h Q = zwp (zcall d) 85 Q (zB 85 0) [a0, a1, a2] [] h := rfl
theorem zc_86 {d : Nat} {a0 a1 : Value} {h : zH} {Q : zO → zH → Prop} : zcall (d + 1) 86 [a0, a1] h Q = zwp (zcall d) 86 Q (zB 86 0) [a0, a1] [] h := rfl
theorem zc_87 {d : Nat} {a0 a1 : Value} {h : zH} {Q : zO → zH → Prop} : zcall (d + 1) 87 [a0, a1] h Q = zwp (zcall d) 87 Q (zB 87 0) [a0, a1, zJ, zJ, zJ, zJ] [] h := rfl
theorem zc_88 {d : Nat} {a0 a1 : Value} {h : zH} {Q : zO → zH → Prop} : zcall (d + 1) 88 [a0, a1] h Q = zwp (zcall d) 88 Q (zB 88 0) [a0, a1, zJ, zJ] [] h := rfl
theorem zc_89 {d : Nat} {a0 a1 a2 : Value} {h : zH} {Q : zO → zH → Prop} : zcall (d + 1) 89 [a0, a1, a2] h Q = zwp (zcall d) 89 Q (zB 89 0) [a0, a1, a2, zJ] [] h := rfl
theorem zc_90 {d : Nat} {a0 a1 a2 : Value} {h : zH} {Q : zO → zH → Prop} : zcall (d + 1) 90 [a0, a1, a2] h Q = zwp (zcall d) 90 Q (zB 90 0) [a0, a1, a2, zJ] [] h := rfl
theorem zc_91 {d : Nat} {a0 a1 : Value} {h : zH} {Q : zO → zH → Prop} : zcall (d + 1) 91 [a0, a1] h Q = zwp (zcall d) 91 Q (zB 91 0) [a0, a1] [] h := rfl
theorem zc_92 {d : Nat} {a0 : Value} {h : zH} {Q : zO → zH → Prop} : zcall (d + 1) 92 [a0] h Q = zwp (zcall d) 92 Q (zB 92 0) [a0, zJ, zJ] [] h := rfl
theorem zc_93 {d : Nat} {a0 : Value} {h : zH} {Q : zO → zH → Prop} : zcall (d + 1) 93 [a0] h Q = zwp (zcall d) 93 Q (zB 93 0) [a0] [] h := rfl
theorem zc_94 {d : Nat} {a0 a1 : Value} {h : zH} {Q : zO → zH → Prop} : zcall (d + 1) 94 [a0, a1] h Q = zwp (zcall d) 94 Q (zB 94 0) [a0, a1] [] h := rfl
theorem zc_95 {d : Nat} {a0 a1 : Value} {h : zH} {Q : zO → zH → Prop} : zcall (d + 1) 95 [a0, a1] h Q = zwp (zcall d) 95 Q (zB 95 0) [a0, a1] [] h := rfl
theorem zc_96 {d : Nat} {a0 a1 : Value} {h : zH} {Q : zO → zH → Prop} : zcall (d + 1) 96 [a0, a1] h Q = zwp (zcall d) 96 Q (zB 96 0) [a0, a1] [] h := rfl
theorem zc_97 {d : Nat} {a0 a1 : Value} {h : zH} {Q : zO → zH → Prop} : zcall (d + 1) 97 [a0, a1] h Q = zwp (zcall d) 97 Q (zB 97 0) [a0, a1] [] h := rfl
theorem zc_98 {d : Nat} {a0 a1 : Value} {h : zH} {Q : zO → zH → Prop} : zcall (d + 1) 98 [a0, a1] h Q = zwp (zcall d) 98 Q (zB 98 0) [a0, a1, zJ] [] h := rfl
theorem zc_99 {d : Nat} {a0 : Value} {h : zH} {Q : zO → zH → Prop} : zcall (d + 1) 99 [a0] h Q = zwp (zcall d) 99 Q (zB 99 0) [a0, zJ, zJ, zJ, zJ] [] h := rfl
theorem zc_100 {d : Nat} {a0 a1 a2 : Value} {h : zH} {Q : zO → zH → Prop} : zcall (d + 1) 100 [a0, a1, a2] h Q = zwp (zcall d) 100 Q (zB 100 0) [a0, a1, a2, zJ] [] h := rfl
theorem zc_101 {d : Nat} {a0 a1 a2 : Value} {h : zH} {Q : zO → zH → Prop} : zcall (d + 1) 101 [a0, a1, a2] h Q = zwp (zcall d) 101 Q (zB 101 0) [a0, a1, a2] [] h := rfl
theorem zc_102 {d : Nat} {a0 : Value} {h : zH} {Q : zO → zH → Prop} : zcall (d + 1) 102 [a0] h Q = zwp (zcall d) 102 Q (zB 102 0) [a0] [] h := rfl
theorem zc_103 {d : Nat} {a0 : Value} {h : zH} {Q : zO → zH → Prop} : zcall (d + 1) 103 [a0] h Q = zwp (zcall d) 103 Q (zB 103 0) [a0] [] h := rfl
theorem zc_104 {d : Nat} {a0 a1 : Value} {h : zH} {Q : zO → zH → Prop} : zcall (d + 1) 104 [a0, a1] h Q = zwp (zcall d) 104 Q (zB 104 0) [a0, a1] [] h := rfl
theorem zc_105 {d : Nat} {a0 : Value} {h : zH} {Q : zO → zH → Prop} : zcall (d + 1) 105 [a0] h Q = zwp (zcall d) 105 Q (zB 105 0) [a0, zJ] [] h := rfl
theorem zc_106 {d : Nat} {a0 : Value} {h : zH} {Q : zO → zH → Prop} : zcall (d + 1) 106 [a0] h Q = zwp (zcall d) 106 Q (zB 106 0) [a0, zJ, zJ] [] h := rfl
theorem zc_107 {d : Nat} {a0 : Value} {h : zH} {Q : zO → zH → Prop} : zcall (d + 1) 107 [a0] h Q = zwp (zcall d) 107 Q (zB 107 0) [a0] [] h := rfl
theorem zc_108 {d : Nat} {a0 : Value} {h : zH} {Q : zO → zH → Prop} : zcall (d + 1) 108 [a0] h Q = zwp (zcall d) 108 Q (zB 108 0) [a0] [] h := rfl
theorem zc_109 {d : Nat} {a0 a1 a2 : Value} {h : zH} {Q : zO → zH → Prop} : zcall (d + 1) 109 [a0, a1, a2] h Q = zwp (zcall d) 109 Q (zB 109 0) [a0, a1, a2, zJ, zJ, zJ, zJ] [] h := rfl
theorem zc_110 {d : Nat} {a0 : Value} {h : zH} {Q : zO → zH → Prop} : zcall (d + 1) 110 [a0] h Q = zwp (zcall d) 110 Q (zB 110 0) [a0] [] h := rfl
theorem zc_111 {d : Nat} {a0 a1 : Value} {h : zH} {Q : zO → zH → Prop} : zcall (d + 1) 111 [a0, a1] h Q = zwp (zcall d) 111 Q (zB 111 0) [a0, a1, zJ] [] h := rfl
theorem zc_112 {d : Nat} {a0 a1 a2 : Value} {h : zH} {Q : zO → zH → Prop} : zcall (d + 1) 112 [a0, a1, a2] h Q = zwp (zcall d) 112 Q (zB 112 0) [a0, a1, a2, zJ, zJ] [] h := rfl
theorem zc_113 {d : Nat} {a0 a1 a2 : Value} {h : zH} {Q : zO → zH → Prop} : zcall (d + 1) 113 [a0, a1, a2] h Q = zwp (zcall d) 113 Q (zB 113 0) [a0, a1, a2, zJ, zJ, zJ] [] h := rfl
theorem zc_114 {d : Nat} {a0 a1 a2 : Value} {h : zH} {Q : zO → zH → Prop} : zcall (d + 1) 114 [a0, a1, a2] h Q = zwp (zcall d) 114 Q (zB 114 0) [a0, a1, a2, zJ, zJ, zJ] [] h := rfl
theorem zc_115 {d : Nat} {a0 : Value} {h : zH} {Q : zO → zH → Prop} : zcall (d + 1) 115 [a0] h Q = zwp (zcall d) 115 Q (zB 115 0) [a0] [] h := rfl
theorem zc_116 {d : Nat} {a0 a1 : Value} {h : zH} {Q : zO → zH → Prop} : zcall (d + 1) 116 [a0, a1] h Q = zwp (zcall d) 116 Q (zB 116 0) [a0, a1] [] h := rfl
theorem zc_117 {d : Nat} {a0 a1 a2 a3 a4 a5 : Value} {h : zH} {Q : zO → zH → Prop} : zcall (d + 1) 117 [a0, a1, a2, a3, a4, a5] h Q = zwp (zcall d) 117 Q (zB 117 0) [a0, a1, a2, a3, a4, a5] [] h := rfl
theorem zc_118 {d : Nat} {a0 a1 : Value} {h : zH} {Q : zO → zH → Prop} : zcall (d + 1) 118 [a0, a1] h Q = zwp (zcall d) 118 Q (zB 118 0) [a0, a1] [] h := rfl
theorem zc_119 {d : Nat} {a0 a1 a2 a3 : Value} {h : zH} {Q : zO → zH → Prop} : zcall (d + 1) 119 [a0, a1, a2, a3] h Q = zwp (zcall d) 119 Q (zB 119 0) [a0, a1, a2, a3] [] h := rfl
theorem zc_120 {d : Nat} {a0 a1 a2 : Value} {h : zH} {Q : zO → zH → Prop} : zcall (d + 1) 120 [a0, a1, a2] h Q = zwp (zcall d) 120 Q (zB 120 0) [a0, a1, a2] [] h := rfl
theorem zc_121 {d : Nat} {a0 : Value} {h : zH} {Q : zO → zH → Prop} : zcall (d + 1) 121 [a0] h Q = zwp (zcall d) 121 Q (zB 121 0) [a0] [] h := rfl
theorem zc_122 {d : Nat} {a0 : Value} {h : zH} {Q : zO → zH → Prop} : zcall (d + 1) 122 [a0] h Q = zwp (zcall d) 122 Q (zB 122 0) [a0] [] h := rfl
theorem zc_123 {d : Nat} {a0 a1 a2 : Value} {h : zH} {Q : zO → zH → Prop} : zcall (d + 1) 123 [a0, a1, a2] h Q = zwp (zcall d) 123 Q (zB 123 0) [a0, a1, a2] [] h := rfl
theorem zc_124 {d : Nat} {a0 a1 a2 : Value} {h : zH} {Q : zO → zH → Prop} : zcall (d + 1) 124 [a0, a1, a2] h Q = zwp (zcall d) 124 Q (zB 124 0) [a0, a1, a2] [] h := rfl
theorem zc_125 {d : Nat} {a0 a1 a2 : Value} {h : zH} {Q : zO → zH → Prop} : zcall (d + 1) 125 [a0, a1, a2] h Q = zwp (zcall d) 125 Q (zB 125 0) [a0, a1, a2] [] h := rfl
theorem zc_126 {d : Nat} {a0 a1 : Value} {h : zH} {Q : zO → zH → Prop} : zcall (d + 1) 126 [a0, a1] h Q = zwp (zcall d) 126 Q (zB 126 0) [a0, a1] [] h := rfl
theorem zc_127 {d : Nat} {a0 a1 : Value} {h : zH} {Q : zO → zH → Prop} : zcall (d + 1) 127 [a0, a1] h Q = zwp (zcall d) 127 Q (zB 127 0) [a0, a1] [] h := rfl
theorem zc_128 {d : Nat} {a0 a1 a2 : Value} {h : zH} {Q : zO → zH → Prop} : zcall (d + 1) 128 [a0, a1, a2] h Q = zwp (zcall d) 128 Q (zB 128 0) [a0, a1, a2] [] h := rfl
theorem zc_129 {d : Nat} {a0 a1 : Value} {h : zH} {Q : zO → zH → Prop} : zcall (d + 1) 129 [a0, a1] h Q = zwp (zcall d) 129 Q (zB 129 0) [a0, a1] [] h := rfl
theorem zc_130 {d : Nat} {a0 a1 a2 : Value} {h : zH} {Q : zO → zH → Prop} : zcall (d + 1) 130 [a0, a1, a2] h Q = zwp (zcall d) 130 Q (zB 130 0) [a0, a1, a2] [] h := rfl
theorem zc_131 {d : Nat} {a0 a1 a2 : Value} {h : zH} {Q : zO → zH → Prop} : zcall (d + 1) 131 [a0, a1, a2] h Q = zwp (zcall d) 131 Q (zB 131 0) [a0, a1, a2] [] h := rfl
theorem zc_132 {d : Nat} {a0 a1 : Value} {h : zH} {Q : zO → zH → Prop} : zcall (d + 1) 132 [a0, a1] h Q = zwp (zcall d) 132 Q (zB 132 0) [a0, a1] [] h := rfl
theorem zc_133 {d : Nat} {a0 a1 : Value} {h : zH} {Q : zO → zH → Prop} : zcall (d + 1) 133 [a0, a1] h Q = zwp (zcall d) 133 Q (zB 133 0) [a0, a1] [] h := rfl
theorem zc_134 {d : Nat} {a0 : Value} {h : zH} {Q : zO → zH → Prop} : zcall (d + 1) 134 [a0] h Q = zwp (zcall d) 134 Q (zB 134 0) [a0] [] h := rfl
theorem zc_135 {d : Nat} {a0 : Value} {h : zH} {Q : zO → zH → Prop} : zcall (d + 1) 135 [a0] h Q = zwp (zcall d) 135 Q (zB 135 0) [a0] [] h := rfl
theorem zc_136 {d : Nat} {a0 a1 : Value} {h : zH} {Q : zO → zH → Prop} : zcall (d + 1) 136 [a0, a1] h Q = zwp (zcall d) 136 Q (zB 136 0) [a0, a1] [] h := rfl
theorem zc_137 {d : Nat} {a0 a1 : Value} {h : zH} {Q : zO → zH → Prop} : zcall (d + 1) 137 [a0, a1] h Q = zwp (zcall d) 137 Q (zB 137 0) [a0, a1] [] h := rfl
theorem zc_138 {d : Nat} {a0 a1 : Value} {h : zH} {Q : zO → zH → Prop} : zcall (d + 1) 138 [a0, a1] h Q = zwp (zcall d) 138 Q (zB 138 0) [a0, a1] [] h := rfl
theorem zc_139 {d : Nat} {a0 : Value} {h : zH} {Q : zO → zH → Prop} : zcall (d + 1) 139 [a0] h Q = zwp (zcall d) 139 Q (zB 139 0) [a0] [] h := rfl
theorem zc_140 {d : Nat} {a0 a1 : Value} {h : zH} {Q : zO → zH → Prop} : zcall (d + 1) 140 [a0, a1] h Q = zwp (zcall d) 140 Q (zB 140 0) [a0, a1] [] h := rfl
theorem zc_141 {d : Nat} {a0 a1 : Value} {h : zH} {Q : zO → zH → Prop} : zcall (d + 1) 141 [a0, a1] h Q = zwp (zcall d) 141 Q (zB 141 0) [a0, a1, zJ] [] h := rfl
theorem zc_142 {d : Nat} {a0 a1 : Value} {h : zH} {Q : zO → zH → Prop} : zcall (d + 1) 142 [a0, a1] h Q = zwp (zcall d) 142 Q (zB 142 0) [a0, a1] [] h := rfl
theorem zc_143 {d : Nat} {a0 a1 a2 : Value} {h : zH} {Q : zO → zH → Prop} : zcall (d + 1) 143 [a0, a1, a2] h Q = zwp (zcall d) 143 Q (zB 143 0) [a0, a1, a2] [] h := rfl
theorem zc_144 {d : Nat} {a0 : Value} {h : zH} {Q : zO → zH → Prop} : zcall (d + 1) 144 [a0] h Q = zwp (zcall d) 144 Q (zB 144 0) [a0] [] h := rfl
theorem zc_145 {d : Nat} {a0 a1 : Value} {h : zH} {Q : zO → zH → Prop} : zcall (d + 1) 145 [a0, a1] h Q = zwp (zcall d) 145 Q (zB 145 0) [a0, a1] [] h := rfl
theorem zc_146 {d : Nat} {a0 a1 a2 : Value} {h : zH} {Q : zO → zH → Prop} : zcall (d + 1) 146 [a0, a1, a2] h Q = zwp (zcall d) 146 Q (zB 146 0) [a0, a1, a2] [] h := rfl
theorem zc_147 {d : Nat} {a0 a1 a2 : Value} {h : zH} {Q : zO → zH → Prop} : zcall (d + 1) 147 [a0, a1, a2] h Q = zwp (zcall d) 147 Q (zB 147 0) [a0, a1, a2] [] h := rfl
theorem zc_148 {d : Nat} {a0 a1 a2 a3 : Value} {h : zH} {Q : zO → zH → Prop} : zcall (d + 1) 148 [a0, a1, a2, a3] h Q = zwp (zcall d) 148 Q (zB 148 0) [a0, a1, a2, a3] [] h := rfl
theorem zc_149 {d : Nat} {a0 a1 : Value} {h : zH} {Q : zO → zH → Prop} : zcall (d + 1) 149 [a0, a1] h Q = zwp (zcall d) 149 Q (zB 149 0) [a0, a1] [] h := rfl
theorem zc_150 {d : Nat} {a0 a1 : Value} {h : zH} {Q : zO → zH → Prop} : zcall (d + 1) 150 [a0, a1] h Q = zwp (zcall d) 150 Q (zB 150 0) [a0, a1] [] h := rfl
theorem zc_151 {d : Nat} {a0 a1 : Value} {h : zH} {Q : zO → zH → Prop} : zcall (d + 1) 151 [a0, a1] h Q = zwp (zcall d) 151 Q (zB 151 0) [a0, a1] [] h := rfl
theorem zc_152 {d : Nat} {a0 : Value} {h : zH} {Q : zO → zH → Prop} : zcall (d + 1) 152 [a0] h Q = zwp (zcall d) 152 Q (zB 152 0) [a0] [] h := rfl
theorem zc_153 {d : Nat} {a0 : Value} {h : zH} {Q : zO → zH → Prop} : zcall (d + 1) 153 [a0] h Q = zwp (zcall d) 153 Q (zB 153 0) [a0, zJ, zJ] [] h := rfl
theorem zc_154 {d : Nat} {a0 : Value} {h : zH} {Q : zO → zH → Prop} : zcall (d + 1) 154 [a0] h Q = zwp (zcall d) 154 Q (zB 154 0) [a0] [] h := rfl
theorem zc_155 {d : Nat} {a0 : Value} {h : zH} {Q : zO → zH → Prop} : zcall (d + 1) 155 [a0] h Q = zwp (zcall d) 155 Q (zB 155 0) [a0, zJ, zJ, zJ, zJ] [] h := rfl
theorem zc_157 {d : Nat} {a0 a1 a2 : Value} {h : zH} {Q : zO → zH → Prop} : zcall (d + 1) 157 [a0, a1, a2] h Q = zwp (zcall d) 157 Q (zB 157 0) [a0, a1, a2] [] h := rfl
theorem zc_158 {d : Nat} {a0 a1 : Value} {h : zH} {Q : zO → zH → Prop} : zcall (d + 1) 158 [a0, a1] h Q = zwp (zcall d) 158 Q (zB 158 0) [a0, a1] [] h := rfl
theorem zc_159 {d : Nat} {a0 : Value} {h : zH} {Q : zO → zH → Prop} : zcall (d + 1) 159 [a0] h Q = zwp (zcall d) 159 Q (zB 159 0) [a0, zJ, zJ, zJ] [] h := rfl
theorem zc_160 {d : Nat} {a0 : Value} {h : zH} {Q : zO → zH → Prop} : zcall (d + 1) 160 [a0] h Q = zwp (zcall d) 160 Q (zB 160 0) [a0] [] h := rfl
theorem zc_161 {d : Nat} {a0 : Value} {h : zH} {Q : zO → zH → Prop} : zcall (d + 1) 161 [a0] h Q = zwp (zcall d) 161 Q (zB 161 0) [a0] [] h := rfl
theorem zc_162 {d : Nat} {a0 a1 a2 : Value} {h : zH} {Q : zO → zH → Prop} : zcall (d + 1) 162 [a0, a1, a2] h Q = zwp (zcall d) 162 Q (zB 162 0) [a0, a1, a2] [] h := rfl
theorem zc_163 {d : Nat} {a0 a1 : Value} {h : zH} {Q : zO → zH → Prop} : zcall (d + 1) 163 [a0, a1] h Q = zwp (zcall d) 163 Q (zB 163 0) [a0, a1] [] h := rfl
theorem zc_164 {d : Nat} {a0 a1 : Value} {h : zH} {Q : zO → zH → Prop} : zcall (d + 1) 164 [a0, a1] h Q = zwp (zcall d) 164 Q (zB 164 0) [a0, a1] [] h := rfl
theorem zc_165 {d : Nat} {a0 : Value} {h : zH} {Q : zO → zH → Prop} : zcall (d + 1) 165 [a0] h Q = zwp (zcall d) 165 Q (zB 165 0) [a0, zJ] [] h := rfl
theorem zc_166 {d : Nat} {a0 : Value} {h : zH} {Q : zO → zH → Prop} : zcall (d + 1) 166 [a0] h Q = zwp (zcall d) 166 Q (zB 166 0) [a0, zJ] [] h := rfl
theorem zc_167 {d : Nat} {a0 a1 : Value} {h : zH} {Q : zO → zH → Prop} : zcall (d + 1) 167 [a0, a1] h Q = zwp (zcall d) 167 Q (zB 167 0) [a0, a1, zJ] [] h := rfl
theorem zc_168 {d : Nat} {a0 a1 a2 : Value} {h : zH} {Q : zO → zH → Prop} : zcall (d + 1) 168 [a0, a1, a2] h Q = zwp (zcall d) 168 Q (zB 168 0) [a0, a1, a2] [] h := rfl
theorem zc_169 {d : Nat} {a0 a1 a2 a3 : Value} {h : zH} {Q : zO → zH → Prop} : zcall (d + 1) 169 [a0, a1, a2, a3] h Q = zwp (zcall d) 169 Q (zB 169 0) [a0, a1, a2, a3] [] h := rfl
theorem zc_170 {d : Nat} {a0 a1 a2 : Value} {h : zH} {Q : zO → zH → Prop} : zcall (d + 1) 170 [a0, a1, a2] h Q = zwp (zcall d) 170 Q (zB 170 0) [a0, a1, a2] [] h := rfl
theorem zc_171 {d : Nat} {a0 a1 : Value} {h : zH} {Q : zO → zH → Prop} : zcall (d + 1) 171 [a0, a1] h Q = zwp (zcall d) 171 Q (zB 171 0) [a0, a1] [] h := rfl
theorem zc_172 {d : Nat} {a0 a1 : Value} {h : zH} {Q : zO → zH → Prop} : zcall (d + 1) 172 [a0, a1] h Q = zwp (zcall d) 172 Q (zB 172 0) [a0, a1] [] h := rfl
theorem zc_173 {d : Nat} {a0 a1 : Value} {h : zH} {Q : zO → zH → Prop} : zcall (d + 1) 173 [a0, a1] h Q = zwp (zcall d) 173 Q (zB 173 0) [a0, a1] [] h := rfl
theorem zc_174 {d : Nat} {a0 a1 : Value} {h : zH} {Q : zO → zH → Prop} : zcall (d + 1) 174 [a0, a1] h Q = zwp (zcall d) 174 Q (zB 174 0) [a0, a1] [] h := rfl
theorem zc_175 {d : Nat} {a0 a1 : Value} {h : zH} {Q : zO → zH → Prop} : zcall (d + 1) 175 [a0, a1] h Q = zwp (zcall d) 175 Q (zB 175 0) [a0, a1] [] h := rfl
theorem zc_176 {d : Nat} {a0 a1 : Value} {h : zH} {Q : zO → zH → Prop} : zcall (d + 1) 176 [a0, a1] h Q = zwp (zcall d) 176 Q (zB 176 0) [a0, a1] [] h := rfl
theorem zc_177 {d : Nat} {a0 a1 : Value} {h : zH} {Q : zO → zH → Prop} : zcall (d + 1) 177 [a0, a1] h Q = zwp (zcall d) 177 Q (zB 177 0) [a0, a1] [] h := rfl
theorem zc_178 {d : Nat} {a0 a1 a2 : Value} {h : zH} {Q : zO → zH → Prop} : zcall (d + 1) 178 [a0, a1, a2] h Q = zwp (zcall d) 178 Q (zB 178 0) [a0, a1, a2, zJ] [] h := rfl
theorem zc_179 {d : Nat} {a0 a1 : Value} {h : zH} {Q : zO → zH → Prop} : zcall (d + 1) 179 [a0, a1] h Q = zwp (zcall d) 179 Q (zB 179 0) [a0, a1, zJ, zJ] [] h := rfl
theorem zc_180 {d : Nat} {a0 : Value} {h : zH} {Q : zO → zH → Prop} : zcall (d + 1) 180 [a0] h Q = zwp (zcall d) 180 Q (zB 180 0) [a0, zJ, zJ, zJ] [] h := rfl
theorem zc_181 {d : Nat} {a0 : Value} {h : zH} {Q : zO → zH → Prop} : zcall (d + 1) 181 [a0] h Q = zwp (zcall d) 181 Q (zB 181 0) [a0, zJ, zJ, zJ] [] h := rfl
theorem zc_182 {d : Nat} {a0 a1 a2 : Value} {h : zH} {Q : zO → zH → Prop} : zcall (d + 1) 182 [a0, a1, a2] h Q = zwp (zcall d) 182 Q (zB 182 0) [a0, a1, a2] [] h := rfl
theorem zc_183 {d : Nat} {a0 a1 : Value} {h : zH} {Q : zO → zH → Prop} : zcall (d + 1) 183 [a0, a1] h Q = zwp (zcall d) 183 Q (zB 183 0) [a0, a1, zJ] [] h := rfl
theorem zc_184 {d : Nat} {a0 a1 a2 a3 a4 a5 : Value} {h : zH} {Q : zO → zH → Prop} : zcall (d + 1) 184 [a0, a1, a2, a3, a4, a5] h Q = zwp (zcall d) 184 Q (zB 184 0) [a0, a1, a2, a3, a4, a5, zJ] [] h := rfl
theorem zc_185 {d : Nat} {a0 a1 : Value} {h : zH} {Q : zO → zH → Prop} : zcall (d + 1) 185 [a0, a1] h Q = zwp (zcall d) 185 Q (zB 185 0) [a0, a1] [] h := rfl
theorem zc_186 {d : Nat} {a0 a1 a2 a3 : Value} {h : zH} {Q : zO → zH → Prop} : zcall (d + 1) 186 [a0, a1, a2, a3] h Q = zwp (zcall d) 186 Q (zB 186 0) [a0, a1, a2, a3] [] h := rfl
theorem zc_187 {d : Nat} {a0 : Value} {h : zH} {Q : zO → zH → Prop} : zcall (d + 1) 187 [a0] h Q = zwp (zcall d) 187 Q (zB 187 0) [a0, zJ, zJ] [] h := rfl
theorem zc_188 {d : Nat} {a0 a1 : Value} {h : zH} {Q : zO → zH → Prop} : zcall (d + 1) 188 [a0, a1] h Q = zwp (zcall d) 188 Q (zB 188 0) [a0, a1] [] h := rfl
theorem zc_189 {d : Nat} {a0 a1 : Value} {h : zH} {Q : zO → zH → Prop} : zcall (d + 1) 189 [a0, a1] h Q = zwp (zcall d) 189 Q (zB 189 0) [a0, a1] [] h := rfl
theorem zc_190 {d : Nat} {a0 a1 : Value} {h : zH} {Q : zO → zH → Prop} : zcall (d + 1) 190 [a0, a1] h Q = zwp (zcall d) 190 Q (zB 190 0) [a0, a1] [] h := rfl
theorem zc_191 {d : Nat} {a0 a1 : Value} {h : zH} {Q : zO → zH → Prop} : zcall (d + 1) 191 [a0, a1] h Q = zwp (zcall d) 191 Q (zB 191 0) [a0, a1, zJ, zJ] [] h := rfl
theorem zc_192 {d : Nat} {a0 a1 : Value} {h : zH} {Q : zO → zH → Prop} : zcall (d + 1) 192 [a0, a1] h Q = zwp (zcall d) 192 Q (zB 192 0) [a0, a1] [] h := rfl
theorem zc_193 {d : Nat} {a0 a1 : Value} {h : zH} {Q : zO → zH → Prop} : zcall (d + 1) 193 [a0, a1] h Q = zwp (zcall d) 193 Q (zB 193 0) [a0, a1] [] h := rfl
theorem zc_194 {d : Nat} {a0 a1 a2 a3 a4 a5 : Value} {h : zH} {Q : zO → zH → Prop} : zcall (d + 1) 194 [a0, a1, a2, a3, a4, a5] h Q = zwp (zcall d) 194 Q (zB 194 0) [a0, a1, a2, a3, a4, a5] [] h := rfl
theorem zc_195 {d : Nat} {a0 a1 : Value} {h : zH} {Q : zO → zH → Prop} : zcall (d + 1) 195 [a0, a1] h Q = zwp (zcall d) 195 Q (zB 195 0) [a0, a1, zJ, zJ] [] h := rfl
theorem zc_196 {d : Nat} {a0 a1 : Value} {h : zH} {Q : zO → zH → Prop} : zcall (d + 1) 196 [a0, a1] h Q = zwp (zcall d) 196 Q (zB 196 0) [a0, a1, zJ] [] h := rfl
theorem zc_197 {d : Nat} {a0 a1 a2 a3 : Value} {h : zH} {Q : zO → zH → Prop} : zcall (d + 1) 197 [a0, a1, a2, a3] h Q = zwp (zcall d) 197 Q (zB 197 0) [a0, a1, a2, a3] [] h := rfl
theorem zc_198 {d : Nat} {a0 a1 a2 : Value} {h : zH} {Q : zO → zH → Prop} : zcall (d + 1) 198 [a0, a1, a2] h Q = zwp (zcall d) 198 Q (zB 198 0) [a0, a1, a2, zJ] [] h := rfl
theorem zc_199 {d : Nat} {a0 : Value} {h : zH} {Q : zO → zH → Prop} : zcall (d + 1) 199 [a0] h Q = zwp (zcall d) 199 Q (zB 199 0) [a0] [] h := rfl
theorem zc_200 {d : Nat} {a0 : Value} {h : zH} {Q : zO → zH → Prop} : zcall (d + 1) 200 [a0] h Q = zwp (zcall d) 200 Q (zB 200 0) [a0] [] h := rfl
theorem zc_201 {d : Nat} {a0 a1 a2 : Value} {h : zH} {Q : zO → zH → Prop} : zcall (d + 1) 201 [a0, a1, a2] h Q = zwp (zcall d) 201 Q (zB 201 0) [a0, a1, a2] [] h := rfl
theorem zc_202 {d : Nat} {a0 a1 a2 : Value} {h : zH} {Q : zO → zH → Prop} : zcall (d + 1) 202 [a0, a1, a2] h Q = zwp (zcall d) 202 Q (zB 202 0) [a0, a1, a2] [] h := rfl
theorem zc_203 {d : Nat} {a0 a1 a2 : Value} {h : zH} {Q : zO → zH → Prop} : zcall (d + 1) 203 [a0, a1, a2] h Q = zwp (zcall d) 203 Q (zB 203 0) [a0, a1, a2] [] h := rfl
theorem zc_204 {d : Nat} {a0 a1 a2 : Value} {h : zH} {Q : zO → zH → Prop} : zcall (d + 1) 204 [a0, a1, a2] h Q = zwp (zcall d) 204 Q (zB 204 0) [a0, a1, a2] [] h := rfl
theorem zc_205 {d : Nat} {a0 a1 a2 : Value} {h : zH} {Q : zO → zH → Prop} : zcall (d + 1) 205 [a0, a1, a2] h Q = zwp (zcall d) 205 Q (zB 205 0) [a0, a1, a2] [] h := rfl
theorem zc_206 {d : Nat} {a0 a1 : Value} {h : zH} {Q : zO → zH → Prop} : zcall (d + 1) 206 [a0, a1] h Q = zwp (zcall d) 206 Q (zB 206 0) [a0, a1] [] h := rfl
theorem zc_207 {d : Nat} {a0 : Value} {h : zH} {Q : zO → zH → Prop} : zcall (d + 1) 207 [a0] h Q = zwp (zcall d) 207 Q (zB 207 0) [a0, zJ, zJ, zJ, zJ] [] h := rfl
theorem zc_208 {d : Nat} {a0 a1 : Value} {h : zH} {Q : zO → zH → Prop} : zcall (d + 1) 208 [a0, a1] h Q = zwp (zcall d) 208 Q (zB 208 0) [a0, a1] [] h := rfl
theorem zc_209 {d : Nat} {a0 a1 : Value} {h : zH} {Q : zO → zH → Prop} : zcall (d + 1) 209 [a0, a1] h Q = zwp (zcall d) 209 Q (zB 209 0) [a0, a1] [] h := rfl
theorem zc_210 {d : Nat} {a0 a1 a2 a3 : Value} {h : zH} {Q : zO → zH → Prop} : zcall (d + 1) 210 [a0, a1, a2, a3] h Q = zwp (zcall d) 210 Q (zB 210 0) [a0, a1, a2, a3] [] h := rfl
theorem zc_211 {d : Nat} {a0 : Value} {h : zH} {Q : zO → zH → Prop} : zcall (d + 1) 211 [a0] h Q = zwp (zcall d) 211 Q (zB 211 0) [a0, zJ] [] h := rfl
theorem zc_212 {d : Nat} {a0 a1 : Value} {h : zH} {Q : zO → zH → Prop} : zcall (d + 1) 212 [a0, a1] h Q = zwp (zcall d) 212 Q (zB 212 0) [a0, a1] [] h := rfl
theorem zc_213 {d : Nat} {a0 : Value} {h : zH} {Q : zO → zH → Prop} : zcall (d + 1) 213 [a0] h Q = zwp (zcall d) 213 Q (zB 213 0) [a0, zJ, zJ] [] h := rfl
theorem zc_214 {d : Nat} {a0 a1 a2 : Value} {h : zH} {Q : zO → zH → Prop} : zcall (d + 1) 214 [a0, a1, a2] h Q = zwp (zcall d) 214 Q (zB 214 0) [a0, a1, a2, zJ] [] h := rfl
theorem zc_215 {d : Nat} {a0 : Value} {h : zH} {Q : zO → zH → Prop} : zcall (d + 1) 215 [a0] h Q = zwp (zcall d) 215 Q (zB 215 0) [a0, zJ, zJ, zJ, zJ] [] h := rfl
theorem zc_216 {d : Nat} {a0 : Value} {h : zH} {Q : zO → zH → Prop} : zcall (d + 1) 216 [a0] h Q = zwp (zcall d) 216 Q (zB 216 0) [a0, zJ] [] h := rfl
theorem zc_217 {d : Nat} {a0 a1 a2 : Value} {h : zH} {Q : zO → zH → Prop} : zcall (d + 1) 217 [a0, a1, a2] h Q = zwp (zcall d) 217 Q (zB 217 0) [a0, a1, a2, zJ, zJ, zJ] [] h := rfl
theorem zc_218 {d : Nat} {a0 a1 a2 : Value} {h : zH} {Q : zO → zH → Prop} : zcall (d + 1) 218 [a0, a1, a2] h Q = zwp (zcall d) 218 Q (zB 218 0) [a0, a1, a2, zJ, zJ] [] h := rfl
theorem zc_219 {d : Nat} {a0 a1 : Value} {h : zH} {Q : zO → zH → Prop} : zcall (d + 1) 219 [a0, a1] h Q = zwp (zcall d) 219 Q (zB 219 0) [a0, a1] [] h := rfl
theorem zc_220 {d : Nat} {a0 a1 a2 : Value} {h : zH} {Q : zO → zH → Prop} : zcall (d + 1) 220 [a0, a1, a2] h Q = zwp (zcall d) 220 Q (zB 220 0) [a0, a1, a2] [] h := rfl
theorem zc_221 {d : Nat} {a0 a1 a2 : Value} {h : zH} {Q : zO → zH → Prop} : zcall (d + 1) 221 [a0, a1, a2] h Q = zwp (zcall d) 221 Q (zB 221 0) [a0, a1, a2] [] h := rfl
theorem zc_222 {d : Nat} {a0 a1 : Value} {h : zH} {Q : zO → zH → Prop} : zcall (d + 1) 222 [a0, a1] h Q = zwp (zcall d) 222 Q (zB 222 0) [a0, a1, zJ] [] h := rfl
theorem zc_223 {d : Nat} {a0 a1 : Value} {h : zH} {Q : zO → zH → Prop} : zcall (d + 1) 223 [a0, a1] h Q = zwp (zcall d) 223 Q (zB 223 0) [a0, a1, zJ, zJ, zJ] [] h := rfl
theorem zc_224 {d : Nat} {a0 : Value} {h : zH} {Q : zO → zH → Prop} : zcall (d + 1) 224 [a0] h Q = zwp (zcall d) 224 Q (zB 224 0) [a0, zJ] [] h := rfl
theorem zc_225 {d : Nat} {a0 a1 : Value} {h : zH} {Q : zO → zH → Prop} : zcall (d + 1) 225 [a0, a1] h Q = zwp (zcall d) 225 Q (zB 225 0) [a0, a1] [] h := rfl
theorem zc_226 {d : Nat} {a0 : Value} {h : zH} {Q : zO → zH → Prop} : zcall (d + 1) 226 [a0] h Q = zwp (zcall d) 226 Q (zB 226 0) [a0, zJ, zJ] [] h := rfl
theorem zc_227 {d : Nat} {a0 : Value} {h : zH} {Q : zO → zH → Prop} : zcall (d + 1) 227 [a0] h Q = zwp (zcall d) 227 Q (zB 227 0) [a0] [] h := rfl
theorem zc_228 {d : Nat} {a0 : Value} {h : zH} {Q : zO → zH → Prop} : zcall (d + 1) 228 [a0] h Q = zwp (zcall d) 228 Q (zB 228 0) [a0, zJ, zJ, zJ] [] h := rfl
theorem zc_229 {d : Nat} {a0 : Value} {h : zH} {Q : zO → zH → Prop} : zcall (d + 1) 229 [a0] h Q = zwp (zcall d) 229 Q (zB 229 0) [a0, zJ, zJ] [] h := rfl
theorem zc_230 {d : Nat} {a0 a1 a2 : Value} {h : zH} {Q : zO → zH → Prop} : zcall (d + 1) 230 [a0, a1, a2] h Q = zwp (zcall d) 230 Q (zB 230 0) [a0, a1, a2, zJ, zJ, zJ, zJ] [] h := rfl
theorem zc_231 {d : Nat} {a0 : Value} {h : zH} {Q : zO → zH → Prop} : zcall (d + 1) 231 [a0] h Q = zwp (zcall d) 231 Q (zB 231 0) [a0, zJ, zJ, zJ, zJ, zJ] [] h := rfl
theorem zc_232 {d : Nat} {a0 a1 : Value} {h : zH} {Q : zO → zH → Prop} : zcall (d + 1) 232 [a0, a1] h Q = zwp (zcall d) 232 Q (zB 232 0) [a0, a1] [] h := rfl
theorem zc_233 {d : Nat} {a0 a1 : Value} {h : zH} {Q : zO → zH → Prop} : zcall (d + 1) 233 [a0, a1] h Q = zwp (zcall d) 233 Q (zB 233 0) [a0, a1] [] h := rfl
theorem zc_234 {d : Nat} {a0 a1 : Value} {h : zH} {Q : zO → zH → Prop} : zcall (d + 1) 234 [a0, a1] h Q = zwp (zcall d) 234 Q (zB 234 0) [a0, a1] [] h := rfl
theorem zc_235 {d : Nat} {a0 : Value} {h : zH} {Q : zO → zH → Prop} : zcall (d + 1) 235 [a0] h Q = zwp (zcall d) 235 Q (zB 235 0) [a0] [] h := rfl
theorem zc_236 {d : Nat} {a0 a1 : Value} {h : zH} {Q : zO → zH → Prop} : zcall (d + 1) 236 [a0, a1] h Q = zwp (zcall d) 236 Q (zB 236 0) [a0, a1, zJ, zJ] [] h := rfl
theorem zc_237 {d : Nat} {a0 a1 : Value} {h : zH} {Q : zO → zH → Prop} : zcall (d + 1) 237 [a0, a1] h Q = zwp (zcall d) 237 Q (zB 237 0) [a0, a1] [] h := rfl
theorem zc_238 {d : Nat} {a0 a1 : Value} {h : zH} {Q : zO → zH → Prop} : zcall (d + 1) 238 [a0, a1] h Q = zwp (zcall d) 238 Q (zB 238 0) [a0, a1, zJ] [] h := rfl
theorem zc_239 {d : Nat} {a0 a1 a2 : Value} {h : zH} {Q : zO → zH → Prop} : zcall (d + 1) 239 [a0, a1, a2] h Q = zwp (zcall d) 239 Q (zB 239 0) [a0, a1, a2, zJ, zJ, zJ] [] h := rfl
theorem zc_240 {d : Nat} {a0 a1 : Value} {h : zH} {Q : zO → zH → Prop} : zcall (d + 1) 240 [a0, a1] h Q = zwp (zcall d) 240 Q (zB 240 0) [a0, a1, zJ, zJ, zJ, zJ, zJ, zJ] [] h := rfl
theorem zc_241 {d : Nat} {a0 a1 : Value} {h : zH} {Q : zO → zH → Prop} : zcall (d + 1) 241 [a0, a1] h Q = zwp (zcall d) 241 Q (zB 241 0) [a0, a1] [] h := rfl
theorem zc_242 {d : Nat} {a0 a1 a2 : Value} {h : zH} {Q : zO → zH → Prop} : zcall (d + 1) 242 [a0, a1, a2] h Q = zwp (zcall d) 242 Q (zB 242 0) [a0, a1, a2, zJ] [] h := rfl
theorem zc_243 {d : Nat} {a0 a1 : Value} {h : zH} {Q : zO → zH → Prop} : zcall (d + 1) 243 [a0, a1] h Q = zwp (zcall d) 243 Q (zB 243 0) [a0, a1, zJ, zJ] [] h := rfl
theorem zc_244 {d : Nat} {a0 a1 a2 a3 : Value} {h : zH} {Q : zO → zH → Prop} : zcall (d + 1) 244 [a0, a1, a2, a3] h Q = zwp (zcall d) 244 Q (zB 244 0) [a0, a1, a2, a3, zJ] [] h := rfl
theorem zc_245 {d : Nat} {a0 : Value} {h : zH} {Q : zO → zH → Prop} : zcall (d + 1) 245 [a0] h Q = zwp (zcall d) 245 Q (zB 245 0) [a0, zJ, zJ, zJ, zJ, zJ] [] h := rfl
theorem zc_246 {d : Nat} {a0 : Value} {h : zH} {Q : zO → zH → Prop} : zcall (d + 1) 246 [a0] h Q = zwp (zcall d) 246 Q (zB 246 0) [a0] [] h := rfl
theorem zc_247 {d : Nat} {a0 a1 : Value} {h : zH} {Q : zO → zH → Prop} : zcall (d + 1) 247 [a0, a1] h Q = zwp (zcall d) 247 Q (zB 247 0) [a0, a1, zJ, zJ, zJ, zJ, zJ, zJ] [] h := rfl
theorem zc_248 {d : Nat} {a0 a1 : Value} {h : zH} {Q : zO → zH → Prop} : zcall (d + 1) 248 [a0, a1] h Q = zwp (zcall d) 248 Q (zB 248 0) [a0, a1, zJ, zJ] [] h := rfl
theorem zc_249 {d : Nat} {a0 a1 a2 : Value} {h : zH} {Q : zO → zH → Prop} : zcall (d + 1) 249 [a0, a1, a2] h Q = zwp (zcall d) 249 Q (zB 249 0) [a0, a1, a2] [] h := rfl
theorem zc_250 {d : Nat} {a0 a1 : Value} {h : zH} {Q : zO → zH → Prop} : zcall (d + 1) 250 [a0, a1] h Q = zwp (zcall d) 250 Q (zB 250 0) [a0, a1, zJ] [] h := rfl
theorem zc_251 {d : Nat} {a0 : Value} {h : zH} {Q : zO → zH → Prop} : zcall (d + 1) 251 [a0] h Q = zwp (zcall d) 251 Q (zB 251 0) [a0, zJ, zJ] [] h := rfl
theorem zc_252 {d : Nat} {a0 a1 : Value} {h : zH} {Q : zO → zH → Prop} : zcall (d + 1) 252 [a0, a1] h Q = zwp (zcall d) 252 Q (zB 252 0) [a0, a1, zJ, zJ] [] h := rfl
theorem zc_253 {d : Nat} {a0 a1 a2 a3 : Value} {h : zH} {Q : zO → zH → Prop} : zcall (d + 1) 253 [a0, a1, a2, a3] h Q = zwp (zcall d) 253 Q (zB 253 0) [a0, a1, a2, a3, zJ, zJ, zJ] [] h := rfl
theorem zc_254 {d : Nat} {a0 a1 a2 : Value} {h : zH} {Q : zO → zH → Prop} : zcall (d + 1) 254 [a0, a1, a2] h Q = zwp (zcall d) 254 Q (zB 254 0) [a0, a1, a2] [] h := rfl
theorem zc_255 {d : Nat} {a0 a1 a2 a3 : Value} {h : zH} {Q : zO → zH → Prop} : zcall (d + 1) 255 [a0, a1, a2, a3] h Q = zwp (zcall d) 255 Q (zB 255 0) [a0, a1, a2, a3] [] h := rfl
theorem zc_256 {d : Nat} {a0 a1 : Value} {h : zH} {Q : zO → zH → Prop} : zcall (d + 1) 256 [a0, a1] h Q = zwp (zcall d) 256 Q (zB 256 0) [a0, a1, zJ, zJ, zJ, zJ, zJ, zJ, zJ] [] h := rfl
theorem zc_257 {d : Nat} {a0 a1 : Value} {h : zH} {Q : zO → zH → Prop} : zcall (d + 1) 257 [a0, a1] h Q = zwp (zcall d) 257 Q (zB 257 0) [a0, a1] [] h := rfl
theorem zc_258 {d : Nat} {a0 a1 : Value} {h : zH} {Q : zO → zH → Prop} : zcall (d + 1) 258 [a0, a1] h Q = zwp (zcall d) 258 Q (zB 258 0) [a0, a1, zJ, zJ, zJ, zJ, zJ, zJ] [] h := rfl
theorem zc_259 {d : Nat} {a0 a1 : Value} {h : zH} {Q : zO → zH → Prop} : zcall (d + 1) 259 [a0, a1] h Q = zwp (zcall d) 259 Q (zB 259 0) [a0, a1] [] h := rfl
theorem zc_260 {d : Nat} {a0 : Value} {h : zH} {Q : zO → zH → Prop} : zcall (d + 1) 260 [a0] h Q = zwp (zcall d) 260 Q (zB 260 0) [a0, zJ] [] h := rfl
theorem zc_261 {d : Nat} {a0 a1 a2 : Value} {h : zH} {Q : zO → zH → Prop} : zcall (d + 1) 261 [a0, a1, a2] h Q = zwp (zcall d) 261 Q (zB 261 0) [a0, a1, a2] [] h := rfl
theorem zc_262 {d : Nat} {a0 : Value} {h : zH} {Q : zO → zH → Prop} : zcall (d + 1) 262 [a0] h Q = zwp (zcall d) 262 Q (zB 262 0) [a0] [] h := rfl
theorem zc_263 {d : Nat} {a0 a1 : Value} {h : zH} {Q : zO → zH → Prop} : zcall (d + 1) 263 [a0, a1] h Q = zwp (zcall d) 263 Q (zB 263 0) [a0, a1, zJ] [] h := rfl
theorem zc_264 {d : Nat} {a0 : Value} {h : zH} {Q : zO → zH → Prop} : zcall (d + 1) 264 [a0] h Q = zwp (zcall d) 264 Q (zB 264 0) [a0, zJ, zJ] [] h := rfl
theorem zc_265 {d : Nat} {a0 : Value} {h : zH} {Q : zO → zH → Prop} : zcall (d + 1) 265 [a0] h Q = zwp (zcall d) 265 Q (zB 265 0) [a0] [] h := rfl
theorem zc_266 {d : Nat} {a0 : Value} {h : zH} {Q : zO → zH → Prop} : zcall (d + 1) 266 [a0] h Q = zwp (zcall d) 266 Q (zB 266 0) [a0, zJ, zJ] [] h := rfl
theorem zc_267 {d : Nat} {a0 : Value} {h : zH} {Q : zO → zH → Prop} : zcall (d + 1) 267 [a0] h Q = zwp (zcall d) 267 Q (zB 267 0) [a0, zJ] [] h := rfl
theorem zc_268 {d : Nat} {a0 a1 : Value} {h : zH} {Q : zO → zH → Prop} : zcall (d + 1) 268 [a0, a1] h Q = zwp (zcall d) 268 Q (zB 268 0) [a0, a1] [] h := rfl
theorem zc_269 {d : Nat} {a0 : Value} {h : zH} {Q : zO → zH → Prop} : zcall (d + 1) 269 [a0] h Q = zwp (zcall d) 269 Q (zB 269 0) [a0, zJ, zJ] [] h := rfl
theorem zc_270 {d : Nat} {a0 a1 a2 : Value} {h : zH} {Q : zO → zH → Prop} : zcall (d + 1) 270 [a0, a1, a2] h Q = zwp (zcall d) 270 Q (zB 270 0) [a0, a1, a2, zJ] [] h := rfl
theorem zc_271 {d : Nat} {a0 a1 a2 a3 a4 a5 a6 : Value} {h : zH} {Q : zO → zH → Prop} : zcall (d + 1) 271 [a0, a1, a2, a3, a4, a5, a6] h Q = zwp (zcall d) 271 Q (zB 271 0) [a0, a1, a2, a3, a4, a5, a6, zJ] [] h := rfl
theorem zc_272 {d : Nat} {a0 a1 a2 : Value} {h : zH} {Q : zO → zH → Prop} : zcall (d + 1) 272 [a0, a1, a2] h Q = zwp (zcall d) 272 Q (zB 272 0) [a0, a1, a2, zJ] [] h := rfl
theorem zc_273 {d : Nat} {a0 a1 a2 a3 a4 : Value} {h : zH} {Q : zO → zH → Prop} : zcall (d + 1) 273 [a0, a1, a2, a3, a4] h Q = zwp (zcall d) 273 Q (zB 273 0) [a0, a1, a2, a3, a4, zJ] [] h := rfl
theorem zc_274 {d : Nat} {a0 a1 a2 a3 : Value} {h : zH} {Q : zO → zH → Prop} : zcall (d + 1) 274 [a0, a1, a2, a3] h Q = zwp (zcall d) 274 Q (zB 274 0) [a0, a1, a2, a3, zJ] [] h := rfl
theorem zc_275 {d : Nat} {a0 a1 a2 a3 : Value} {h : zH} {Q : zO → zH → Prop} : zcall (d + 1) 275 [a0, a1, a2, a3] h Q = zwp (zcall d) 275 Q (zB 275 0) [a0, a1, a2, a3, zJ] [] h := rfl
theorem zc_276 {d : Nat} {a0 a1 a2 a3 : Value} {h : zH} {Q : zO → zH → Prop} : zcall (d + 1) 276 [a0, a1, a2, a3] h Q = zwp (zcall d) 276 Q (zB 276 0) [a0, a1, a2, a3, zJ] [] h := rfl
theorem zc_277 {d : Nat} {a0 a1 a2 a3 : Value} {h : zH} {Q : zO → zH → Prop} : zcall (d + 1) 277 [a0, a1, a2, a3] h Q = zwp (zcall d) 277 Q (zB 277 0) [a0, a1, a2, a3, zJ] [] h := rfl
theorem zc_278 {d : Nat} {a0 a1 a2 : Value} {h : zH} {Q : zO → zH → Prop} : zcall (d + 1) 278 [a0, a1, a2] h Q = zwp (zcall d) 278 Q (zB 278 0) [a0, a1, a2, zJ] [] h := rfl
theorem zc_279 {d : Nat} {a0 a1 a2 a3 : Value} {h : zH} {Q : zO → zH → Prop} : zcall (d + 1) 279 [a0, a1, a2, a3] h Q = zwp (zcall d) 279 Q (zB 279 0) [a0, a1, a2, a3, zJ] [] h := rfl
theorem zc_280 {d : Nat} {a0 a1 a2 : Value} {h : zH} {Q : zO → zH → Prop} : zcall (d + 1) 280 [a0, a1, a2] h Q = zwp (zcall d) 280 Q (zB 280 0) [a0, a1, a2, zJ] [] h := rfl
theorem zc_281 {d : Nat} {a0 a1 a2 a3 : Value} {h : zH} {Q : zO → zH → Prop} : zcall (d + 1) 281 [a0, a1, a2, a3] h Q = zwp (zcall d) 281 Q (zB 281 0) [a0, a1, a2, a3, zJ] [] h := rfl
theorem zc_282 {d : Nat} {a0 a1 a2 a3 : Value} {h : zH} {Q : zO → zH → Prop} : zcall (d + 1) 282 [a0, a1, a2, a3] h Q = zwp (zcall d) 282 Q (zB 282 0) [a0, a1, a2, a3, zJ] [] h := rfl
theorem zc_283 {d : Nat} {a0 a1 a2 : Value} {h : zH} {Q : zO → zH → Prop} : zcall (d + 1) 283 [a0, a1, a2] h Q = zwp (zcall d) 283 Q (zB 283 0) [a0, a1, a2, zJ] [] h := rfl
theorem zc_284 {d : Nat} {a0 a1 a2 : Value} {h : zH} {Q : zO → zH → Prop} : zcall (d + 1) 284 [a0, a1, a2] h Q = zwp (zcall d) 284 Q (zB 284 0) [a0, a1, a2, zJ] [] h := rfl
theorem zc_285 {d : Nat} {a0 a1 a2 : Value} {h : zH} {Q : zO → zH → Prop} : zcall (d + 1) 285 [a0, a1, a2] h Q = zwp (zcall d) 285 Q (zB 285 0) [a0, a1, a2, zJ] [] h := rfl
theorem zc_286 {d : Nat} {a0 a1 a2 : Value} {h : zH} {Q : zO → zH → Prop} : zcall (d + 1) 286 [a0, a1, a2] h Q = zwp (zcall d) 286 Q (zB 286 0) [a0, a1, a2, zJ] [] h := rfl
theorem zc_287 {d : Nat} {a0 a1 a2 : Value} {h : zH} {Q : zO → zH → Prop} : zcall (d + 1) 287 [a0, a1, a2] h Q = zwp (zcall d) 287 Q (zB 287 0) [a0, a1, a2, zJ] [] h := rfl
theorem zc_288 {d : Nat} {a0 a1 a2 : Value} {h : zH} {Q : zO → zH → Prop} : zcall (d + 1) 288 [a0, a1, a2] h Q = zwp (zcall d) 288 Q (zB 288 0) [a0, a1, a2, zJ] [] h := rfl
theorem zc_289 {d : Nat} {a0 a1 a2 : Value} {h : zH} {Q : zO → zH → Prop} : zcall (d + 1) 289 [a0, a1, a2] h Q = zwp (zcall d) 289 Q (zB 289 0) [a0, a1, a2, zJ] [] h := rfl
theorem zc_290 {d : Nat} {a0 a1 a2 : Value} {h : zH} {Q : zO → zH → Prop} : zcall (d + 1) 290 [a0, a1, a2] h Q = zwp (zcall d) 290 Q (zB 290 0) [a0, a1, a2, zJ] [] h := rfl
theorem zc_291 {d : Nat} {a0 a1 a2 a3 : Value} {h : zH} {Q : zO → zH → Prop} : zcall (d + 1) 291 [a0, a1, a2, a3] h Q = zwp (zcall d) 291 Q (zB 291 0) [a0, a1, a2, a3, zJ] [] h := rfl
theorem zc_292 {d : Nat} {a0 a1 a2 a3 : Value} {h : zH} {Q : zO → zH → Prop} : zcall (d + 1) 292 [a0, a1, a2, a3] h Q = zwp (zcall d) 292 Q (zB 292 0) [a0, a1, a2, a3, zJ] [] h := rfl
theorem zc_293 {d : Nat} {a0 a1 a2 a3 : Value} {h : zH} {Q : zO → zH → Prop} : zcall (d + 1) 293 [a0, a1, a2, a3] h Q = zwp (zcall d) 293 Q (zB 293 0) [a0, a1, a2, a3, zJ] [] h := rfl
theorem zc_294 {d : Nat} {a0 a1 a2 a3 a4 : Value} {h : zH} {Q : zO → zH → Prop} : zcall (d + 1) 294 [a0, a1, a2, a3, a4] h Q = zwp (zcall d) 294 Q (zB 294 0) [a0, a1, a2, a3, a4, zJ] [] h := rfl
theorem zc_295 {d : Nat} {a0 a1 a2 : Value} {h : zH} {Q : zO → zH → Prop} : zcall (d + 1) 295 [a0, a1, a2] h Q = zwp (zcall d) 295 Q (zB 295 0) [a0, a1, a2, zJ] [] h := rfl
theorem zc_296 {d : Nat} {a0 a1 a2 : Value} {h : zH} {Q : zO → zH → Prop} : zcall (d + 1) 296 [a0, a1, a2] h Q = zwp (zcall d) 296 Q (zB 296 0) [a0, a1, a2, zJ] [] h := rfl
theorem zc_297 {d : Nat} {a0 a1 a2 : Value} {h : zH} {Q : zO → zH → Prop} : zcall (d + 1) 297 [a0, a1, a2] h Q = zwp (zcall d) 297 Q (zB 297 0) [a0, a1, a2, zJ] [] h := rfl
theorem zc_298 {d : Nat} {a0 a1 : Value} {h : zH} {Q : zO → zH → Prop} : zcall (d + 1) 298 [a0, a1] h Q = zwp (zcall d) 298 Q (zB 298 0) [a0, a1, zJ] [] h := rfl
theorem zc_300 {d : Nat} {a0 a1 : Value} {h : zH} {Q : zO → zH → Prop} : zcall (d + 1) 300 [a0, a1] h Q = zwp (zcall d) 300 Q (zB 300 0) [a0, a1] [] h := rfl
theorem zc_301 {d : Nat} {a0 a1 : Value} {h : zH} {Q : zO → zH → Prop} : zcall (d + 1) 301 [a0, a1] h Q = zwp (zcall d) 301 Q (zB 301 0) [a0, a1] [] h := rfl
theorem zc_302 {d : Nat} {a0 : Value} {h : zH} {Q : zO → zH → Prop} : zcall (d + 1) 302 [a0] h Q = zwp (zcall d) 302 Q (zB 302 0) [a0] [] h := rfl
theorem zc_303 {d : Nat} {a0 : Value} {h : zH} {Q : zO → zH → Prop} : zcall (d + 1) 303 [a0] h Q = zwp (zcall d) 303 Q (zB 303 0) [a0] [] h := rfl
theorem zc_304 {d : Nat} {a0 : Value} {h : zH} {Q : zO → zH → Prop} : zcall (d + 1) 304 [a0] h Q = zwp (zcall d) 304 Q (zB 304 0) [a0] [] h := rfl
end
section
/-! rules of the machine: zwp at an instruction is zwp behind it; written by wip/whole/gen_rules.py -/
theorem z_rng {a : Int} (h1 : -2147483648 ≤ a) (h2 : a < 2147483648) : (Int32.ofInt a).toInt = a := Int32.toInt_ofInt_of_le (by omega) (by omega)
theorem z_lt {a b : Int} (h1 : -2147483648 ≤ a) (h2 : a < 2147483648) (h3 : -2147483648 ≤ b) (h4 : b < 2147483648) : (Int32.ofInt a < Int32.ofInt b) = (a < b) := by rw [Int32.lt_iff_toInt_lt, z_rng h1 h2, z_rng h3 h4]
theorem z_le {a b : Int} (h1 : -2147483648 ≤ a) (h2 : a < 2147483648) (h3 : -2147483648 ≤ b) (h4 : b < 2147483648) : (Int32.ofInt a ≤ Int32.ofInt b) = (a ≤ b) := by rw [Int32.le_iff_toInt_le, z_rng h1 h2, z_rng h3 h4]
theorem z_eq {a b : Int} (h1 : -2147483648 ≤ a) (h2 : a < 2147483648) (h3 : -2147483648 ≤ b) (h4 : b < 2147483648) : (Int32.ofInt a = Int32.ofInt b) = (a = b) := by rw [← Int32.toInt_inj, z_rng h1 h2, z_rng h3 h4]
theorem z_0 : (0 : Int32) = Int32.ofInt 0 := rfl
def zand (a b : Int) : Int := (Int32.ofInt a &&& Int32.ofInt b).toInt
def zor (a b : Int) : Int := (Int32.ofInt a ||| Int32.ofInt b).toInt
def zxor (a b : Int) : Int := (Int32.ofInt a ^^^ Int32.ofInt b).toInt
def zshl (a b : Int) : Int := (Int32.ofInt a <<< (Int32.ofInt b &&& 31)).toInt
def zshr (a b : Int) : Int := (Int32.ofInt a >>> (Int32.ofInt b &&& 31)).toInt
def zushr (a b : Int) : Int := ((Int32.ofInt a).toUInt32 >>> ((Int32.ofInt b).toUInt32 &&& Int32.toUInt32 31)).toInt32.toInt
def zdiv (a b : Int) : Int := (Int32.ofInt a / Int32.ofInt b).toInt
theorem z_ite {α : Type} {p q : Prop} {a b : α} {hp : Decidable p} {hq : Decidable q} (e : p = q) : (@ite α p hp a b) = (@ite α q hq a b) := by
  subst e
  congr
theorem if_pos_z {c : Prop} {hc : Decidable c} {a : List Instr × List Value × List Value × zH} {X : List Instr → List Value → List Value → zH → Prop} (h : c) : (match (@ite _ c hc (some a) none) with | some q => X q.1 q.2.1 q.2.2.1 q.2.2.2 | none => False) = X a.1 a.2.1 a.2.2.1 a.2.2.2 := by
  rw [if_pos h]
theorem z_ite2 {c : Prop} {hc : Decidable c} {a b : List Instr × List Value × List Value × zH} {X : List Instr → List Value → List Value → zH → Prop} : (match (@ite _ c hc (some a) (some b)) with | some q => X q.1 q.2.1 q.2.2.1 q.2.2.2 | none => False) = @ite _ c hc (X a.1 a.2.1 a.2.2.1 a.2.2.2) (X b.1 b.2.1 b.2.2.1 b.2.2.2) := by
  by_cases h : c
  · rw [if_pos h, if_pos h]
  · rw [if_neg h, if_neg h]
theorem z_and2 {a b c : Prop} (ha : a) (hb : b) : (a ∧ b ∧ c) = c := propext ⟨fun h => h.2.2, fun h => ⟨ha, hb, h⟩⟩
section
variable {d m : Nat} {Q : zO → zH → Prop} {r : List Instr} {L st : List Value} {s : zS} {V : zV} {h : zH} {v0 v1 v2 v3 v4 v5 v6 v7 v8 v9 v10 v11 v12 : Value} {x y j n k : Int} {l : Int} {a b c : Nat}
theorem r_iload_0 : zwp (zcall d) m Q (.iload 0 :: r) (zi x :: L) st h = zwp (zcall d) m Q r (zi x :: L) (zi x :: st) h := by rw [zw]; rfl
theorem r_lload_0 : zwp (zcall d) m Q (.lload 0 :: r) (zl x :: L) st h = zwp (zcall d) m Q r (zl x :: L) (zl x :: st) h := by rw [zw]; rfl
theorem r_aload_0 : zwp (zcall d) m Q (.aload 0 :: r) (.ref a :: L) st h = zwp (zcall d) m Q r (.ref a :: L) (.ref a :: st) h := by rw [zw]; rfl
theorem r_dload_0 {u : UInt64} : zwp (zcall d) m Q (.dload 0 :: r) (.double u :: L) st h = zwp (zcall d) m Q r (.double u :: L) (.double u :: st) h := by rw [zw]; rfl
theorem r_fload_0 {u : UInt32} : zwp (zcall d) m Q (.fload 0 :: r) (.float u :: L) st h = zwp (zcall d) m Q r (.float u :: L) (.float u :: st) h := by rw [zw]; rfl
theorem r_iload_1 : zwp (zcall d) m Q (.iload 1 :: r) (v0 :: zi x :: L) st h = zwp (zcall d) m Q r (v0 :: zi x :: L) (zi x :: st) h := by rw [zw]; rfl
theorem r_lload_1 : zwp (zcall d) m Q (.lload 1 :: r) (v0 :: zl x :: L) st h = zwp (zcall d) m Q r (v0 :: zl x :: L) (zl x :: st) h := by rw [zw]; rfl
theorem r_aload_1 : zwp (zcall d) m Q (.aload 1 :: r) (v0 :: .ref a :: L) st h = zwp (zcall d) m Q r (v0 :: .ref a :: L) (.ref a :: st) h := by rw [zw]; rfl
theorem r_dload_1 {u : UInt64} : zwp (zcall d) m Q (.dload 1 :: r) (v0 :: .double u :: L) st h = zwp (zcall d) m Q r (v0 :: .double u :: L) (.double u :: st) h := by rw [zw]; rfl
theorem r_fload_1 {u : UInt32} : zwp (zcall d) m Q (.fload 1 :: r) (v0 :: .float u :: L) st h = zwp (zcall d) m Q r (v0 :: .float u :: L) (.float u :: st) h := by rw [zw]; rfl
theorem r_iload_2 : zwp (zcall d) m Q (.iload 2 :: r) (v0 :: v1 :: zi x :: L) st h = zwp (zcall d) m Q r (v0 :: v1 :: zi x :: L) (zi x :: st) h := by rw [zw]; rfl
theorem r_lload_2 : zwp (zcall d) m Q (.lload 2 :: r) (v0 :: v1 :: zl x :: L) st h = zwp (zcall d) m Q r (v0 :: v1 :: zl x :: L) (zl x :: st) h := by rw [zw]; rfl
theorem r_aload_2 : zwp (zcall d) m Q (.aload 2 :: r) (v0 :: v1 :: .ref a :: L) st h = zwp (zcall d) m Q r (v0 :: v1 :: .ref a :: L) (.ref a :: st) h := by rw [zw]; rfl
theorem r_dload_2 {u : UInt64} : zwp (zcall d) m Q (.dload 2 :: r) (v0 :: v1 :: .double u :: L) st h = zwp (zcall d) m Q r (v0 :: v1 :: .double u :: L) (.double u :: st) h := by rw [zw]; rfl
theorem r_iload_3 : zwp (zcall d) m Q (.iload 3 :: r) (v0 :: v1 :: v2 :: zi x :: L) st h = zwp (zcall d) m Q r (v0 :: v1 :: v2 :: zi x :: L) (zi x :: st) h := by rw [zw]; rfl
theorem r_lload_3 : zwp (zcall d) m Q (.lload 3 :: r) (v0 :: v1 :: v2 :: zl x :: L) st h = zwp (zcall d) m Q r (v0 :: v1 :: v2 :: zl x :: L) (zl x :: st) h := by rw [zw]; rfl
theorem r_aload_3 : zwp (zcall d) m Q (.aload 3 :: r) (v0 :: v1 :: v2 :: .ref a :: L) st h = zwp (zcall d) m Q r (v0 :: v1 :: v2 :: .ref a :: L) (.ref a :: st) h := by rw [zw]; rfl
theorem r_dload_3 {u : UInt64} : zwp (zcall d) m Q (.dload 3 :: r) (v0 :: v1 :: v2 :: .double u :: L) st h = zwp (zcall d) m Q r (v0 :: v1 :: v2 :: .double u :: L) (.double u :: st) h := by rw [zw]; rfl
theorem r_iload_4 : zwp (zcall d) m Q (.iload 4 :: r) (v0 :: v1 :: v2 :: v3 :: zi x :: L) st h = zwp (zcall d) m Q r (v0 :: v1 :: v2 :: v3 :: zi x :: L) (zi x :: st) h := by rw [zw]; rfl
theorem r_lload_4 : zwp (zcall d) m Q (.lload 4 :: r) (v0 :: v1 :: v2 :: v3 :: zl x :: L) st h = zwp (zcall d) m Q r (v0 :: v1 :: v2 :: v3 :: zl x :: L) (zl x :: st) h := by rw [zw]; rfl
theorem r_aload_4 : zwp (zcall d) m Q (.aload 4 :: r) (v0 :: v1 :: v2 :: v3 :: .ref a :: L) st h = zwp (zcall d) m Q r (v0 :: v1 :: v2 :: v3 :: .ref a :: L) (.ref a :: st) h := by rw [zw]; rfl
theorem r_dload_4 {u : UInt64} : zwp (zcall d) m Q (.dload 4 :: r) (v0 :: v1 :: v2 :: v3 :: .double u :: L) st h = zwp (zcall d) m Q r (v0 :: v1 :: v2 :: v3 :: .double u :: L) (.double u :: st) h := by rw [zw]; rfl
theorem r_iload_5 : zwp (zcall d) m Q (.iload 5 :: r) (v0 :: v1 :: v2 :: v3 :: v4 :: zi x :: L) st h = zwp (zcall d) m Q r (v0 :: v1 :: v2 :: v3 :: v4 :: zi x :: L) (zi x :: st) h := by rw [zw]; rfl
theorem r_lload_5 : zwp (zcall d) m Q (.lload 5 :: r) (v0 :: v1 :: v2 :: v3 :: v4 :: zl x :: L) st h = zwp (zcall d) m Q r (v0 :: v1 :: v2 :: v3 :: v4 :: zl x :: L) (zl x :: st) h := by rw [zw]; rfl
theorem r_aload_5 : zwp (zcall d) m Q (.aload 5 :: r) (v0 :: v1 :: v2 :: v3 :: v4 :: .ref a :: L) st h = zwp (zcall d) m Q r (v0 :: v1 :: v2 :: v3 :: v4 :: .ref a :: L) (.ref a :: st) h := by rw [zw]; rfl
theorem r_dload_5 {u : UInt64} : zwp (zcall d) m Q (.dload 5 :: r) (v0 :: v1 :: v2 :: v3 :: v4 :: .double u :: L) st h = zwp (zcall d) m Q r (v0 :: v1 :: v2 :: v3 :: v4 :: .double u :: L) (.double u :: st) h := by rw [zw]; rfl
theorem r_iload_6 : zwp (zcall d) m Q (.iload 6 :: r) (v0 :: v1 :: v2 :: v3 :: v4 :: v5 :: zi x :: L) st h = zwp (zcall d) m Q r (v0 :: v1 :: v2 :: v3 :: v4 :: v5 :: zi x :: L) (zi x :: st) h := by rw [zw]; rfl
theorem r_lload_6 : zwp (zcall d) m Q (.lload 6 :: r) (v0 :: v1 :: v2 :: v3 :: v4 :: v5 :: zl x :: L) st h = zwp (zcall d) m Q r (v0 :: v1 :: v2 :: v3 :: v4 :: v5 :: zl x :: L) (zl x :: st) h := by rw [zw]; rfl
theorem r_aload_6 : zwp (zcall d) m Q (.aload 6 :: r) (v0 :: v1 :: v2 :: v3 :: v4 :: v5 :: .ref a :: L) st h = zwp (zcall d) m Q r (v0 :: v1 :: v2 :: v3 :: v4 :: v5 :: .ref a :: L) (.ref a :: st) h := by rw [zw]; rfl
theorem r_dload_6 {u : UInt64} : zwp (zcall d) m Q (.dload 6 :: r) (v0 :: v1 :: v2 :: v3 :: v4 :: v5 :: .double u :: L) st h = zwp (zcall d) m Q r (v0 :: v1 :: v2 :: v3 :: v4 :: v5 :: .double u :: L) (.double u :: st) h := by rw [zw]; rfl
theorem r_iload_7 : zwp (zcall d) m Q (.iload 7 :: r) (v0 :: v1 :: v2 :: v3 :: v4 :: v5 :: v6 :: zi x :: L) st h = zwp (zcall d) m Q r (v0 :: v1 :: v2 :: v3 :: v4 :: v5 :: v6 :: zi x :: L) (zi x :: st) h := by rw [zw]; rfl
theorem r_aload_7 : zwp (zcall d) m Q (.aload 7 :: r) (v0 :: v1 :: v2 :: v3 :: v4 :: v5 :: v6 :: .ref a :: L) st h = zwp (zcall d) m Q r (v0 :: v1 :: v2 :: v3 :: v4 :: v5 :: v6 :: .ref a :: L) (.ref a :: st) h := by rw [zw]; rfl
theorem r_dload_7 {u : UInt64} : zwp (zcall d) m Q (.dload 7 :: r) (v0 :: v1 :: v2 :: v3 :: v4 :: v5 :: v6 :: .double u :: L) st h = zwp (zcall d) m Q r (v0 :: v1 :: v2 :: v3 :: v4 :: v5 :: v6 :: .double u :: L) (.double u :: st) h := by rw [zw]; rfl
theorem r_iload_8 : zwp (zcall d) m Q (.iload 8 :: r) (v0 :: v1 :: v2 :: v3 :: v4 :: v5 :: v6 :: v7 :: zi x :: L) st h = zwp (zcall d) m Q r (v0 :: v1 :: v2 :: v3 :: v4 :: v5 :: v6 :: v7 :: zi x :: L) (zi x :: st) h := by rw [zw]; rfl
theorem r_aload_8 : zwp (zcall d) m Q (.aload 8 :: r) (v0 :: v1 :: v2 :: v3 :: v4 :: v5 :: v6 :: v7 :: .ref a :: L) st h = zwp (zcall d) m Q r (v0 :: v1 :: v2 :: v3 :: v4 :: v5 :: v6 :: v7 :: .ref a :: L) (.ref a :: st) h := by rw [zw]; rfl
theorem r_dload_8 {u : UInt64} : zwp (zcall d) m Q (.dload 8 :: r) (v0 :: v1 :: v2 :: v3 :: v4 :: v5 :: v6 :: v7 :: .double u :: L) st h = zwp (zcall d) m Q r (v0 :: v1 :: v2 :: v3 :: v4 :: v5 :: v6 :: v7 :: .double u :: L) (.double u :: st) h := by rw [zw]; rfl
theorem r_iload_9 : zwp (zcall d) m Q (.iload 9 :: r) (v0 :: v1 :: v2 :: v3 :: v4 :: v5 :: v6 :: v7 :: v8 :: zi x :: L) st h = zwp (zcall d) m Q r (v0 :: v1 :: v2 :: v3 :: v4 :: v5 :: v6 :: v7 :: v8 :: zi x :: L) (zi x :: st) h := by rw [zw]; rfl
theorem r_aload_9 : zwp (zcall d) m Q (.aload 9 :: r) (v0 :: v1 :: v2 :: v3 :: v4 :: v5 :: v6 :: v7 :: v8 :: .ref a :: L) st h = zwp (zcall d) m Q r (v0 :: v1 :: v2 :: v3 :: v4 :: v5 :: v6 :: v7 :: v8 :: .ref a :: L) (.ref a :: st) h := by rw [zw]; rfl
theorem r_dload_9 {u : UInt64} : zwp (zcall d) m Q (.dload 9 :: r) (v0 :: v1 :: v2 :: v3 :: v4 :: v5 :: v6 :: v7 :: v8 :: .double u :: L) st h = zwp (zcall d) m Q r (v0 :: v1 :: v2 :: v3 :: v4 :: v5 :: v6 :: v7 :: v8 :: .double u :: L) (.double u :: st) h := by rw [zw]; rfl
theorem r_iload_10 : zwp (zcall d) m Q (.iload 10 :: r) (v0 :: v1 :: v2 :: v3 :: v4 :: v5 :: v6 :: v7 :: v8 :: v9 :: zi x :: L) st h = zwp (zcall d) m Q r (v0 :: v1 :: v2 :: v3 :: v4 :: v5 :: v6 :: v7 :: v8 :: v9 :: zi x :: L) (zi x :: st) h := by rw [zw]; rfl
theorem r_aload_10 : zwp (zcall d) m Q (.aload 10 :: r) (v0 :: v1 :: v2 :: v3 :: v4 :: v5 :: v6 :: v7 :: v8 :: v9 :: .ref a :: L) st h = zwp (zcall d) m Q r (v0 :: v1 :: v2 :: v3 :: v4 :: v5 :: v6 :: v7 :: v8 :: v9 :: .ref a :: L) (.ref a :: st) h := by rw [zw]; rfl
theorem r_dload_10 {u : UInt64} : zwp (zcall d) m Q (.dload 10 :: r) (v0 :: v1 :: v2 :: v3 :: v4 :: v5 :: v6 :: v7 :: v8 :: v9 :: .double u :: L) st h = zwp (zcall d) m Q r (v0 :: v1 :: v2 :: v3 :: v4 :: v5 :: v6 :: v7 :: v8 :: v9 :: .double u :: L) (.double u :: st) h := by rw [zw]; rfl
theorem r_iload_11 : zwp (zcall d) m Q (.iload 11 :: r) (v0 :: v1 :: v2 :: v3 :: v4 :: v5 :: v6 :: v7 :: v8 :: v9 :: v10 :: zi x :: L) st h = zwp (zcall d) m Q r (v0 :: v1 :: v2 :: v3 :: v4 :: v5 :: v6 :: v7 :: v8 :: v9 :: v10 :: zi x :: L) (zi x :: st) h := by rw [zw]; rfl
theorem r_aload_11 : zwp (zcall d) m Q (.aload 11 :: r) (v0 :: v1 :: v2 :: v3 :: v4 :: v5 :: v6 :: v7 :: v8 :: v9 :: v10 :: .ref a :: L) st h = zwp (zcall d) m Q r (v0 :: v1 :: v2 :: v3 :: v4 :: v5 :: v6 :: v7 :: v8 :: v9 :: v10 :: .ref a :: L) (.ref a :: st) h := by rw [zw]; rfl
theorem r_istore_0 : zwp (zcall d) m Q (.istore 0 :: r) (v0 :: L) (zi x :: st) h = zwp (zcall d) m Q r (zi x :: L) st h := by rw [zw]; simp [zF, zstep, zSetL, zSetL2, zPrev, Value.category, zi, zl, zJ]
theorem r_astore_0 : zwp (zcall d) m Q (.astore 0 :: r) (v0 :: L) (.ref a :: st) h = zwp (zcall d) m Q r (.ref a :: L) st h := by rw [zw]; simp [zF, zstep, zSetL, zSetL2, zPrev, Value.category, zi, zl, zJ]
theorem r_iinc_0 : zwp (zcall d) m Q (.iinc 0 n :: r) (zi x :: L) st h = zwp (zcall d) m Q r (zi (x + n) :: L) st h := by rw [zw]; simp [zF, zstep, zSetL, zSetL2, zPrev, Value.category, zi, zl, zJ]
theorem r_dstore_0  {u : UInt64} : zwp (zcall d) m Q (.dstore 0 :: r) (v0 :: v1 :: L) (.double u :: st) h = zwp (zcall d) m Q r (.double u :: zJ :: L) st h := by rw [zw]; simp [zF, zstep, zSetL, zSetL2, zPrev, Value.category, zi, zl, zJ]
theorem r_lstore_0 : zwp (zcall d) m Q (.lstore 0 :: r) (v0 :: v1 :: L) (zl x :: st) h = zwp (zcall d) m Q r (zl x :: zJ :: L) st h := by rw [zw]; simp [zF, zstep, zSetL, zSetL2, zPrev, Value.category, zi, zl, zJ]
theorem r_istore_1i {w : Int} : zwp (zcall d) m Q (.istore 1 :: r) (zi w :: v1 :: L) (zi x :: st) h = zwp (zcall d) m Q r (zi w :: zi x :: L) st h := by rw [zw]; simp [zF, zstep, zSetL, zSetL2, zPrev, Value.category, zi, zl, zJ]
theorem r_astore_1i {w : Int} : zwp (zcall d) m Q (.astore 1 :: r) (zi w :: v1 :: L) (.ref a :: st) h = zwp (zcall d) m Q r (zi w :: .ref a :: L) st h := by rw [zw]; simp [zF, zstep, zSetL, zSetL2, zPrev, Value.category, zi, zl, zJ]
theorem r_iinc_1i {w : Int} : zwp (zcall d) m Q (.iinc 1 n :: r) (zi w :: zi x :: L) st h = zwp (zcall d) m Q r (zi w :: zi (x + n) :: L) st h := by rw [zw]; simp [zF, zstep, zSetL, zSetL2, zPrev, Value.category, zi, zl, zJ]
theorem r_dstore_1i {w : Int} {u : UInt64} : zwp (zcall d) m Q (.dstore 1 :: r) (zi w :: v1 :: v2 :: L) (.double u :: st) h = zwp (zcall d) m Q r (zi w :: .double u :: zJ :: L) st h := by rw [zw]; simp [zF, zstep, zSetL, zSetL2, zPrev, Value.category, zi, zl, zJ]
theorem r_lstore_1i {w : Int} : zwp (zcall d) m Q (.lstore 1 :: r) (zi w :: v1 :: v2 :: L) (zl x :: st) h = zwp (zcall d) m Q r (zi w :: zl x :: zJ :: L) st h := by rw [zw]; simp [zF, zstep, zSetL, zSetL2, zPrev, Value.category, zi, zl, zJ]
theorem r_istore_1r : zwp (zcall d) m Q (.istore 1 :: r) (.ref c :: v1 :: L) (zi x :: st) h = zwp (zcall d) m Q r (.ref c :: zi x :: L) st h := by rw [zw]; simp [zF, zstep, zSetL, zSetL2, zPrev, Value.category, zi, zl, zJ]
theorem r_astore_1r : zwp (zcall d) m Q (.astore 1 :: r) (.ref c :: v1 :: L) (.ref a :: st) h = zwp (zcall d) m Q r (.ref c :: .ref a :: L) st h := by rw [zw]; simp [zF, zstep, zSetL, zSetL2, zPrev, Value.category, zi, zl, zJ]
theorem r_iinc_1r : zwp (zcall d) m Q (.iinc 1 n :: r) (.ref c :: zi x :: L) st h = zwp (zcall d) m Q r (.ref c :: zi (x + n) :: L) st h := by rw [zw]; simp [zF, zstep, zSetL, zSetL2, zPrev, Value.category, zi, zl, zJ]
theorem r_dstore_1r  {u : UInt64} : zwp (zcall d) m Q (.dstore 1 :: r) (.ref c :: v1 :: v2 :: L) (.double u :: st) h = zwp (zcall d) m Q r (.ref c :: .double u :: zJ :: L) st h := by rw [zw]; simp [zF, zstep, zSetL, zSetL2, zPrev, Value.category, zi, zl, zJ]
theorem r_lstore_1r : zwp (zcall d) m Q (.lstore 1 :: r) (.ref c :: v1 :: v2 :: L) (zl x :: st) h = zwp (zcall d) m Q r (.ref c :: zl x :: zJ :: L) st h := by rw [zw]; simp [zF, zstep, zSetL, zSetL2, zPrev, Value.category, zi, zl, zJ]
theorem r_istore_1j : zwp (zcall d) m Q (.istore 1 :: r) (zJ :: v1 :: L) (zi x :: st) h = zwp (zcall d) m Q r (zJ :: zi x :: L) st h := by rw [zw]; simp [zF, zstep, zSetL, zSetL2, zPrev, Value.category, zi, zl, zJ]
theorem r_astore_1j : zwp (zcall d) m Q (.astore 1 :: r) (zJ :: v1 :: L) (.ref a :: st) h = zwp (zcall d) m Q r (zJ :: .ref a :: L) st h := by rw [zw]; simp [zF, zstep, zSetL, zSetL2, zPrev, Value.category, zi, zl, zJ]
theorem r_iinc_1j : zwp (zcall d) m Q (.iinc 1 n :: r) (zJ :: zi x :: L) st h = zwp (zcall d) m Q r (zJ :: zi (x + n) :: L) st h := by rw [zw]; simp [zF, zstep, zSetL, zSetL2, zPrev, Value.category, zi, zl, zJ]
theorem r_dstore_1j  {u : UInt64} : zwp (zcall d) m Q (.dstore 1 :: r) (zJ :: v1 :: v2 :: L) (.double u :: st) h = zwp (zcall d) m Q r (zJ :: .double u :: zJ :: L) st h := by rw [zw]; simp [zF, zstep, zSetL, zSetL2, zPrev, Value.category, zi, zl, zJ]
theorem r_lstore_1j : zwp (zcall d) m Q (.lstore 1 :: r) (zJ :: v1 :: v2 :: L) (zl x :: st) h = zwp (zcall d) m Q r (zJ :: zl x :: zJ :: L) st h := by rw [zw]; simp [zF, zstep, zSetL, zSetL2, zPrev, Value.category, zi, zl, zJ]
theorem r_istore_2i {w : Int} : zwp (zcall d) m Q (.istore 2 :: r) (v0 :: zi w :: v2 :: L) (zi x :: st) h = zwp (zcall d) m Q r (v0 :: zi w :: zi x :: L) st h := by rw [zw]; simp [zF, zstep, zSetL, zSetL2, zPrev, Value.category, zi, zl, zJ]
theorem r_astore_2i {w : Int} : zwp (zcall d) m Q (.astore 2 :: r) (v0 :: zi w :: v2 :: L) (.ref a :: st) h = zwp (zcall d) m Q r (v0 :: zi w :: .ref a :: L) st h := by rw [zw]; simp [zF, zstep, zSetL, zSetL2, zPrev, Value.category, zi, zl, zJ]
theorem r_iinc_2i {w : Int} : zwp (zcall d) m Q (.iinc 2 n :: r) (v0 :: zi w :: zi x :: L) st h = zwp (zcall d) m Q r (v0 :: zi w :: zi (x + n) :: L) st h := by rw [zw]; simp [zF, zstep, zSetL, zSetL2, zPrev, Value.category, zi, zl, zJ]
theorem r_dstore_2i {w : Int} {u : UInt64} : zwp (zcall d) m Q (.dstore 2 :: r) (v0 :: zi w :: v2 :: v3 :: L) (.double u :: st) h = zwp (zcall d) m Q r (v0 :: zi w :: .double u :: zJ :: L) st h := by rw [zw]; simp [zF, zstep, zSetL, zSetL2, zPrev, Value.category, zi, zl, zJ]
theorem r_lstore_2i {w : Int} : zwp (zcall d) m Q (.lstore 2 :: r) (v0 :: zi w :: v2 :: v3 :: L) (zl x :: st) h = zwp (zcall d) m Q r (v0 :: zi w :: zl x :: zJ :: L) st h := by rw [zw]; simp [zF, zstep, zSetL, zSetL2, zPrev, Value.category, zi, zl, zJ]
theorem r_istore_2r : zwp (zcall d) m Q (.istore 2 :: r) (v0 :: .ref c :: v2 :: L) (zi x :: st) h = zwp (zcall d) m Q r (v0 :: .ref c :: zi x :: L) st h := by rw [zw]; simp [zF, zstep, zSetL, zSetL2, zPrev, Value.category, zi, zl, zJ]
theorem r_astore_2r : zwp (zcall d) m Q (.astore 2 :: r) (v0 :: .ref c :: v2 :: L) (.ref a :: st) h = zwp (zcall d) m Q r (v0 :: .ref c :: .ref a :: L) st h := by rw [zw]; simp [zF, zstep, zSetL, zSetL2, zPrev, Value.category, zi, zl, zJ]
theorem r_iinc_2r : zwp (zcall d) m Q (.iinc 2 n :: r) (v0 :: .ref c :: zi x :: L) st h = zwp (zcall d) m Q r (v0 :: .ref c :: zi (x + n) :: L) st h := by rw [zw]; simp [zF, zstep, zSetL, zSetL2, zPrev, Value.category, zi, zl, zJ]
theorem r_dstore_2r  {u : UInt64} : zwp (zcall d) m Q (.dstore 2 :: r) (v0 :: .ref c :: v2 :: v3 :: L) (.double u :: st) h = zwp (zcall d) m Q r (v0 :: .ref c :: .double u :: zJ :: L) st h := by rw [zw]; simp [zF, zstep, zSetL, zSetL2, zPrev, Value.category, zi, zl, zJ]
theorem r_lstore_2r : zwp (zcall d) m Q (.lstore 2 :: r) (v0 :: .ref c :: v2 :: v3 :: L) (zl x :: st) h = zwp (zcall d) m Q r (v0 :: .ref c :: zl x :: zJ :: L) st h := by rw [zw]; simp [zF, zstep, zSetL, zSetL2, zPrev, Value.category, zi, zl, zJ]
theorem r_istore_2j : zwp (zcall d) m Q (.istore 2 :: r) (v0 :: zJ :: v2 :: L) (zi x :: st) h = zwp (zcall d) m Q r (v0 :: zJ :: zi x :: L) st h := by rw [zw]; simp [zF, zstep, zSetL, zSetL2, zPrev, Value.category, zi, zl, zJ]
theorem r_astore_2j : zwp (zcall d) m Q (.astore 2 :: r) (v0 :: zJ :: v2 :: L) (.ref a :: st) h = zwp (zcall d) m Q r (v0 :: zJ :: .ref a :: L) st h := by rw [zw]; simp [zF, zstep, zSetL, zSetL2, zPrev, Value.category, zi, zl, zJ]
theorem r_iinc_2j : zwp (zcall d) m Q (.iinc 2 n :: r) (v0 :: zJ :: zi x :: L) st h = zwp (zcall d) m Q r (v0 :: zJ :: zi (x + n) :: L) st h := by rw [zw]; simp [zF, zstep, zSetL, zSetL2, zPrev, Value.category, zi, zl, zJ]
theorem r_dstore_2j  {u : UInt64} : zwp (zcall d) m Q (.dstore 2 :: r) (v0 :: zJ :: v2 :: v3 :: L) (.double u :: st) h = zwp (zcall d) m Q r (v0 :: zJ :: .double u :: zJ :: L) st h := by rw [zw]; simp [zF, zstep, zSetL, zSetL2, zPrev, Value.category, zi, zl, zJ]
theorem r_lstore_2j : zwp (zcall d) m Q (.lstore 2 :: r) (v0 :: zJ :: v2 :: v3 :: L) (zl x :: st) h = zwp (zcall d) m Q r (v0 :: zJ :: zl x :: zJ :: L) st h := by rw [zw]; simp [zF, zstep, zSetL, zSetL2, zPrev, Value.category, zi, zl, zJ]
theorem r_istore_3i {w : Int} : zwp (zcall d) m Q (.istore 3 :: r) (v0 :: v1 :: zi w :: v3 :: L) (zi x :: st) h = zwp (zcall d) m Q r (v0 :: v1 :: zi w :: zi x :: L) st h := by rw [zw]; simp [zF, zstep, zSetL, zSetL2, zPrev, Value.category, zi, zl, zJ]
theorem r_astore_3i {w : Int} : zwp (zcall d) m Q (.astore 3 :: r) (v0 :: v1 :: zi w :: v3 :: L) (.ref a :: st) h = zwp (zcall d) m Q r (v0 :: v1 :: zi w :: .ref a :: L) st h := by rw [zw]; simp [zF, zstep, zSetL, zSetL2, zPrev, Value.category, zi, zl, zJ]
theorem r_iinc_3i {w : Int} : zwp (zcall d) m Q (.iinc 3 n :: r) (v0 :: v1 :: zi w :: zi x :: L) st h = zwp (zcall d) m Q r (v0 :: v1 :: zi w :: zi (x + n) :: L) st h := by rw [zw]; simp [zF, zstep, zSetL, zSetL2, zPrev, Value.category, zi, zl, zJ]
theorem r_dstore_3i {w : Int} {u : UInt64} : zwp (zcall d) m Q (.dstore 3 :: r) (v0 :: v1 :: zi w :: v3 :: v4 :: L) (.double u :: st) h = zwp (zcall d) m Q r (v0 :: v1 :: zi w :: .double u :: zJ :: L) st h := by rw [zw]; simp [zF, zstep, zSetL, zSetL2, zPrev, Value.category, zi, zl, zJ]
theorem r_lstore_3i {w : Int} : zwp (zcall d) m Q (.lstore 3 :: r) (v0 :: v1 :: zi w :: v3 :: v4 :: L) (zl x :: st) h = zwp (zcall d) m Q r (v0 :: v1 :: zi w :: zl x :: zJ :: L) st h := by rw [zw]; simp [zF, zstep, zSetL, zSetL2, zPrev, Value.category, zi, zl, zJ]
theorem r_istore_3r : zwp (zcall d) m Q (.istore 3 :: r) (v0 :: v1 :: .ref c :: v3 :: L) (zi x :: st) h = zwp (zcall d) m Q r (v0 :: v1 :: .ref c :: zi x :: L) st h := by rw [zw]; simp [zF, zstep, zSetL, zSetL2, zPrev, Value.category, zi, zl, zJ]
theorem r_astore_3r : zwp (zcall d) m Q (.astore 3 :: r) (v0 :: v1 :: .ref c :: v3 :: L) (.ref a :: st) h = zwp (zcall d) m Q r (v0 :: v1 :: .ref c :: .ref a :: L) st h := by rw [zw]; simp [zF, zstep, zSetL, zSetL2, zPrev, Value.category, zi, zl, zJ]
theorem r_iinc_3r : zwp (zcall d) m Q (.iinc 3 n :: r) (v0 :: v1 :: .ref c :: zi x :: L) st h = zwp (zcall d) m Q r (v0 :: v1 :: .ref c :: zi (x + n) :: L) st h := by rw [zw]; simp [zF, zstep, zSetL, zSetL2, zPrev, Value.category, zi, zl, zJ]
theorem r_dstore_3r  {u : UInt64} : zwp (zcall d) m Q (.dstore 3 :: r) (v0 :: v1 :: .ref c :: v3 :: v4 :: L) (.double u :: st) h = zwp (zcall d) m Q r (v0 :: v1 :: .ref c :: .double u :: zJ :: L) st h := by rw [zw]; simp [zF, zstep, zSetL, zSetL2, zPrev, Value.category, zi, zl, zJ]
theorem r_lstore_3r : zwp (zcall d) m Q (.lstore 3 :: r) (v0 :: v1 :: .ref c :: v3 :: v4 :: L) (zl x :: st) h = zwp (zcall d) m Q r (v0 :: v1 :: .ref c :: zl x :: zJ :: L) st h := by rw [zw]; simp [zF, zstep, zSetL, zSetL2, zPrev, Value.category, zi, zl, zJ]
theorem r_istore_3j : zwp (zcall d) m Q (.istore 3 :: r) (v0 :: v1 :: zJ :: v3 :: L) (zi x :: st) h = zwp (zcall d) m Q r (v0 :: v1 :: zJ :: zi x :: L) st h := by rw [zw]; simp [zF, zstep, zSetL, zSetL2, zPrev, Value.category, zi, zl, zJ]
theorem r_astore_3j : zwp (zcall d) m Q (.astore 3 :: r) (v0 :: v1 :: zJ :: v3 :: L) (.ref a :: st) h = zwp (zcall d) m Q r (v0 :: v1 :: zJ :: .ref a :: L) st h := by rw [zw]; simp [zF, zstep, zSetL, zSetL2, zPrev, Value.category, zi, zl, zJ]
theorem r_iinc_3j : zwp (zcall d) m Q (.iinc 3 n :: r) (v0 :: v1 :: zJ :: zi x :: L) st h = zwp (zcall d) m Q r (v0 :: v1 :: zJ :: zi (x + n) :: L) st h := by rw [zw]; simp [zF, zstep, zSetL, zSetL2, zPrev, Value.category, zi, zl, zJ]
theorem r_dstore_3j  {u : UInt64} : zwp (zcall d) m Q (.dstore 3 :: r) (v0 :: v1 :: zJ :: v3 :: v4 :: L) (.double u :: st) h = zwp (zcall d) m Q r (v0 :: v1 :: zJ :: .double u :: zJ :: L) st h := by rw [zw]; simp [zF, zstep, zSetL, zSetL2, zPrev, Value.category, zi, zl, zJ]
theorem r_lstore_3j : zwp (zcall d) m Q (.lstore 3 :: r) (v0 :: v1 :: zJ :: v3 :: v4 :: L) (zl x :: st) h = zwp (zcall d) m Q r (v0 :: v1 :: zJ :: zl x :: zJ :: L) st h := by rw [zw]; simp [zF, zstep, zSetL, zSetL2, zPrev, Value.category, zi, zl, zJ]
theorem r_istore_4i {w : Int} : zwp (zcall d) m Q (.istore 4 :: r) (v0 :: v1 :: v2 :: zi w :: v4 :: L) (zi x :: st) h = zwp (zcall d) m Q r (v0 :: v1 :: v2 :: zi w :: zi x :: L) st h := by rw [zw]; simp [zF, zstep, zSetL, zSetL2, zPrev, Value.category, zi, zl, zJ]
theorem r_astore_4i {w : Int} : zwp (zcall d) m Q (.astore 4 :: r) (v0 :: v1 :: v2 :: zi w :: v4 :: L) (.ref a :: st) h = zwp (zcall d) m Q r (v0 :: v1 :: v2 :: zi w :: .ref a :: L) st h := by rw [zw]; simp [zF, zstep, zSetL, zSetL2, zPrev, Value.category, zi, zl, zJ]
theorem r_iinc_4i {w : Int} : zwp (zcall d) m Q (.iinc 4 n :: r) (v0 :: v1 :: v2 :: zi w :: zi x :: L) st h = zwp (zcall d) m Q r (v0 :: v1 :: v2 :: zi w :: zi (x + n) :: L) st h := by rw [zw]; simp [zF, zstep, zSetL, zSetL2, zPrev, Value.category, zi, zl, zJ]
theorem r_dstore_4i {w : Int} {u : UInt64} : zwp (zcall d) m Q (.dstore 4 :: r) (v0 :: v1 :: v2 :: zi w :: v4 :: v5 :: L) (.double u :: st) h = zwp (zcall d) m Q r (v0 :: v1 :: v2 :: zi w :: .double u :: zJ :: L) st h := by rw [zw]; simp [zF, zstep, zSetL, zSetL2, zPrev, Value.category, zi, zl, zJ]
theorem r_istore_4r : zwp (zcall d) m Q (.istore 4 :: r) (v0 :: v1 :: v2 :: .ref c :: v4 :: L) (zi x :: st) h = zwp (zcall d) m Q r (v0 :: v1 :: v2 :: .ref c :: zi x :: L) st h := by rw [zw]; simp [zF, zstep, zSetL, zSetL2, zPrev, Value.category, zi, zl, zJ]
theorem r_astore_4r : zwp (zcall d) m Q (.astore 4 :: r) (v0 :: v1 :: v2 :: .ref c :: v4 :: L) (.ref a :: st) h = zwp (zcall d) m Q r (v0 :: v1 :: v2 :: .ref c :: .ref a :: L) st h := by rw [zw]; simp [zF, zstep, zSetL, zSetL2, zPrev, Value.category, zi, zl, zJ]
theorem r_iinc_4r : zwp (zcall d) m Q (.iinc 4 n :: r) (v0 :: v1 :: v2 :: .ref c :: zi x :: L) st h = zwp (zcall d) m Q r (v0 :: v1 :: v2 :: .ref c :: zi (x + n) :: L) st h := by rw [zw]; simp [zF, zstep, zSetL, zSetL2, zPrev, Value.category, zi, zl, zJ]
theorem r_dstore_4r  {u : UInt64} : zwp (zcall d) m Q (.dstore 4 :: r) (v0 :: v1 :: v2 :: .ref c :: v4 :: v5 :: L) (.double u :: st) h = zwp (zcall d) m Q r (v0 :: v1 :: v2 :: .ref c :: .double u :: zJ :: L) st h := by rw [zw]; simp [zF, zstep, zSetL, zSetL2, zPrev, Value.category, zi, zl, zJ]
theorem r_istore_4j : zwp (zcall d) m Q (.istore 4 :: r) (v0 :: v1 :: v2 :: zJ :: v4 :: L) (zi x :: st) h = zwp (zcall d) m Q r (v0 :: v1 :: v2 :: zJ :: zi x :: L) st h := by rw [zw]; simp [zF, zstep, zSetL, zSetL2, zPrev, Value.category, zi, zl, zJ]
theorem r_astore_4j : zwp (zcall d) m Q (.astore 4 :: r) (v0 :: v1 :: v2 :: zJ :: v4 :: L) (.ref a :: st) h = zwp (zcall d) m Q r (v0 :: v1 :: v2 :: zJ :: .ref a :: L) st h := by rw [zw]; simp [zF, zstep, zSetL, zSetL2, zPrev, Value.category, zi, zl, zJ]
theorem r_iinc_4j : zwp (zcall d) m Q (.iinc 4 n :: r) (v0 :: v1 :: v2 :: zJ :: zi x :: L) st h = zwp (zcall d) m Q r (v0 :: v1 :: v2 :: zJ :: zi (x + n) :: L) st h := by rw [zw]; simp [zF, zstep, zSetL, zSetL2, zPrev, Value.category, zi, zl, zJ]
theorem r_dstore_4j  {u : UInt64} : zwp (zcall d) m Q (.dstore 4 :: r) (v0 :: v1 :: v2 :: zJ :: v4 :: v5 :: L) (.double u :: st) h = zwp (zcall d) m Q r (v0 :: v1 :: v2 :: zJ :: .double u :: zJ :: L) st h := by rw [zw]; simp [zF, zstep, zSetL, zSetL2, zPrev, Value.category, zi, zl, zJ]
theorem r_istore_5i {w : Int} : zwp (zcall d) m Q (.istore 5 :: r) (v0 :: v1 :: v2 :: v3 :: zi w :: v5 :: L) (zi x :: st) h = zwp (zcall d) m Q r (v0 :: v1 :: v2 :: v3 :: zi w :: zi x :: L) st h := by rw [zw]; simp [zF, zstep, zSetL, zSetL2, zPrev, Value.category, zi, zl, zJ]
theorem r_astore_5i {w : Int} : zwp (zcall d) m Q (.astore 5 :: r) (v0 :: v1 :: v2 :: v3 :: zi w :: v5 :: L) (.ref a :: st) h = zwp (zcall d) m Q r (v0 :: v1 :: v2 :: v3 :: zi w :: .ref a :: L) st h := by rw [zw]; simp [zF, zstep, zSetL, zSetL2, zPrev, Value.category, zi, zl, zJ]
theorem r_iinc_5i {w : Int} : zwp (zcall d) m Q (.iinc 5 n :: r) (v0 :: v1 :: v2 :: v3 :: zi w :: zi x :: L) st h = zwp (zcall d) m Q r (v0 :: v1 :: v2 :: v3 :: zi w :: zi (x + n) :: L) st h := by rw [zw]; simp [zF, zstep, zSetL, zSetL2, zPrev, Value.category, zi, zl, zJ]
theorem r_dstore_5i {w : Int} {u : UInt64} : zwp (zcall d) m Q (.dstore 5 :: r) (v0 :: v1 :: v2 :: v3 :: zi w :: v5 :: v6 :: L) (.double u :: st) h = zwp (zcall d) m Q r (v0 :: v1 :: v2 :: v3 :: zi w :: .double u :: zJ :: L) st h := by rw [zw]; simp [zF, zstep, zSetL, zSetL2, zPrev, Value.category, zi, zl, zJ]
theorem r_istore_5r : zwp (zcall d) m Q (.istore 5 :: r) (v0 :: v1 :: v2 :: v3 :: .ref c :: v5 :: L) (zi x :: st) h = zwp (zcall d) m Q r (v0 :: v1 :: v2 :: v3 :: .ref c :: zi x :: L) st h := by rw [zw]; simp [zF, zstep, zSetL, zSetL2, zPrev, Value.category, zi, zl, zJ]
theorem r_astore_5r : zwp (zcall d) m Q (.astore 5 :: r) (v0 :: v1 :: v2 :: v3 :: .ref c :: v5 :: L) (.ref a :: st) h = zwp (zcall d) m Q r (v0 :: v1 :: v2 :: v3 :: .ref c :: .ref a :: L) st h := by rw [zw]; simp [zF, zstep, zSetL, zSetL2, zPrev, Value.category, zi, zl, zJ]
theorem r_iinc_5r : zwp (zcall d) m Q (.iinc 5 n :: r) (v0 :: v1 :: v2 :: v3 :: .ref c :: zi x :: L) st h = zwp (zcall d) m Q r (v0 :: v1 :: v2 :: v3 :: .ref c :: zi (x + n) :: L) st h := by rw [zw]; simp [zF, zstep, zSetL, zSetL2, zPrev, Value.category, zi, zl, zJ]
theorem r_dstore_5r  {u : UInt64} : zwp (zcall d) m Q (.dstore 5 :: r) (v0 :: v1 :: v2 :: v3 :: .ref c :: v5 :: v6 :: L) (.double u :: st) h = zwp (zcall d) m Q r (v0 :: v1 :: v2 :: v3 :: .ref c :: .double u :: zJ :: L) st h := by rw [zw]; simp [zF, zstep, zSetL, zSetL2, zPrev, Value.category, zi, zl, zJ]
theorem r_istore_5j : zwp (zcall d) m Q (.istore 5 :: r) (v0 :: v1 :: v2 :: v3 :: zJ :: v5 :: L) (zi x :: st) h = zwp (zcall d) m Q r (v0 :: v1 :: v2 :: v3 :: zJ :: zi x :: L) st h := by rw [zw]; simp [zF, zstep, zSetL, zSetL2, zPrev, Value.category, zi, zl, zJ]
theorem r_astore_5j : zwp (zcall d) m Q (.astore 5 :: r) (v0 :: v1 :: v2 :: v3 :: zJ :: v5 :: L) (.ref a :: st) h = zwp (zcall d) m Q r (v0 :: v1 :: v2 :: v3 :: zJ :: .ref a :: L) st h := by rw [zw]; simp [zF, zstep, zSetL, zSetL2, zPrev, Value.category, zi, zl, zJ]
theorem r_iinc_5j : zwp (zcall d) m Q (.iinc 5 n :: r) (v0 :: v1 :: v2 :: v3 :: zJ :: zi x :: L) st h = zwp (zcall d) m Q r (v0 :: v1 :: v2 :: v3 :: zJ :: zi (x + n) :: L) st h := by rw [zw]; simp [zF, zstep, zSetL, zSetL2, zPrev, Value.category, zi, zl, zJ]
theorem r_dstore_5j  {u : UInt64} : zwp (zcall d) m Q (.dstore 5 :: r) (v0 :: v1 :: v2 :: v3 :: zJ :: v5 :: v6 :: L) (.double u :: st) h = zwp (zcall d) m Q r (v0 :: v1 :: v2 :: v3 :: zJ :: .double u :: zJ :: L) st h := by rw [zw]; simp [zF, zstep, zSetL, zSetL2, zPrev, Value.category, zi, zl, zJ]
theorem r_istore_6i {w : Int} : zwp (zcall d) m Q (.istore 6 :: r) (v0 :: v1 :: v2 :: v3 :: v4 :: zi w :: v6 :: L) (zi x :: st) h = zwp (zcall d) m Q r (v0 :: v1 :: v2 :: v3 :: v4 :: zi w :: zi x :: L) st h := by rw [zw]; simp [zF, zstep, zSetL, zSetL2, zPrev, Value.category, zi, zl, zJ]
theorem r_astore_6i {w : Int} : zwp (zcall d) m Q (.astore 6 :: r) (v0 :: v1 :: v2 :: v3 :: v4 :: zi w :: v6 :: L) (.ref a :: st) h = zwp (zcall d) m Q r (v0 :: v1 :: v2 :: v3 :: v4 :: zi w :: .ref a :: L) st h := by rw [zw]; simp [zF, zstep, zSetL, zSetL2, zPrev, Value.category, zi, zl, zJ]
theorem r_iinc_6i {w : Int} : zwp (zcall d) m Q (.iinc 6 n :: r) (v0 :: v1 :: v2 :: v3 :: v4 :: zi w :: zi x :: L) st h = zwp (zcall d) m Q r (v0 :: v1 :: v2 :: v3 :: v4 :: zi w :: zi (x + n) :: L) st h := by rw [zw]; simp [zF, zstep, zSetL, zSetL2, zPrev, Value.category, zi, zl, zJ]
theorem r_dstore_6i {w : Int} {u : UInt64} : zwp (zcall d) m Q (.dstore 6 :: r) (v0 :: v1 :: v2 :: v3 :: v4 :: zi w :: v6 :: v7 :: L) (.double u :: st) h = zwp (zcall d) m Q r (v0 :: v1 :: v2 :: v3 :: v4 :: zi w :: .double u :: zJ :: L) st h := by rw [zw]; simp [zF, zstep, zSetL, zSetL2, zPrev, Value.category, zi, zl, zJ]
theorem r_istore_6r : zwp (zcall d) m Q (.istore 6 :: r) (v0 :: v1 :: v2 :: v3 :: v4 :: .ref c :: v6 :: L) (zi x :: st) h = zwp (zcall d) m Q r (v0 :: v1 :: v2 :: v3 :: v4 :: .ref c :: zi x :: L) st h := by rw [zw]; simp [zF, zstep, zSetL, zSetL2, zPrev, Value.category, zi, zl, zJ]
theorem r_astore_6r : zwp (zcall d) m Q (.astore 6 :: r) (v0 :: v1 :: v2 :: v3 :: v4 :: .ref c :: v6 :: L) (.ref a :: st) h = zwp (zcall d) m Q r (v0 :: v1 :: v2 :: v3 :: v4 :: .ref c :: .ref a :: L) st h := by rw [zw]; simp [zF, zstep, zSetL, zSetL2, zPrev, Value.category, zi, zl, zJ]
theorem r_iinc_6r : zwp (zcall d) m Q (.iinc 6 n :: r) (v0 :: v1 :: v2 :: v3 :: v4 :: .ref c :: zi x :: L) st h = zwp (zcall d) m Q r (v0 :: v1 :: v2 :: v3 :: v4 :: .ref c :: zi (x + n) :: L) st h := by rw [zw]; simp [zF, zstep, zSetL, zSetL2, zPrev, Value.category, zi, zl, zJ]
theorem r_dstore_6r  {u : UInt64} : zwp (zcall d) m Q (.dstore 6 :: r) (v0 :: v1 :: v2 :: v3 :: v4 :: .ref c :: v6 :: v7 :: L) (.double u :: st) h = zwp (zcall d) m Q r (v0 :: v1 :: v2 :: v3 :: v4 :: .ref c :: .double u :: zJ :: L) st h := by rw [zw]; simp [zF, zstep, zSetL, zSetL2, zPrev, Value.category, zi, zl, zJ]
theorem r_istore_6j : zwp (zcall d) m Q (.istore 6 :: r) (v0 :: v1 :: v2 :: v3 :: v4 :: zJ :: v6 :: L) (zi x :: st) h = zwp (zcall d) m Q r (v0 :: v1 :: v2 :: v3 :: v4 :: zJ :: zi x :: L) st h := by rw [zw]; simp [zF, zstep, zSetL, zSetL2, zPrev, Value.category, zi, zl, zJ]
theorem r_astore_6j : zwp (zcall d) m Q (.astore 6 :: r) (v0 :: v1 :: v2 :: v3 :: v4 :: zJ :: v6 :: L) (.ref a :: st) h = zwp (zcall d) m Q r (v0 :: v1 :: v2 :: v3 :: v4 :: zJ :: .ref a :: L) st h := by rw [zw]; simp [zF, zstep, zSetL, zSetL2, zPrev, Value.category, zi, zl, zJ]
theorem r_iinc_6j : zwp (zcall d) m Q (.iinc 6 n :: r) (v0 :: v1 :: v2 :: v3 :: v4 :: zJ :: zi x :: L) st h = zwp (zcall d) m Q r (v0 :: v1 :: v2 :: v3 :: v4 :: zJ :: zi (x + n) :: L) st h := by rw [zw]; simp [zF, zstep, zSetL, zSetL2, zPrev, Value.category, zi, zl, zJ]
theorem r_dstore_6j  {u : UInt64} : zwp (zcall d) m Q (.dstore 6 :: r) (v0 :: v1 :: v2 :: v3 :: v4 :: zJ :: v6 :: v7 :: L) (.double u :: st) h = zwp (zcall d) m Q r (v0 :: v1 :: v2 :: v3 :: v4 :: zJ :: .double u :: zJ :: L) st h := by rw [zw]; simp [zF, zstep, zSetL, zSetL2, zPrev, Value.category, zi, zl, zJ]
theorem r_istore_7i {w : Int} : zwp (zcall d) m Q (.istore 7 :: r) (v0 :: v1 :: v2 :: v3 :: v4 :: v5 :: zi w :: v7 :: L) (zi x :: st) h = zwp (zcall d) m Q r (v0 :: v1 :: v2 :: v3 :: v4 :: v5 :: zi w :: zi x :: L) st h := by rw [zw]; simp [zF, zstep, zSetL, zSetL2, zPrev, Value.category, zi, zl, zJ]
theorem r_astore_7i {w : Int} : zwp (zcall d) m Q (.astore 7 :: r) (v0 :: v1 :: v2 :: v3 :: v4 :: v5 :: zi w :: v7 :: L) (.ref a :: st) h = zwp (zcall d) m Q r (v0 :: v1 :: v2 :: v3 :: v4 :: v5 :: zi w :: .ref a :: L) st h := by rw [zw]; simp [zF, zstep, zSetL, zSetL2, zPrev, Value.category, zi, zl, zJ]
theorem r_iinc_7i {w : Int} : zwp (zcall d) m Q (.iinc 7 n :: r) (v0 :: v1 :: v2 :: v3 :: v4 :: v5 :: zi w :: zi x :: L) st h = zwp (zcall d) m Q r (v0 :: v1 :: v2 :: v3 :: v4 :: v5 :: zi w :: zi (x + n) :: L) st h := by rw [zw]; simp [zF, zstep, zSetL, zSetL2, zPrev, Value.category, zi, zl, zJ]
theorem r_dstore_7i {w : Int} {u : UInt64} : zwp (zcall d) m Q (.dstore 7 :: r) (v0 :: v1 :: v2 :: v3 :: v4 :: v5 :: zi w :: v7 :: v8 :: L) (.double u :: st) h = zwp (zcall d) m Q r (v0 :: v1 :: v2 :: v3 :: v4 :: v5 :: zi w :: .double u :: zJ :: L) st h := by rw [zw]; simp [zF, zstep, zSetL, zSetL2, zPrev, Value.category, zi, zl, zJ]
theorem r_istore_7r : zwp (zcall d) m Q (.istore 7 :: r) (v0 :: v1 :: v2 :: v3 :: v4 :: v5 :: .ref c :: v7 :: L) (zi x :: st) h = zwp (zcall d) m Q r (v0 :: v1 :: v2 :: v3 :: v4 :: v5 :: .ref c :: zi x :: L) st h := by rw [zw]; simp [zF, zstep, zSetL, zSetL2, zPrev, Value.category, zi, zl, zJ]
theorem r_astore_7r : zwp (zcall d) m Q (.astore 7 :: r) (v0 :: v1 :: v2 :: v3 :: v4 :: v5 :: .ref c :: v7 :: L) (.ref a :: st) h = zwp (zcall d) m Q r (v0 :: v1 :: v2 :: v3 :: v4 :: v5 :: .ref c :: .ref a :: L) st h := by rw [zw]; simp [zF, zstep, zSetL, zSetL2, zPrev, Value.category, zi, zl, zJ]
theorem r_iinc_7r : zwp (zcall d) m Q (.iinc 7 n :: r) (v0 :: v1 :: v2 :: v3 :: v4 :: v5 :: .ref c :: zi x :: L) st h = zwp (zcall d) m Q r (v0 :: v1 :: v2 :: v3 :: v4 :: v5 :: .ref c :: zi (x + n) :: L) st h := by rw [zw]; simp [zF, zstep, zSetL, zSetL2, zPrev, Value.category, zi, zl, zJ]
theorem r_dstore_7r  {u : UInt64} : zwp (zcall d) m Q (.dstore 7 :: r) (v0 :: v1 :: v2 :: v3 :: v4 :: v5 :: .ref c :: v7 :: v8 :: L) (.double u :: st) h = zwp (zcall d) m Q r (v0 :: v1 :: v2 :: v3 :: v4 :: v5 :: .ref c :: .double u :: zJ :: L) st h := by rw [zw]; simp [zF, zstep, zSetL, zSetL2, zPrev, Value.category, zi, zl, zJ]
theorem r_istore_7j : zwp (zcall d) m Q (.istore 7 :: r) (v0 :: v1 :: v2 :: v3 :: v4 :: v5 :: zJ :: v7 :: L) (zi x :: st) h = zwp (zcall d) m Q r (v0 :: v1 :: v2 :: v3 :: v4 :: v5 :: zJ :: zi x :: L) st h := by rw [zw]; simp [zF, zstep, zSetL, zSetL2, zPrev, Value.category, zi, zl, zJ]
theorem r_astore_7j : zwp (zcall d) m Q (.astore 7 :: r) (v0 :: v1 :: v2 :: v3 :: v4 :: v5 :: zJ :: v7 :: L) (.ref a :: st) h = zwp (zcall d) m Q r (v0 :: v1 :: v2 :: v3 :: v4 :: v5 :: zJ :: .ref a :: L) st h := by rw [zw]; simp [zF, zstep, zSetL, zSetL2, zPrev, Value.category, zi, zl, zJ]
theorem r_iinc_7j : zwp (zcall d) m Q (.iinc 7 n :: r) (v0 :: v1 :: v2 :: v3 :: v4 :: v5 :: zJ :: zi x :: L) st h = zwp (zcall d) m Q r (v0 :: v1 :: v2 :: v3 :: v4 :: v5 :: zJ :: zi (x + n) :: L) st h := by rw [zw]; simp [zF, zstep, zSetL, zSetL2, zPrev, Value.category, zi, zl, zJ]
theorem r_dstore_7j  {u : UInt64} : zwp (zcall d) m Q (.dstore 7 :: r) (v0 :: v1 :: v2 :: v3 :: v4 :: v5 :: zJ :: v7 :: v8 :: L) (.double u :: st) h = zwp (zcall d) m Q r (v0 :: v1 :: v2 :: v3 :: v4 :: v5 :: zJ :: .double u :: zJ :: L) st h := by rw [zw]; simp [zF, zstep, zSetL, zSetL2, zPrev, Value.category, zi, zl, zJ]
theorem r_istore_8i {w : Int} : zwp (zcall d) m Q (.istore 8 :: r) (v0 :: v1 :: v2 :: v3 :: v4 :: v5 :: v6 :: zi w :: v8 :: L) (zi x :: st) h = zwp (zcall d) m Q r (v0 :: v1 :: v2 :: v3 :: v4 :: v5 :: v6 :: zi w :: zi x :: L) st h := by rw [zw]; simp [zF, zstep, zSetL, zSetL2, zPrev, Value.category, zi, zl, zJ]
theorem r_astore_8i {w : Int} : zwp (zcall d) m Q (.astore 8 :: r) (v0 :: v1 :: v2 :: v3 :: v4 :: v5 :: v6 :: zi w :: v8 :: L) (.ref a :: st) h = zwp (zcall d) m Q r (v0 :: v1 :: v2 :: v3 :: v4 :: v5 :: v6 :: zi w :: .ref a :: L) st h := by rw [zw]; simp [zF, zstep, zSetL, zSetL2, zPrev, Value.category, zi, zl, zJ]
theorem r_iinc_8i {w : Int} : zwp (zcall d) m Q (.iinc 8 n :: r) (v0 :: v1 :: v2 :: v3 :: v4 :: v5 :: v6 :: zi w :: zi x :: L) st h = zwp (zcall d) m Q r (v0 :: v1 :: v2 :: v3 :: v4 :: v5 :: v6 :: zi w :: zi (x + n) :: L) st h := by rw [zw]; simp [zF, zstep, zSetL, zSetL2, zPrev, Value.category, zi, zl, zJ]
theorem r_dstore_8i {w : Int} {u : UInt64} : zwp (zcall d) m Q (.dstore 8 :: r) (v0 :: v1 :: v2 :: v3 :: v4 :: v5 :: v6 :: zi w :: v8 :: v9 :: L) (.double u :: st) h = zwp (zcall d) m Q r (v0 :: v1 :: v2 :: v3 :: v4 :: v5 :: v6 :: zi w :: .double u :: zJ :: L) st h := by rw [zw]; simp [zF, zstep, zSetL, zSetL2, zPrev, Value.category, zi, zl, zJ]
theorem r_istore_8r : zwp (zcall d) m Q (.istore 8 :: r) (v0 :: v1 :: v2 :: v3 :: v4 :: v5 :: v6 :: .ref c :: v8 :: L) (zi x :: st) h = zwp (zcall d) m Q r (v0 :: v1 :: v2 :: v3 :: v4 :: v5 :: v6 :: .ref c :: zi x :: L) st h := by rw [zw]; simp [zF, zstep, zSetL, zSetL2, zPrev, Value.category, zi, zl, zJ]
theorem r_astore_8r : zwp (zcall d) m Q (.astore 8 :: r) (v0 :: v1 :: v2 :: v3 :: v4 :: v5 :: v6 :: .ref c :: v8 :: L) (.ref a :: st) h = zwp (zcall d) m Q r (v0 :: v1 :: v2 :: v3 :: v4 :: v5 :: v6 :: .ref c :: .ref a :: L) st h := by rw [zw]; simp [zF, zstep, zSetL, zSetL2, zPrev, Value.category, zi, zl, zJ]
theorem r_iinc_8r : zwp (zcall d) m Q (.iinc 8 n :: r) (v0 :: v1 :: v2 :: v3 :: v4 :: v5 :: v6 :: .ref c :: zi x :: L) st h = zwp (zcall d) m Q r (v0 :: v1 :: v2 :: v3 :: v4 :: v5 :: v6 :: .ref c :: zi (x + n) :: L) st h := by rw [zw]; simp [zF, zstep, zSetL, zSetL2, zPrev, Value.category, zi, zl, zJ]
theorem r_dstore_8r  {u : UInt64} : zwp (zcall d) m Q (.dstore 8 :: r) (v0 :: v1 :: v2 :: v3 :: v4 :: v5 :: v6 :: .ref c :: v8 :: v9 :: L) (.double u :: st) h = zwp (zcall d) m Q r (v0 :: v1 :: v2 :: v3 :: v4 :: v5 :: v6 :: .ref c :: .double u :: zJ :: L) st h := by rw [zw]; simp [zF, zstep, zSetL, zSetL2, zPrev, Value.category, zi, zl, zJ]
theorem r_istore_8j : zwp (zcall d) m Q (.istore 8 :: r) (v0 :: v1 :: v2 :: v3 :: v4 :: v5 :: v6 :: zJ :: v8 :: L) (zi x :: st) h = zwp (zcall d) m Q r (v0 :: v1 :: v2 :: v3 :: v4 :: v5 :: v6 :: zJ :: zi x :: L) st h := by rw [zw]; simp [zF, zstep, zSetL, zSetL2, zPrev, Value.category, zi, zl, zJ]
theorem r_astore_8j : zwp (zcall d) m Q (.astore 8 :: r) (v0 :: v1 :: v2 :: v3 :: v4 :: v5 :: v6 :: zJ :: v8 :: L) (.ref a :: st) h = zwp (zcall d) m Q r (v0 :: v1 :: v2 :: v3 :: v4 :: v5 :: v6 :: zJ :: .ref a :: L) st h := by rw [zw]; simp [zF, zstep, zSetL, zSetL2, zPrev, Value.category, zi, zl, zJ]
theorem r_iinc_8j : zwp (zcall d) m Q (.iinc 8 n :: r) (v0 :: v1 :: v2 :: v3 :: v4 :: v5 :: v6 :: zJ :: zi x :: L) st h = zwp (zcall d) m Q r (v0 :: v1 :: v2 :: v3 :: v4 :: v5 :: v6 :: zJ :: zi (x + n) :: L) st h := by rw [zw]; simp [zF, zstep, zSetL, zSetL2, zPrev, Value.category, zi, zl, zJ]
theorem r_dstore_8j  {u : UInt64} : zwp (zcall d) m Q (.dstore 8 :: r) (v0 :: v1 :: v2 :: v3 :: v4 :: v5 :: v6 :: zJ :: v8 :: v9 :: L) (.double u :: st) h = zwp (zcall d) m Q r (v0 :: v1 :: v2 :: v3 :: v4 :: v5 :: v6 :: zJ :: .double u :: zJ :: L) st h := by rw [zw]; simp [zF, zstep, zSetL, zSetL2, zPrev, Value.category, zi, zl, zJ]
theorem r_istore_9i {w : Int} : zwp (zcall d) m Q (.istore 9 :: r) (v0 :: v1 :: v2 :: v3 :: v4 :: v5 :: v6 :: v7 :: zi w :: v9 :: L) (zi x :: st) h = zwp (zcall d) m Q r (v0 :: v1 :: v2 :: v3 :: v4 :: v5 :: v6 :: v7 :: zi w :: zi x :: L) st h := by rw [zw]; simp [zF, zstep, zSetL, zSetL2, zPrev, Value.category, zi, zl, zJ]
theorem r_astore_9i {w : Int} : zwp (zcall d) m Q (.astore 9 :: r) (v0 :: v1 :: v2 :: v3 :: v4 :: v5 :: v6 :: v7 :: zi w :: v9 :: L) (.ref a :: st) h = zwp (zcall d) m Q r (v0 :: v1 :: v2 :: v3 :: v4 :: v5 :: v6 :: v7 :: zi w :: .ref a :: L) st h := by rw [zw]; simp [zF, zstep, zSetL, zSetL2, zPrev, Value.category, zi, zl, zJ]
theorem r_iinc_9i {w : Int} : zwp (zcall d) m Q (.iinc 9 n :: r) (v0 :: v1 :: v2 :: v3 :: v4 :: v5 :: v6 :: v7 :: zi w :: zi x :: L) st h = zwp (zcall d) m Q r (v0 :: v1 :: v2 :: v3 :: v4 :: v5 :: v6 :: v7 :: zi w :: zi (x + n) :: L) st h := by rw [zw]; simp [zF, zstep, zSetL, zSetL2, zPrev, Value.category, zi, zl, zJ]
theorem r_dstore_9i {w : Int} {u : UInt64} : zwp (zcall d) m Q (.dstore 9 :: r) (v0 :: v1 :: v2 :: v3 :: v4 :: v5 :: v6 :: v7 :: zi w :: v9 :: v10 :: L) (.double u :: st) h = zwp (zcall d) m Q r (v0 :: v1 :: v2 :: v3 :: v4 :: v5 :: v6 :: v7 :: zi w :: .double u :: zJ :: L) st h := by rw [zw]; simp [zF, zstep, zSetL, zSetL2, zPrev, Value.category, zi, zl, zJ]
theorem r_istore_9r : zwp (zcall d) m Q (.istore 9 :: r) (v0 :: v1 :: v2 :: v3 :: v4 :: v5 :: v6 :: v7 :: .ref c :: v9 :: L) (zi x :: st) h = zwp (zcall d) m Q r (v0 :: v1 :: v2 :: v3 :: v4 :: v5 :: v6 :: v7 :: .ref c :: zi x :: L) st h := by rw [zw]; simp [zF, zstep, zSetL, zSetL2, zPrev, Value.category, zi, zl, zJ]
theorem r_astore_9r : zwp (zcall d) m Q (.astore 9 :: r) (v0 :: v1 :: v2 :: v3 :: v4 :: v5 :: v6 :: v7 :: .ref c :: v9 :: L) (.ref a :: st) h = zwp (zcall d) m Q r (v0 :: v1 :: v2 :: v3 :: v4 :: v5 :: v6 :: v7 :: .ref c :: .ref a :: L) st h := by rw [zw]; simp [zF, zstep, zSetL, zSetL2, zPrev, Value.category, zi, zl, zJ]
theorem r_iinc_9r : zwp (zcall d) m Q (.iinc 9 n :: r) (v0 :: v1 :: v2 :: v3 :: v4 :: v5 :: v6 :: v7 :: .ref c :: zi x :: L) st h = zwp (zcall d) m Q r (v0 :: v1 :: v2 :: v3 :: v4 :: v5 :: v6 :: v7 :: .ref c :: zi (x + n) :: L) st h := by rw [zw]; simp [zF, zstep, zSetL, zSetL2, zPrev, Value.category, zi, zl, zJ]
theorem r_dstore_9r  {u : UInt64} : zwp (zcall d) m Q (.dstore 9 :: r) (v0 :: v1 :: v2 :: v3 :: v4 :: v5 :: v6 :: v7 :: .ref c :: v9 :: v10 :: L) (.double u :: st) h = zwp (zcall d) m Q r (v0 :: v1 :: v2 :: v3 :: v4 :: v5 :: v6 :: v7 :: .ref c :: .double u :: zJ :: L) st h := by rw [zw]; simp [zF, zstep, zSetL, zSetL2, zPrev, Value.category, zi, zl, zJ]
theorem r_istore_9j : zwp (zcall d) m Q (.istore 9 :: r) (v0 :: v1 :: v2 :: v3 :: v4 :: v5 :: v6 :: v7 :: zJ :: v9 :: L) (zi x :: st) h = zwp (zcall d) m Q r (v0 :: v1 :: v2 :: v3 :: v4 :: v5 :: v6 :: v7 :: zJ :: zi x :: L) st h := by rw [zw]; simp [zF, zstep, zSetL, zSetL2, zPrev, Value.category, zi, zl, zJ]
theorem r_astore_9j : zwp (zcall d) m Q (.astore 9 :: r) (v0 :: v1 :: v2 :: v3 :: v4 :: v5 :: v6 :: v7 :: zJ :: v9 :: L) (.ref a :: st) h = zwp (zcall d) m Q r (v0 :: v1 :: v2 :: v3 :: v4 :: v5 :: v6 :: v7 :: zJ :: .ref a :: L) st h := by rw [zw]; simp [zF, zstep, zSetL, zSetL2, zPrev, Value.category, zi, zl, zJ]
theorem r_iinc_9j : zwp (zcall d) m Q (.iinc 9 n :: r) (v0 :: v1 :: v2 :: v3 :: v4 :: v5 :: v6 :: v7 :: zJ :: zi x :: L) st h = zwp (zcall d) m Q r (v0 :: v1 :: v2 :: v3 :: v4 :: v5 :: v6 :: v7 :: zJ :: zi (x + n) :: L) st h := by rw [zw]; simp [zF, zstep, zSetL, zSetL2, zPrev, Value.category, zi, zl, zJ]
theorem r_dstore_9j  {u : UInt64} : zwp (zcall d) m Q (.dstore 9 :: r) (v0 :: v1 :: v2 :: v3 :: v4 :: v5 :: v6 :: v7 :: zJ :: v9 :: v10 :: L) (.double u :: st) h = zwp (zcall d) m Q r (v0 :: v1 :: v2 :: v3 :: v4 :: v5 :: v6 :: v7 :: zJ :: .double u :: zJ :: L) st h := by rw [zw]; simp [zF, zstep, zSetL, zSetL2, zPrev, Value.category, zi, zl, zJ]
theorem r_istore_10i {w : Int} : zwp (zcall d) m Q (.istore 10 :: r) (v0 :: v1 :: v2 :: v3 :: v4 :: v5 :: v6 :: v7 :: v8 :: zi w :: v10 :: L) (zi x :: st) h = zwp (zcall d) m Q r (v0 :: v1 :: v2 :: v3 :: v4 :: v5 :: v6 :: v7 :: v8 :: zi w :: zi x :: L) st h := by rw [zw]; simp [zF, zstep, zSetL, zSetL2, zPrev, Value.category, zi, zl, zJ]
theorem r_astore_10i {w : Int} : zwp (zcall d) m Q (.astore 10 :: r) (v0 :: v1 :: v2 :: v3 :: v4 :: v5 :: v6 :: v7 :: v8 :: zi w :: v10 :: L) (.ref a :: st) h = zwp (zcall d) m Q r (v0 :: v1 :: v2 :: v3 :: v4 :: v5 :: v6 :: v7 :: v8 :: zi w :: .ref a :: L) st h := by rw [zw]; simp [zF, zstep, zSetL, zSetL2, zPrev, Value.category, zi, zl, zJ]
theorem r_iinc_10i {w : Int} : zwp (zcall d) m Q (.iinc 10 n :: r) (v0 :: v1 :: v2 :: v3 :: v4 :: v5 :: v6 :: v7 :: v8 :: zi w :: zi x :: L) st h = zwp (zcall d) m Q r (v0 :: v1 :: v2 :: v3 :: v4 :: v5 :: v6 :: v7 :: v8 :: zi w :: zi (x + n) :: L) st h := by rw [zw]; simp [zF, zstep, zSetL, zSetL2, zPrev, Value.category, zi, zl, zJ]
theorem r_dstore_10i {w : Int} {u : UInt64} : zwp (zcall d) m Q (.dstore 10 :: r) (v0 :: v1 :: v2 :: v3 :: v4 :: v5 :: v6 :: v7 :: v8 :: zi w :: v10 :: v11 :: L) (.double u :: st) h = zwp (zcall d) m Q r (v0 :: v1 :: v2 :: v3 :: v4 :: v5 :: v6 :: v7 :: v8 :: zi w :: .double u :: zJ :: L) st h := by rw [zw]; simp [zF, zstep, zSetL, zSetL2, zPrev, Value.category, zi, zl, zJ]
theorem r_istore_10r : zwp (zcall d) m Q (.istore 10 :: r) (v0 :: v1 :: v2 :: v3 :: v4 :: v5 :: v6 :: v7 :: v8 :: .ref c :: v10 :: L) (zi x :: st) h = zwp (zcall d) m Q r (v0 :: v1 :: v2 :: v3 :: v4 :: v5 :: v6 :: v7 :: v8 :: .ref c :: zi x :: L) st h := by rw [zw]; simp [zF, zstep, zSetL, zSetL2, zPrev, Value.category, zi, zl, zJ]
theorem r_astore_10r : zwp (zcall d) m Q (.astore 10 :: r) (v0 :: v1 :: v2 :: v3 :: v4 :: v5 :: v6 :: v7 :: v8 :: .ref c :: v10 :: L) (.ref a :: st) h = zwp (zcall d) m Q r (v0 :: v1 :: v2 :: v3 :: v4 :: v5 :: v6 :: v7 :: v8 :: .ref c :: .ref a :: L) st h := by rw [zw]; simp [zF, zstep, zSetL, zSetL2, zPrev, Value.category, zi, zl, zJ]
theorem r_iinc_10r : zwp (zcall d) m Q (.iinc 10 n :: r) (v0 :: v1 :: v2 :: v3 :: v4 :: v5 :: v6 :: v7 :: v8 :: .ref c :: zi x :: L) st h = zwp (zcall d) m Q r (v0 :: v1 :: v2 :: v3 :: v4 :: v5 :: v6 :: v7 :: v8 :: .ref c :: zi (x + n) :: L) st h := by rw [zw]; simp [zF, zstep, zSetL, zSetL2, zPrev, Value.category, zi, zl, zJ]
theorem r_dstore_10r  {u : UInt64} : zwp (zcall d) m Q (.dstore 10 :: r) (v0 :: v1 :: v2 :: v3 :: v4 :: v5 :: v6 :: v7 :: v8 :: .ref c :: v10 :: v11 :: L) (.double u :: st) h = zwp (zcall d) m Q r (v0 :: v1 :: v2 :: v3 :: v4 :: v5 :: v6 :: v7 :: v8 :: .ref c :: .double u :: zJ :: L) st h := by rw [zw]; simp [zF, zstep, zSetL, zSetL2, zPrev, Value.category, zi, zl, zJ]
theorem r_istore_10j : zwp (zcall d) m Q (.istore 10 :: r) (v0 :: v1 :: v2 :: v3 :: v4 :: v5 :: v6 :: v7 :: v8 :: zJ :: v10 :: L) (zi x :: st) h = zwp (zcall d) m Q r (v0 :: v1 :: v2 :: v3 :: v4 :: v5 :: v6 :: v7 :: v8 :: zJ :: zi x :: L) st h := by rw [zw]; simp [zF, zstep, zSetL, zSetL2, zPrev, Value.category, zi, zl, zJ]
theorem r_astore_10j : zwp (zcall d) m Q (.astore 10 :: r) (v0 :: v1 :: v2 :: v3 :: v4 :: v5 :: v6 :: v7 :: v8 :: zJ :: v10 :: L) (.ref a :: st) h = zwp (zcall d) m Q r (v0 :: v1 :: v2 :: v3 :: v4 :: v5 :: v6 :: v7 :: v8 :: zJ :: .ref a :: L) st h := by rw [zw]; simp [zF, zstep, zSetL, zSetL2, zPrev, Value.category, zi, zl, zJ]
theorem r_iinc_10j : zwp (zcall d) m Q (.iinc 10 n :: r) (v0 :: v1 :: v2 :: v3 :: v4 :: v5 :: v6 :: v7 :: v8 :: zJ :: zi x :: L) st h = zwp (zcall d) m Q r (v0 :: v1 :: v2 :: v3 :: v4 :: v5 :: v6 :: v7 :: v8 :: zJ :: zi (x + n) :: L) st h := by rw [zw]; simp [zF, zstep, zSetL, zSetL2, zPrev, Value.category, zi, zl, zJ]
theorem r_dstore_10j  {u : UInt64} : zwp (zcall d) m Q (.dstore 10 :: r) (v0 :: v1 :: v2 :: v3 :: v4 :: v5 :: v6 :: v7 :: v8 :: zJ :: v10 :: v11 :: L) (.double u :: st) h = zwp (zcall d) m Q r (v0 :: v1 :: v2 :: v3 :: v4 :: v5 :: v6 :: v7 :: v8 :: zJ :: .double u :: zJ :: L) st h := by rw [zw]; simp [zF, zstep, zSetL, zSetL2, zPrev, Value.category, zi, zl, zJ]
theorem r_istore_11i {w : Int} : zwp (zcall d) m Q (.istore 11 :: r) (v0 :: v1 :: v2 :: v3 :: v4 :: v5 :: v6 :: v7 :: v8 :: v9 :: zi w :: v11 :: L) (zi x :: st) h = zwp (zcall d) m Q r (v0 :: v1 :: v2 :: v3 :: v4 :: v5 :: v6 :: v7 :: v8 :: v9 :: zi w :: zi x :: L) st h := by rw [zw]; simp [zF, zstep, zSetL, zSetL2, zPrev, Value.category, zi, zl, zJ]
theorem r_astore_11i {w : Int} : zwp (zcall d) m Q (.astore 11 :: r) (v0 :: v1 :: v2 :: v3 :: v4 :: v5 :: v6 :: v7 :: v8 :: v9 :: zi w :: v11 :: L) (.ref a :: st) h = zwp (zcall d) m Q r (v0 :: v1 :: v2 :: v3 :: v4 :: v5 :: v6 :: v7 :: v8 :: v9 :: zi w :: .ref a :: L) st h := by rw [zw]; simp [zF, zstep, zSetL, zSetL2, zPrev, Value.category, zi, zl, zJ]
theorem r_iinc_11i {w : Int} : zwp (zcall d) m Q (.iinc 11 n :: r) (v0 :: v1 :: v2 :: v3 :: v4 :: v5 :: v6 :: v7 :: v8 :: v9 :: zi w :: zi x :: L) st h = zwp (zcall d) m Q r (v0 :: v1 :: v2 :: v3 :: v4 :: v5 :: v6 :: v7 :: v8 :: v9 :: zi w :: zi (x + n) :: L) st h := by rw [zw]; simp [zF, zstep, zSetL, zSetL2, zPrev, Value.category, zi, zl, zJ]
theorem r_istore_11r : zwp (zcall d) m Q (.istore 11 :: r) (v0 :: v1 :: v2 :: v3 :: v4 :: v5 :: v6 :: v7 :: v8 :: v9 :: .ref c :: v11 :: L) (zi x :: st) h = zwp (zcall d) m Q r (v0 :: v1 :: v2 :: v3 :: v4 :: v5 :: v6 :: v7 :: v8 :: v9 :: .ref c :: zi x :: L) st h := by rw [zw]; simp [zF, zstep, zSetL, zSetL2, zPrev, Value.category, zi, zl, zJ]
theorem r_astore_11r : zwp (zcall d) m Q (.astore 11 :: r) (v0 :: v1 :: v2 :: v3 :: v4 :: v5 :: v6 :: v7 :: v8 :: v9 :: .ref c :: v11 :: L) (.ref a :: st) h = zwp (zcall d) m Q r (v0 :: v1 :: v2 :: v3 :: v4 :: v5 :: v6 :: v7 :: v8 :: v9 :: .ref c :: .ref a :: L) st h := by rw [zw]; simp [zF, zstep, zSetL, zSetL2, zPrev, Value.category, zi, zl, zJ]
theorem r_iinc_11r : zwp (zcall d) m Q (.iinc 11 n :: r) (v0 :: v1 :: v2 :: v3 :: v4 :: v5 :: v6 :: v7 :: v8 :: v9 :: .ref c :: zi x :: L) st h = zwp (zcall d) m Q r (v0 :: v1 :: v2 :: v3 :: v4 :: v5 :: v6 :: v7 :: v8 :: v9 :: .ref c :: zi (x + n) :: L) st h := by rw [zw]; simp [zF, zstep, zSetL, zSetL2, zPrev, Value.category, zi, zl, zJ]
theorem r_istore_11j : zwp (zcall d) m Q (.istore 11 :: r) (v0 :: v1 :: v2 :: v3 :: v4 :: v5 :: v6 :: v7 :: v8 :: v9 :: zJ :: v11 :: L) (zi x :: st) h = zwp (zcall d) m Q r (v0 :: v1 :: v2 :: v3 :: v4 :: v5 :: v6 :: v7 :: v8 :: v9 :: zJ :: zi x :: L) st h := by rw [zw]; simp [zF, zstep, zSetL, zSetL2, zPrev, Value.category, zi, zl, zJ]
theorem r_astore_11j : zwp (zcall d) m Q (.astore 11 :: r) (v0 :: v1 :: v2 :: v3 :: v4 :: v5 :: v6 :: v7 :: v8 :: v9 :: zJ :: v11 :: L) (.ref a :: st) h = zwp (zcall d) m Q r (v0 :: v1 :: v2 :: v3 :: v4 :: v5 :: v6 :: v7 :: v8 :: v9 :: zJ :: .ref a :: L) st h := by rw [zw]; simp [zF, zstep, zSetL, zSetL2, zPrev, Value.category, zi, zl, zJ]
theorem r_iinc_11j : zwp (zcall d) m Q (.iinc 11 n :: r) (v0 :: v1 :: v2 :: v3 :: v4 :: v5 :: v6 :: v7 :: v8 :: v9 :: zJ :: zi x :: L) st h = zwp (zcall d) m Q r (v0 :: v1 :: v2 :: v3 :: v4 :: v5 :: v6 :: v7 :: v8 :: v9 :: zJ :: zi (x + n) :: L) st h := by rw [zw]; simp [zF, zstep, zSetL, zSetL2, zPrev, Value.category, zi, zl, zJ]
theorem r_iconst : zwp (zcall d) m Q (.iconst n :: r) L st h = zwp (zcall d) m Q r L (zi n :: st) h := by rw [zw]; rfl
theorem r_lconst : zwp (zcall d) m Q (.jsr_w n :: r) L st h = zwp (zcall d) m Q r L (zl n :: st) h := by rw [zw]; rfl
theorem r_dconst : zwp (zcall d) m Q (.jsr n :: r) L st h = zwp (zcall d) m Q r L (.double (UInt64.ofNat n.toNat) :: st) h := by rw [zw]; rfl
theorem r_iadd : zwp (zcall d) m Q (.iadd :: r) L (zi y :: zi x :: st) h = zwp (zcall d) m Q r L (zi (x + y) :: st) h := by rw [zw]; simp only [zi, Int32.ofInt_add]; rfl
theorem r_isub : zwp (zcall d) m Q (.isub :: r) L (zi y :: zi x :: st) h = zwp (zcall d) m Q r L (zi (x - y) :: st) h := by rw [zw]; simp only [zi, Int32.ofInt_sub]; rfl
theorem r_imul : zwp (zcall d) m Q (.imul :: r) L (zi y :: zi x :: st) h = zwp (zcall d) m Q r L (zi (x * y) :: st) h := by rw [zw]; simp only [zi, Int32.ofInt_mul]; rfl
theorem r_iand : zwp (zcall d) m Q (.iand :: r) L (zi y :: zi x :: st) h = zwp (zcall d) m Q r L (zi (zand x y) :: st) h := by rw [zw]; simp only [zi, zand, Int32.ofInt_toInt]; rfl
theorem r_ior : zwp (zcall d) m Q (.ior :: r) L (zi y :: zi x :: st) h = zwp (zcall d) m Q r L (zi (zor x y) :: st) h := by rw [zw]; simp only [zi, zor, Int32.ofInt_toInt]; rfl
theorem r_ixor : zwp (zcall d) m Q (.ixor :: r) L (zi y :: zi x :: st) h = zwp (zcall d) m Q r L (zi (zxor x y) :: st) h := by rw [zw]; simp only [zi, zxor, Int32.ofInt_toInt]; rfl
theorem r_ishl : zwp (zcall d) m Q (.ishl :: r) L (zi y :: zi x :: st) h = zwp (zcall d) m Q r L (zi (zshl x y) :: st) h := by rw [zw]; simp only [zi, zshl, Int32.ofInt_toInt]; rfl
theorem r_ishr : zwp (zcall d) m Q (.ishr :: r) L (zi y :: zi x :: st) h = zwp (zcall d) m Q r L (zi (zshr x y) :: st) h := by rw [zw]; simp only [zi, zshr, Int32.ofInt_toInt]; rfl
theorem r_iushr : zwp (zcall d) m Q (.iushr :: r) L (zi y :: zi x :: st) h = zwp (zcall d) m Q r L (zi (zushr x y) :: st) h := by rw [zw]; simp only [zi, zushr, Int32.ofInt_toInt]; rfl
theorem r_idiv (h1 : y ≠ 0) (h2 : -2147483648 ≤ y) (h3 : y < 2147483648) : zwp (zcall d) m Q (.idiv :: r) L (zi y :: zi x :: st) h = zwp (zcall d) m Q r L (zi (zdiv x y) :: st) h := by
  have e : Int32.ofInt y ≠ 0 := fun q => h1 (by rw [← z_rng h2 h3, q]; rfl)
  rw [zw]; simp only [zF, zstep, zi, zdiv, Int32.ofInt_toInt]; exact if_pos_z e
theorem r_ladd : zwp (zcall d) m Q (.ladd :: r) L (zl y :: zl x :: st) h = zwp (zcall d) m Q r L (zl (x + y) :: st) h := by rw [zw]; simp only [zl, Int64.ofInt_add]; rfl
theorem r_lmul : zwp (zcall d) m Q (.lmul :: r) L (zl y :: zl x :: st) h = zwp (zcall d) m Q r L (zl (x * y) :: st) h := by rw [zw]; simp only [zl, Int64.ofInt_mul]; rfl
theorem r_land {t u : Int64} : zwp (zcall d) m Q (.land :: r) L (.long u :: .long t :: st) h = zwp (zcall d) m Q r L (.long (t &&& u) :: st) h := by rw [zw]; rfl
theorem r_lor {t u : Int64} : zwp (zcall d) m Q (.lor :: r) L (.long u :: .long t :: st) h = zwp (zcall d) m Q r L (.long (t ||| u) :: st) h := by rw [zw]; rfl
theorem r_lushr {t : Int64} : zwp (zcall d) m Q (.lushr :: r) L (zi y :: .long t :: st) h = zwp (zcall d) m Q r L (.long (t.toUInt64 >>> ((Int32.ofInt y).toInt64.toUInt64 &&& Int64.toUInt64 63)).toInt64 :: st) h := by rw [zw]; rfl
theorem r_lcmp : zwp (zcall d) m Q (.lcmp :: r) L (zl y :: zl x :: st) h = zwp (zcall d) m Q r L (.int (lg_cmp (Int64.ofInt x) (Int64.ofInt y)) :: st) h := by rw [zw]; rfl
theorem r_lcmpR {t u : Int64} : zwp (zcall d) m Q (.lcmp :: r) L (.long u :: .long t :: st) h = zwp (zcall d) m Q r L (.int (lg_cmp t u) :: st) h := by rw [zw]; rfl
theorem r_dadd {t u : UInt64} (hn : FP.dIsNaN (FP.dadd t u) = false) : zwp (zcall d) m Q (.dadd :: r) L (.double u :: .double t :: st) h = zwp (zcall d) m Q r L (.double (FP.dadd t u) :: st) h := by rw [zw]; simp [zF, zstep, hn]
theorem r_dsub {t u : UInt64} (hn : FP.dIsNaN (FP.dsub t u) = false) : zwp (zcall d) m Q (.dsub :: r) L (.double u :: .double t :: st) h = zwp (zcall d) m Q r L (.double (FP.dsub t u) :: st) h := by rw [zw]; simp [zF, zstep, hn]
theorem r_dmul {t u : UInt64} (hn : FP.dIsNaN (FP.dmul t u) = false) : zwp (zcall d) m Q (.dmul :: r) L (.double u :: .double t :: st) h = zwp (zcall d) m Q r L (.double (FP.dmul t u) :: st) h := by rw [zw]; simp [zF, zstep, hn]
theorem r_ddiv {t u : UInt64} (hn : FP.dIsNaN (FP.ddiv t u) = false) : zwp (zcall d) m Q (.ddiv :: r) L (.double u :: .double t :: st) h = zwp (zcall d) m Q r L (.double (FP.ddiv t u) :: st) h := by rw [zw]; simp [zF, zstep, hn]
theorem r_dcmp {t u : UInt64} {op : CmpOp} : zwp (zcall d) m Q (.dcmp op :: r) L (.double u :: .double t :: st) h = zwp (zcall d) m Q r L (.int (Op.cmpValue (FP.dcmp t u) op) :: st) h := by rw [zw]; rfl
theorem r_fcmp {t u : UInt32} {op : CmpOp} : zwp (zcall d) m Q (.fcmp op :: r) L (.float u :: .float t :: st) h = zwp (zcall d) m Q r L (.int (Op.cmpValue (FP.fcmp t u) op) :: st) h := by rw [zw]; rfl
theorem r_i2l (h1 : -2147483648 ≤ x) (h2 : x < 2147483648) : zwp (zcall d) m Q (.i2l :: r) L (zi x :: st) h = zwp (zcall d) m Q r L (zl x :: st) h := by
  have e : (Int32.ofInt x).toInt64 = Int64.ofInt x := Int32.toInt64_ofInt (by simpa using h1) (by have : (Int32.maxValue).toInt = 2147483647 := rfl; omega)
  rw [zw]; simp only [zl, ← e]; rfl
theorem r_i2d : zwp (zcall d) m Q (.i2d :: r) L (zi x :: st) h = zwp (zcall d) m Q r L (.double (FP.i2d (Int32.ofInt x)) :: st) h := by rw [zw]; rfl
theorem r_d2i {u : UInt64} : zwp (zcall d) m Q (.d2i :: r) L (.double u :: st) h = zwp (zcall d) m Q r L (.int (FP.d2i u) :: st) h := by rw [zw]; rfl
theorem r_d2f {u : UInt64} (hn : FP.fIsNaN (FP.d2f u) = false) : zwp (zcall d) m Q (.d2f :: r) L (.double u :: st) h = zwp (zcall d) m Q r L (.float (FP.d2f u) :: st) h := by rw [zw]; simp [zF, zstep, hn]
theorem r_f2d {u : UInt32} (hn : FP.dIsNaN (FP.f2d u) = false) : zwp (zcall d) m Q (.f2d :: r) L (.float u :: st) h = zwp (zcall d) m Q r L (.double (FP.f2d u) :: st) h := by rw [zw]; simp [zF, zstep, hn]
theorem r_f2i {u : UInt32} : zwp (zcall d) m Q (.f2i :: r) L (.float u :: st) h = zwp (zcall d) m Q r L (.int u.toInt32 :: st) h := by rw [zw]; rfl
theorem r_dup_i : zwp (zcall d) m Q (.dup :: r) L (zi x :: st) h = zwp (zcall d) m Q r L (zi x :: zi x :: st) h := by rw [zw]; rfl
theorem r_dup_r : zwp (zcall d) m Q (.dup :: r) L (.ref a :: st) h = zwp (zcall d) m Q r L (.ref a :: .ref a :: st) h := by rw [zw]; rfl
theorem r_dup2 : zwp (zcall d) m Q (.dup2 :: r) L (zi x :: .ref a :: st) h = zwp (zcall d) m Q r L (zi x :: .ref a :: zi x :: .ref a :: st) h := by rw [zw]; rfl
theorem r_pop_i : zwp (zcall d) m Q (.pop :: r) L (zi x :: st) h = zwp (zcall d) m Q r L st h := by rw [zw]; rfl
theorem r_pop_r : zwp (zcall d) m Q (.pop :: r) L (.ref a :: st) h = zwp (zcall d) m Q r L st h := by rw [zw]; rfl
theorem r_goto : zwp (zcall d) m Q (.goto l :: r) L st h = zwp (zcall d) m Q (zB m l) L st h := by rw [zw]; rfl
theorem r_goto_w : zwp (zcall d) m Q (.goto_w l :: r) L st h = zwp (zcall d) m Q (zB m l) L st h := by rw [zw]; rfl
theorem r_if_eq (h1 : -2147483648 ≤ x) (h2 : x < 2147483648) : zwp (zcall d) m Q (.ifCond .eq l :: r) L (zi x :: st) h = if x = 0 then zwp (zcall d) m Q (zB m l) L st h else zwp (zcall d) m Q r L st h := by
  rw [zw]
  show (match (if Int32.ofInt x = Int32.ofInt 0 then some (zB m l, L, st, h) else some (r, L, st, h)) with | some q => zwp (zcall d) m Q q.1 q.2.1 q.2.2.1 q.2.2.2 | none => False) = _
  rw [z_ite (hq := inferInstance) (z_eq h1 h2 (by decide) (by decide))]
  exact z_ite2
theorem r_icmp_eq (h1 : -2147483648 ≤ x) (h2 : x < 2147483648) (h3 : -2147483648 ≤ y) (h4 : y < 2147483648) : zwp (zcall d) m Q (.if_icmp .eq l :: r) L (zi y :: zi x :: st) h = if x = y then zwp (zcall d) m Q (zB m l) L st h else zwp (zcall d) m Q r L st h := by
  rw [zw]
  show (match (if Int32.ofInt x = Int32.ofInt y then some (zB m l, L, st, h) else some (r, L, st, h)) with | some q => zwp (zcall d) m Q q.1 q.2.1 q.2.2.1 q.2.2.2 | none => False) = _
  rw [z_ite (hq := inferInstance) (z_eq h1 h2 h3 h4)]
  exact z_ite2
theorem r_if_ne (h1 : -2147483648 ≤ x) (h2 : x < 2147483648) : zwp (zcall d) m Q (.ifCond .ne l :: r) L (zi x :: st) h = if ¬ x = 0 then zwp (zcall d) m Q (zB m l) L st h else zwp (zcall d) m Q r L st h := by
  rw [zw]
  show (match (if ¬ Int32.ofInt x = Int32.ofInt 0 then some (zB m l, L, st, h) else some (r, L, st, h)) with | some q => zwp (zcall d) m Q q.1 q.2.1 q.2.2.1 q.2.2.2 | none => False) = _
  rw [z_ite (hq := inferInstance) (congrArg Not (z_eq h1 h2 (by decide) (by decide)))]
  exact z_ite2
theorem r_icmp_ne (h1 : -2147483648 ≤ x) (h2 : x < 2147483648) (h3 : -2147483648 ≤ y) (h4 : y < 2147483648) : zwp (zcall d) m Q (.if_icmp .ne l :: r) L (zi y :: zi x :: st) h = if ¬ x = y then zwp (zcall d) m Q (zB m l) L st h else zwp (zcall d) m Q r L st h := by
  rw [zw]
  show (match (if ¬ Int32.ofInt x = Int32.ofInt y then some (zB m l, L, st, h) else some (r, L, st, h)) with | some q => zwp (zcall d) m Q q.1 q.2.1 q.2.2.1 q.2.2.2 | none => False) = _
  rw [z_ite (hq := inferInstance) (congrArg Not (z_eq h1 h2 h3 h4))]
  exact z_ite2
theorem r_if_lt (h1 : -2147483648 ≤ x) (h2 : x < 2147483648) : zwp (zcall d) m Q (.ifCond .lt l :: r) L (zi x :: st) h = if x < 0 then zwp (zcall d) m Q (zB m l) L st h else zwp (zcall d) m Q r L st h := by
  rw [zw]
  show (match (if Int32.ofInt x < Int32.ofInt 0 then some (zB m l, L, st, h) else some (r, L, st, h)) with | some q => zwp (zcall d) m Q q.1 q.2.1 q.2.2.1 q.2.2.2 | none => False) = _
  rw [z_ite (hq := inferInstance) (z_lt h1 h2 (by decide) (by decide))]
  exact z_ite2
theorem r_icmp_lt (h1 : -2147483648 ≤ x) (h2 : x < 2147483648) (h3 : -2147483648 ≤ y) (h4 : y < 2147483648) : zwp (zcall d) m Q (.if_icmp .lt l :: r) L (zi y :: zi x :: st) h = if x < y then zwp (zcall d) m Q (zB m l) L st h else zwp (zcall d) m Q r L st h := by
  rw [zw]
  show (match (if Int32.ofInt x < Int32.ofInt y then some (zB m l, L, st, h) else some (r, L, st, h)) with | some q => zwp (zcall d) m Q q.1 q.2.1 q.2.2.1 q.2.2.2 | none => False) = _
  rw [z_ite (hq := inferInstance) (z_lt h1 h2 h3 h4)]
  exact z_ite2
theorem r_if_ge (h1 : -2147483648 ≤ x) (h2 : x < 2147483648) : zwp (zcall d) m Q (.ifCond .ge l :: r) L (zi x :: st) h = if 0 ≤ x then zwp (zcall d) m Q (zB m l) L st h else zwp (zcall d) m Q r L st h := by
  rw [zw]
  show (match (if Int32.ofInt 0 ≤ Int32.ofInt x then some (zB m l, L, st, h) else some (r, L, st, h)) with | some q => zwp (zcall d) m Q q.1 q.2.1 q.2.2.1 q.2.2.2 | none => False) = _
  rw [z_ite (hq := inferInstance) (z_le (by decide) (by decide) h1 h2)]
  exact z_ite2
theorem r_icmp_ge (h1 : -2147483648 ≤ x) (h2 : x < 2147483648) (h3 : -2147483648 ≤ y) (h4 : y < 2147483648) : zwp (zcall d) m Q (.if_icmp .ge l :: r) L (zi y :: zi x :: st) h = if y ≤ x then zwp (zcall d) m Q (zB m l) L st h else zwp (zcall d) m Q r L st h := by
  rw [zw]
  show (match (if Int32.ofInt y ≤ Int32.ofInt x then some (zB m l, L, st, h) else some (r, L, st, h)) with | some q => zwp (zcall d) m Q q.1 q.2.1 q.2.2.1 q.2.2.2 | none => False) = _
  rw [z_ite (hq := inferInstance) (z_le h3 h4 h1 h2)]
  exact z_ite2
theorem r_if_gt (h1 : -2147483648 ≤ x) (h2 : x < 2147483648) : zwp (zcall d) m Q (.ifCond .gt l :: r) L (zi x :: st) h = if 0 < x then zwp (zcall d) m Q (zB m l) L st h else zwp (zcall d) m Q r L st h := by
  rw [zw]
  show (match (if Int32.ofInt 0 < Int32.ofInt x then some (zB m l, L, st, h) else some (r, L, st, h)) with | some q => zwp (zcall d) m Q q.1 q.2.1 q.2.2.1 q.2.2.2 | none => False) = _
  rw [z_ite (hq := inferInstance) (z_lt (by decide) (by decide) h1 h2)]
  exact z_ite2
theorem r_icmp_gt (h1 : -2147483648 ≤ x) (h2 : x < 2147483648) (h3 : -2147483648 ≤ y) (h4 : y < 2147483648) : zwp (zcall d) m Q (.if_icmp .gt l :: r) L (zi y :: zi x :: st) h = if y < x then zwp (zcall d) m Q (zB m l) L st h else zwp (zcall d) m Q r L st h := by
  rw [zw]
  show (match (if Int32.ofInt y < Int32.ofInt x then some (zB m l, L, st, h) else some (r, L, st, h)) with | some q => zwp (zcall d) m Q q.1 q.2.1 q.2.2.1 q.2.2.2 | none => False) = _
  rw [z_ite (hq := inferInstance) (z_lt h3 h4 h1 h2)]
  exact z_ite2
theorem r_if_le (h1 : -2147483648 ≤ x) (h2 : x < 2147483648) : zwp (zcall d) m Q (.ifCond .le l :: r) L (zi x :: st) h = if x ≤ 0 then zwp (zcall d) m Q (zB m l) L st h else zwp (zcall d) m Q r L st h := by
  rw [zw]
  show (match (if Int32.ofInt x ≤ Int32.ofInt 0 then some (zB m l, L, st, h) else some (r, L, st, h)) with | some q => zwp (zcall d) m Q q.1 q.2.1 q.2.2.1 q.2.2.2 | none => False) = _
  rw [z_ite (hq := inferInstance) (z_le h1 h2 (by decide) (by decide))]
  exact z_ite2
theorem r_icmp_le (h1 : -2147483648 ≤ x) (h2 : x < 2147483648) (h3 : -2147483648 ≤ y) (h4 : y < 2147483648) : zwp (zcall d) m Q (.if_icmp .le l :: r) L (zi y :: zi x :: st) h = if x ≤ y then zwp (zcall d) m Q (zB m l) L st h else zwp (zcall d) m Q r L st h := by
  rw [zw]
  show (match (if Int32.ofInt x ≤ Int32.ofInt y then some (zB m l, L, st, h) else some (r, L, st, h)) with | some q => zwp (zcall d) m Q q.1 q.2.1 q.2.2.1 q.2.2.2 | none => False) = _
  rw [z_ite (hq := inferInstance) (z_le h1 h2 h3 h4)]
  exact z_ite2
theorem r_sw {ps : List (Int × Int)} (h1 : -2147483648 ≤ x) (h2 : x < 2147483648) : zwp (zcall d) m Q (.lookupswitch k (List.toArray ps) :: r) L (zi x :: st) h = zwp (zcall d) m Q (zB m (zsw ps k x)) L st h := by rw [zw]; show zwp (zcall d) m Q (zB m (zsw ps k (Int32.ofInt x).toInt)) L st h = _; rw [z_rng h1 h2]
theorem r_gf_0 (ht : s.tg a = 0) : zwp (zcall d) m Q (.getfield 0 :: r) L (.ref a :: st) (s, V) = zwp (zcall d) m Q r L (V a 0 :: st) (s, V) := by rw [zw]; exact if_pos_z ht
theorem r_pf_0 (ht : s.tg a = 0) : zwp (zcall d) m Q (.putfield 0 :: r) L (.ref b :: .ref a :: st) (s, V) = zwp (zcall d) m Q r L st (s, zput V a 0 (.ref b)) := by rw [zw]; exact if_pos_z ⟨ht, rfl⟩
theorem r_gf_64 (ht : s.tg a = 1) : zwp (zcall d) m Q (.getfield 64 :: r) L (.ref a :: st) (s, V) = zwp (zcall d) m Q r L (V a 0 :: st) (s, V) := by rw [zw]; exact if_pos_z ht
theorem r_pf_64 (ht : s.tg a = 1) : zwp (zcall d) m Q (.putfield 64 :: r) L (.ref b :: .ref a :: st) (s, V) = zwp (zcall d) m Q r L st (s, zput V a 0 (.ref b)) := by rw [zw]; exact if_pos_z ⟨ht, rfl⟩
theorem r_gf_65 (ht : s.tg a = 1) : zwp (zcall d) m Q (.getfield 65 :: r) L (.ref a :: st) (s, V) = zwp (zcall d) m Q r L (V a 1 :: st) (s, V) := by rw [zw]; exact if_pos_z ht
theorem r_pf_65 (ht : s.tg a = 1) : zwp (zcall d) m Q (.putfield 65 :: r) L (.ref b :: .ref a :: st) (s, V) = zwp (zcall d) m Q r L st (s, zput V a 1 (.ref b)) := by rw [zw]; exact if_pos_z ⟨ht, rfl⟩
theorem r_gf_66 (ht : s.tg a = 1) : zwp (zcall d) m Q (.getfield 66 :: r) L (.ref a :: st) (s, V) = zwp (zcall d) m Q r L (V a 2 :: st) (s, V) := by rw [zw]; exact if_pos_z ht
theorem r_pf_66 (ht : s.tg a = 1) : zwp (zcall d) m Q (.putfield 66 :: r) L (.ref b :: .ref a :: st) (s, V) = zwp (zcall d) m Q r L st (s, zput V a 2 (.ref b)) := by rw [zw]; exact if_pos_z ⟨ht, rfl⟩
theorem r_gf_128 (ht : s.tg a = 2) : zwp (zcall d) m Q (.getfield 128 :: r) L (.ref a :: st) (s, V) = zwp (zcall d) m Q r L (V a 0 :: st) (s, V) := by rw [zw]; exact if_pos_z ht
theorem r_pf_128 (ht : s.tg a = 2) : zwp (zcall d) m Q (.putfield 128 :: r) L (.ref b :: .ref a :: st) (s, V) = zwp (zcall d) m Q r L st (s, zput V a 0 (.ref b)) := by rw [zw]; exact if_pos_z ⟨ht, rfl⟩
theorem r_gf_129 (ht : s.tg a = 2) : zwp (zcall d) m Q (.getfield 129 :: r) L (.ref a :: st) (s, V) = zwp (zcall d) m Q r L (V a 1 :: st) (s, V) := by rw [zw]; exact if_pos_z ht
theorem r_pf_129 (ht : s.tg a = 2) : zwp (zcall d) m Q (.putfield 129 :: r) L (.ref b :: .ref a :: st) (s, V) = zwp (zcall d) m Q r L st (s, zput V a 1 (.ref b)) := by rw [zw]; exact if_pos_z ⟨ht, rfl⟩
theorem r_gf_130 (ht : s.tg a = 2) : zwp (zcall d) m Q (.getfield 130 :: r) L (.ref a :: st) (s, V) = zwp (zcall d) m Q r L (V a 2 :: st) (s, V) := by rw [zw]; exact if_pos_z ht
theorem r_pf_130 (ht : s.tg a = 2) : zwp (zcall d) m Q (.putfield 130 :: r) L (zi x :: .ref a :: st) (s, V) = zwp (zcall d) m Q r L st (s, zput V a 2 (zi x)) := by rw [zw]; exact if_pos_z ⟨ht, rfl⟩
theorem r_gf_131 (ht : s.tg a = 2) : zwp (zcall d) m Q (.getfield 131 :: r) L (.ref a :: st) (s, V) = zwp (zcall d) m Q r L (V a 3 :: st) (s, V) := by rw [zw]; exact if_pos_z ht
theorem r_pf_131 (ht : s.tg a = 2) : zwp (zcall d) m Q (.putfield 131 :: r) L (.ref b :: .ref a :: st) (s, V) = zwp (zcall d) m Q r L st (s, zput V a 3 (.ref b)) := by rw [zw]; exact if_pos_z ⟨ht, rfl⟩
theorem r_gf_132 (ht : s.tg a = 2) : zwp (zcall d) m Q (.getfield 132 :: r) L (.ref a :: st) (s, V) = zwp (zcall d) m Q r L (V a 4 :: st) (s, V) := by rw [zw]; exact if_pos_z ht
theorem r_pf_132 (ht : s.tg a = 2) : zwp (zcall d) m Q (.putfield 132 :: r) L (.ref b :: .ref a :: st) (s, V) = zwp (zcall d) m Q r L st (s, zput V a 4 (.ref b)) := by rw [zw]; exact if_pos_z ⟨ht, rfl⟩
theorem r_gf_192 (ht : s.tg a = 3) : zwp (zcall d) m Q (.getfield 192 :: r) L (.ref a :: st) (s, V) = zwp (zcall d) m Q r L (V a 0 :: st) (s, V) := by rw [zw]; exact if_pos_z ht
theorem r_pf_192 (ht : s.tg a = 3) : zwp (zcall d) m Q (.putfield 192 :: r) L (.ref b :: .ref a :: st) (s, V) = zwp (zcall d) m Q r L st (s, zput V a 0 (.ref b)) := by rw [zw]; exact if_pos_z ⟨ht, rfl⟩
theorem r_gf_193 (ht : s.tg a = 3) : zwp (zcall d) m Q (.getfield 193 :: r) L (.ref a :: st) (s, V) = zwp (zcall d) m Q r L (V a 1 :: st) (s, V) := by rw [zw]; exact if_pos_z ht
theorem r_pf_193 (ht : s.tg a = 3) : zwp (zcall d) m Q (.putfield 193 :: r) L (zi x :: .ref a :: st) (s, V) = zwp (zcall d) m Q r L st (s, zput V a 1 (zi x)) := by rw [zw]; exact if_pos_z ⟨ht, rfl⟩
theorem r_gf_256 (ht : s.tg a = 4) : zwp (zcall d) m Q (.getfield 256 :: r) L (.ref a :: st) (s, V) = zwp (zcall d) m Q r L (V a 0 :: st) (s, V) := by rw [zw]; exact if_pos_z ht
theorem r_pf_256 (ht : s.tg a = 4) : zwp (zcall d) m Q (.putfield 256 :: r) L (.ref b :: .ref a :: st) (s, V) = zwp (zcall d) m Q r L st (s, zput V a 0 (.ref b)) := by rw [zw]; exact if_pos_z ⟨ht, rfl⟩
theorem r_gf_257 (ht : s.tg a = 4) : zwp (zcall d) m Q (.getfield 257 :: r) L (.ref a :: st) (s, V) = zwp (zcall d) m Q r L (V a 1 :: st) (s, V) := by rw [zw]; exact if_pos_z ht
theorem r_pf_257 (ht : s.tg a = 4) : zwp (zcall d) m Q (.putfield 257 :: r) L (.ref b :: .ref a :: st) (s, V) = zwp (zcall d) m Q r L st (s, zput V a 1 (.ref b)) := by rw [zw]; exact if_pos_z ⟨ht, rfl⟩
theorem r_gf_258 (ht : s.tg a = 4) : zwp (zcall d) m Q (.getfield 258 :: r) L (.ref a :: st) (s, V) = zwp (zcall d) m Q r L (V a 2 :: st) (s, V) := by rw [zw]; exact if_pos_z ht
theorem r_pf_258 (ht : s.tg a = 4) : zwp (zcall d) m Q (.putfield 258 :: r) L (.ref b :: .ref a :: st) (s, V) = zwp (zcall d) m Q r L st (s, zput V a 2 (.ref b)) := by rw [zw]; exact if_pos_z ⟨ht, rfl⟩
theorem r_gf_259 (ht : s.tg a = 4) : zwp (zcall d) m Q (.getfield 259 :: r) L (.ref a :: st) (s, V) = zwp (zcall d) m Q r L (V a 3 :: st) (s, V) := by rw [zw]; exact if_pos_z ht
theorem r_pf_259 (ht : s.tg a = 4) : zwp (zcall d) m Q (.putfield 259 :: r) L (.ref b :: .ref a :: st) (s, V) = zwp (zcall d) m Q r L st (s, zput V a 3 (.ref b)) := by rw [zw]; exact if_pos_z ⟨ht, rfl⟩
theorem r_gf_320 (ht : s.tg a = 5) : zwp (zcall d) m Q (.getfield 320 :: r) L (.ref a :: st) (s, V) = zwp (zcall d) m Q r L (V a 0 :: st) (s, V) := by rw [zw]; exact if_pos_z ht
theorem r_pf_320_0 (ht : s.tg a = 5) : zwp (zcall d) m Q (.putfield 320 :: r) L (zi 0 :: .ref a :: st) (s, V) = zwp (zcall d) m Q r L st (s, zput V a 0 (zi 0)) := by rw [zw]; exact if_pos_z ⟨ht, rfl⟩
theorem r_pf_320_1 (ht : s.tg a = 5) : zwp (zcall d) m Q (.putfield 320 :: r) L (zi 1 :: .ref a :: st) (s, V) = zwp (zcall d) m Q r L st (s, zput V a 0 (zi 1)) := by rw [zw]; exact if_pos_z ⟨ht, rfl⟩
theorem r_pf_320 (ht : s.tg a = 5) (hx : x = 0 ∨ x = 1) : zwp (zcall d) m Q (.putfield 320 :: r) L (zi x :: .ref a :: st) (s, V) = zwp (zcall d) m Q r L st (s, zput V a 0 (zi x)) := by rw [zw]; rcases hx with rfl | rfl <;> exact if_pos_z ⟨ht, rfl⟩
theorem r_gf_321 (ht : s.tg a = 5) : zwp (zcall d) m Q (.getfield 321 :: r) L (.ref a :: st) (s, V) = zwp (zcall d) m Q r L (V a 1 :: st) (s, V) := by rw [zw]; exact if_pos_z ht
theorem r_pf_321 (ht : s.tg a = 5) : zwp (zcall d) m Q (.putfield 321 :: r) L (zi x :: .ref a :: st) (s, V) = zwp (zcall d) m Q r L st (s, zput V a 1 (zi x)) := by rw [zw]; exact if_pos_z ⟨ht, rfl⟩
theorem r_gf_322 (ht : s.tg a = 5) : zwp (zcall d) m Q (.getfield 322 :: r) L (.ref a :: st) (s, V) = zwp (zcall d) m Q r L (V a 2 :: st) (s, V) := by rw [zw]; exact if_pos_z ht
theorem r_pf_322 (ht : s.tg a = 5) : zwp (zcall d) m Q (.putfield 322 :: r) L (zi x :: .ref a :: st) (s, V) = zwp (zcall d) m Q r L st (s, zput V a 2 (zi x)) := by rw [zw]; exact if_pos_z ⟨ht, rfl⟩
theorem r_gf_323 (ht : s.tg a = 5) : zwp (zcall d) m Q (.getfield 323 :: r) L (.ref a :: st) (s, V) = zwp (zcall d) m Q r L (V a 3 :: st) (s, V) := by rw [zw]; exact if_pos_z ht
theorem r_pf_323 (ht : s.tg a = 5) : zwp (zcall d) m Q (.putfield 323 :: r) L (zi x :: .ref a :: st) (s, V) = zwp (zcall d) m Q r L st (s, zput V a 3 (zi x)) := by rw [zw]; exact if_pos_z ⟨ht, rfl⟩
theorem r_gf_324 (ht : s.tg a = 5) : zwp (zcall d) m Q (.getfield 324 :: r) L (.ref a :: st) (s, V) = zwp (zcall d) m Q r L (V a 4 :: st) (s, V) := by rw [zw]; exact if_pos_z ht
theorem r_pf_324 (ht : s.tg a = 5) : zwp (zcall d) m Q (.putfield 324 :: r) L (zi x :: .ref a :: st) (s, V) = zwp (zcall d) m Q r L st (s, zput V a 4 (zi x)) := by rw [zw]; exact if_pos_z ⟨ht, rfl⟩
theorem r_gf_325 (ht : s.tg a = 5) : zwp (zcall d) m Q (.getfield 325 :: r) L (.ref a :: st) (s, V) = zwp (zcall d) m Q r L (V a 5 :: st) (s, V) := by rw [zw]; exact if_pos_z ht
theorem r_pf_325 (ht : s.tg a = 5) : zwp (zcall d) m Q (.putfield 325 :: r) L (zi x :: .ref a :: st) (s, V) = zwp (zcall d) m Q r L st (s, zput V a 5 (zi x)) := by rw [zw]; exact if_pos_z ⟨ht, rfl⟩
theorem r_gf_326 (ht : s.tg a = 5) : zwp (zcall d) m Q (.getfield 326 :: r) L (.ref a :: st) (s, V) = zwp (zcall d) m Q r L (V a 6 :: st) (s, V) := by rw [zw]; exact if_pos_z ht
theorem r_pf_326 (ht : s.tg a = 5) : zwp (zcall d) m Q (.putfield 326 :: r) L (zi x :: .ref a :: st) (s, V) = zwp (zcall d) m Q r L st (s, zput V a 6 (zi x)) := by rw [zw]; exact if_pos_z ⟨ht, rfl⟩
theorem r_gf_327 (ht : s.tg a = 5) : zwp (zcall d) m Q (.getfield 327 :: r) L (.ref a :: st) (s, V) = zwp (zcall d) m Q r L (V a 7 :: st) (s, V) := by rw [zw]; exact if_pos_z ht
theorem r_pf_327 (ht : s.tg a = 5) : zwp (zcall d) m Q (.putfield 327 :: r) L (zi x :: .ref a :: st) (s, V) = zwp (zcall d) m Q r L st (s, zput V a 7 (zi x)) := by rw [zw]; exact if_pos_z ⟨ht, rfl⟩
theorem r_gf_328 (ht : s.tg a = 5) : zwp (zcall d) m Q (.getfield 328 :: r) L (.ref a :: st) (s, V) = zwp (zcall d) m Q r L (V a 8 :: st) (s, V) := by rw [zw]; exact if_pos_z ht
theorem r_pf_328 (ht : s.tg a = 5) : zwp (zcall d) m Q (.putfield 328 :: r) L (.ref b :: .ref a :: st) (s, V) = zwp (zcall d) m Q r L st (s, zput V a 8 (.ref b)) := by rw [zw]; exact if_pos_z ⟨ht, rfl⟩
theorem r_gf_329 (ht : s.tg a = 5) : zwp (zcall d) m Q (.getfield 329 :: r) L (.ref a :: st) (s, V) = zwp (zcall d) m Q r L (V a 9 :: st) (s, V) := by rw [zw]; exact if_pos_z ht
theorem r_pf_329 (ht : s.tg a = 5) : zwp (zcall d) m Q (.putfield 329 :: r) L (.ref b :: .ref a :: st) (s, V) = zwp (zcall d) m Q r L st (s, zput V a 9 (.ref b)) := by rw [zw]; exact if_pos_z ⟨ht, rfl⟩
theorem r_gf_448 (ht : s.tg a = 7) : zwp (zcall d) m Q (.getfield 448 :: r) L (.ref a :: st) (s, V) = zwp (zcall d) m Q r L (V a 0 :: st) (s, V) := by rw [zw]; exact if_pos_z ht
theorem r_pf_448 (ht : s.tg a = 7) : zwp (zcall d) m Q (.putfield 448 :: r) L (zi x :: .ref a :: st) (s, V) = zwp (zcall d) m Q r L st (s, zput V a 0 (zi x)) := by rw [zw]; exact if_pos_z ⟨ht, rfl⟩
theorem r_gf_449 (ht : s.tg a = 7) : zwp (zcall d) m Q (.getfield 449 :: r) L (.ref a :: st) (s, V) = zwp (zcall d) m Q r L (V a 1 :: st) (s, V) := by rw [zw]; exact if_pos_z ht
theorem r_pf_449 (ht : s.tg a = 7) : zwp (zcall d) m Q (.putfield 449 :: r) L (zi x :: .ref a :: st) (s, V) = zwp (zcall d) m Q r L st (s, zput V a 1 (zi x)) := by rw [zw]; exact if_pos_z ⟨ht, rfl⟩
theorem r_gf_450 (ht : s.tg a = 7) : zwp (zcall d) m Q (.getfield 450 :: r) L (.ref a :: st) (s, V) = zwp (zcall d) m Q r L (V a 2 :: st) (s, V) := by rw [zw]; exact if_pos_z ht
theorem r_pf_450 (ht : s.tg a = 7) : zwp (zcall d) m Q (.putfield 450 :: r) L (.ref b :: .ref a :: st) (s, V) = zwp (zcall d) m Q r L st (s, zput V a 2 (.ref b)) := by rw [zw]; exact if_pos_z ⟨ht, rfl⟩
theorem r_gf_451 (ht : s.tg a = 7) : zwp (zcall d) m Q (.getfield 451 :: r) L (.ref a :: st) (s, V) = zwp (zcall d) m Q r L (V a 3 :: st) (s, V) := by rw [zw]; exact if_pos_z ht
theorem r_pf_451 (ht : s.tg a = 7) : zwp (zcall d) m Q (.putfield 451 :: r) L (.ref b :: .ref a :: st) (s, V) = zwp (zcall d) m Q r L st (s, zput V a 3 (.ref b)) := by rw [zw]; exact if_pos_z ⟨ht, rfl⟩
theorem r_gf_512 (ht : s.tg a = 8) : zwp (zcall d) m Q (.getfield 512 :: r) L (.ref a :: st) (s, V) = zwp (zcall d) m Q r L (V a 0 :: st) (s, V) := by rw [zw]; exact if_pos_z ht
theorem r_pf_512 (ht : s.tg a = 8) : zwp (zcall d) m Q (.putfield 512 :: r) L (.ref b :: .ref a :: st) (s, V) = zwp (zcall d) m Q r L st (s, zput V a 0 (.ref b)) := by rw [zw]; exact if_pos_z ⟨ht, rfl⟩
theorem r_gf_513 (ht : s.tg a = 8) : zwp (zcall d) m Q (.getfield 513 :: r) L (.ref a :: st) (s, V) = zwp (zcall d) m Q r L (V a 1 :: st) (s, V) := by rw [zw]; exact if_pos_z ht
theorem r_pf_513 (ht : s.tg a = 8) : zwp (zcall d) m Q (.putfield 513 :: r) L (zi x :: .ref a :: st) (s, V) = zwp (zcall d) m Q r L st (s, zput V a 1 (zi x)) := by rw [zw]; exact if_pos_z ⟨ht, rfl⟩
theorem r_gf_514 (ht : s.tg a = 8) : zwp (zcall d) m Q (.getfield 514 :: r) L (.ref a :: st) (s, V) = zwp (zcall d) m Q r L (V a 2 :: st) (s, V) := by rw [zw]; exact if_pos_z ht
theorem r_pf_514 (ht : s.tg a = 8) : zwp (zcall d) m Q (.putfield 514 :: r) L (.ref b :: .ref a :: st) (s, V) = zwp (zcall d) m Q r L st (s, zput V a 2 (.ref b)) := by rw [zw]; exact if_pos_z ⟨ht, rfl⟩
theorem r_gf_515 (ht : s.tg a = 8) : zwp (zcall d) m Q (.getfield 515 :: r) L (.ref a :: st) (s, V) = zwp (zcall d) m Q r L (V a 3 :: st) (s, V) := by rw [zw]; exact if_pos_z ht
theorem r_pf_515 (ht : s.tg a = 8) : zwp (zcall d) m Q (.putfield 515 :: r) L (.ref b :: .ref a :: st) (s, V) = zwp (zcall d) m Q r L st (s, zput V a 3 (.ref b)) := by rw [zw]; exact if_pos_z ⟨ht, rfl⟩
theorem r_gf_576 (ht : s.tg a = 9) : zwp (zcall d) m Q (.getfield 576 :: r) L (.ref a :: st) (s, V) = zwp (zcall d) m Q r L (V a 0 :: st) (s, V) := by rw [zw]; exact if_pos_z ht
theorem r_pf_576 (ht : s.tg a = 9) : zwp (zcall d) m Q (.putfield 576 :: r) L (.ref b :: .ref a :: st) (s, V) = zwp (zcall d) m Q r L st (s, zput V a 0 (.ref b)) := by rw [zw]; exact if_pos_z ⟨ht, rfl⟩
theorem r_gf_577 (ht : s.tg a = 9) : zwp (zcall d) m Q (.getfield 577 :: r) L (.ref a :: st) (s, V) = zwp (zcall d) m Q r L (V a 1 :: st) (s, V) := by rw [zw]; exact if_pos_z ht
theorem r_pf_577 (ht : s.tg a = 9) : zwp (zcall d) m Q (.putfield 577 :: r) L (.ref b :: .ref a :: st) (s, V) = zwp (zcall d) m Q r L st (s, zput V a 1 (.ref b)) := by rw [zw]; exact if_pos_z ⟨ht, rfl⟩
theorem r_gf_578 (ht : s.tg a = 9) : zwp (zcall d) m Q (.getfield 578 :: r) L (.ref a :: st) (s, V) = zwp (zcall d) m Q r L (V a 2 :: st) (s, V) := by rw [zw]; exact if_pos_z ht
theorem r_pf_578 (ht : s.tg a = 9) : zwp (zcall d) m Q (.putfield 578 :: r) L (.ref b :: .ref a :: st) (s, V) = zwp (zcall d) m Q r L st (s, zput V a 2 (.ref b)) := by rw [zw]; exact if_pos_z ⟨ht, rfl⟩
theorem r_gf_579 (ht : s.tg a = 9) : zwp (zcall d) m Q (.getfield 579 :: r) L (.ref a :: st) (s, V) = zwp (zcall d) m Q r L (V a 3 :: st) (s, V) := by rw [zw]; exact if_pos_z ht
theorem r_pf_579 (ht : s.tg a = 9) : zwp (zcall d) m Q (.putfield 579 :: r) L (.ref b :: .ref a :: st) (s, V) = zwp (zcall d) m Q r L st (s, zput V a 3 (.ref b)) := by rw [zw]; exact if_pos_z ⟨ht, rfl⟩
theorem r_gf_580 (ht : s.tg a = 9) : zwp (zcall d) m Q (.getfield 580 :: r) L (.ref a :: st) (s, V) = zwp (zcall d) m Q r L (V a 4 :: st) (s, V) := by rw [zw]; exact if_pos_z ht
theorem r_pf_580 (ht : s.tg a = 9) : zwp (zcall d) m Q (.putfield 580 :: r) L (.ref b :: .ref a :: st) (s, V) = zwp (zcall d) m Q r L st (s, zput V a 4 (.ref b)) := by rw [zw]; exact if_pos_z ⟨ht, rfl⟩
theorem r_gf_581 (ht : s.tg a = 9) : zwp (zcall d) m Q (.getfield 581 :: r) L (.ref a :: st) (s, V) = zwp (zcall d) m Q r L (V a 5 :: st) (s, V) := by rw [zw]; exact if_pos_z ht
theorem r_pf_581 (ht : s.tg a = 9) : zwp (zcall d) m Q (.putfield 581 :: r) L (.ref b :: .ref a :: st) (s, V) = zwp (zcall d) m Q r L st (s, zput V a 5 (.ref b)) := by rw [zw]; exact if_pos_z ⟨ht, rfl⟩
theorem r_gf_582 (ht : s.tg a = 9) : zwp (zcall d) m Q (.getfield 582 :: r) L (.ref a :: st) (s, V) = zwp (zcall d) m Q r L (V a 6 :: st) (s, V) := by rw [zw]; exact if_pos_z ht
theorem r_pf_582 (ht : s.tg a = 9) : zwp (zcall d) m Q (.putfield 582 :: r) L (.ref b :: .ref a :: st) (s, V) = zwp (zcall d) m Q r L st (s, zput V a 6 (.ref b)) := by rw [zw]; exact if_pos_z ⟨ht, rfl⟩
theorem r_gf_583 (ht : s.tg a = 9) : zwp (zcall d) m Q (.getfield 583 :: r) L (.ref a :: st) (s, V) = zwp (zcall d) m Q r L (V a 7 :: st) (s, V) := by rw [zw]; exact if_pos_z ht
theorem r_pf_583 (ht : s.tg a = 9) : zwp (zcall d) m Q (.putfield 583 :: r) L (.ref b :: .ref a :: st) (s, V) = zwp (zcall d) m Q r L st (s, zput V a 7 (.ref b)) := by rw [zw]; exact if_pos_z ⟨ht, rfl⟩
theorem r_gf_584 (ht : s.tg a = 9) : zwp (zcall d) m Q (.getfield 584 :: r) L (.ref a :: st) (s, V) = zwp (zcall d) m Q r L (V a 8 :: st) (s, V) := by rw [zw]; exact if_pos_z ht
theorem r_pf_584 (ht : s.tg a = 9) : zwp (zcall d) m Q (.putfield 584 :: r) L (.ref b :: .ref a :: st) (s, V) = zwp (zcall d) m Q r L st (s, zput V a 8 (.ref b)) := by rw [zw]; exact if_pos_z ⟨ht, rfl⟩
theorem r_gf_640 (ht : s.tg a = 10) : zwp (zcall d) m Q (.getfield 640 :: r) L (.ref a :: st) (s, V) = zwp (zcall d) m Q r L (V a 0 :: st) (s, V) := by rw [zw]; exact if_pos_z ht
theorem r_pf_640 (ht : s.tg a = 10) : zwp (zcall d) m Q (.putfield 640 :: r) L (.ref b :: .ref a :: st) (s, V) = zwp (zcall d) m Q r L st (s, zput V a 0 (.ref b)) := by rw [zw]; exact if_pos_z ⟨ht, rfl⟩
theorem r_gf_641 (ht : s.tg a = 10) : zwp (zcall d) m Q (.getfield 641 :: r) L (.ref a :: st) (s, V) = zwp (zcall d) m Q r L (V a 1 :: st) (s, V) := by rw [zw]; exact if_pos_z ht
theorem r_pf_641 (ht : s.tg a = 10) : zwp (zcall d) m Q (.putfield 641 :: r) L (.ref b :: .ref a :: st) (s, V) = zwp (zcall d) m Q r L st (s, zput V a 1 (.ref b)) := by rw [zw]; exact if_pos_z ⟨ht, rfl⟩
theorem r_gf_642 (ht : s.tg a = 10) : zwp (zcall d) m Q (.getfield 642 :: r) L (.ref a :: st) (s, V) = zwp (zcall d) m Q r L (V a 2 :: st) (s, V) := by rw [zw]; exact if_pos_z ht
theorem r_pf_642 (ht : s.tg a = 10) : zwp (zcall d) m Q (.putfield 642 :: r) L (.ref b :: .ref a :: st) (s, V) = zwp (zcall d) m Q r L st (s, zput V a 2 (.ref b)) := by rw [zw]; exact if_pos_z ⟨ht, rfl⟩
theorem r_gf_643 (ht : s.tg a = 10) : zwp (zcall d) m Q (.getfield 643 :: r) L (.ref a :: st) (s, V) = zwp (zcall d) m Q r L (V a 3 :: st) (s, V) := by rw [zw]; exact if_pos_z ht
theorem r_pf_643 (ht : s.tg a = 10) : zwp (zcall d) m Q (.putfield 643 :: r) L (zi x :: .ref a :: st) (s, V) = zwp (zcall d) m Q r L st (s, zput V a 3 (zi x)) := by rw [zw]; exact if_pos_z ⟨ht, rfl⟩
theorem r_gf_644 (ht : s.tg a = 10) : zwp (zcall d) m Q (.getfield 644 :: r) L (.ref a :: st) (s, V) = zwp (zcall d) m Q r L (V a 4 :: st) (s, V) := by rw [zw]; exact if_pos_z ht
theorem r_pf_644 (ht : s.tg a = 10) : zwp (zcall d) m Q (.putfield 644 :: r) L (.ref b :: .ref a :: st) (s, V) = zwp (zcall d) m Q r L st (s, zput V a 4 (.ref b)) := by rw [zw]; exact if_pos_z ⟨ht, rfl⟩
theorem r_gf_645 (ht : s.tg a = 10) : zwp (zcall d) m Q (.getfield 645 :: r) L (.ref a :: st) (s, V) = zwp (zcall d) m Q r L (V a 5 :: st) (s, V) := by rw [zw]; exact if_pos_z ht
theorem r_pf_645 (ht : s.tg a = 10) : zwp (zcall d) m Q (.putfield 645 :: r) L (zi x :: .ref a :: st) (s, V) = zwp (zcall d) m Q r L st (s, zput V a 5 (zi x)) := by rw [zw]; exact if_pos_z ⟨ht, rfl⟩
theorem r_gf_646 (ht : s.tg a = 10) : zwp (zcall d) m Q (.getfield 646 :: r) L (.ref a :: st) (s, V) = zwp (zcall d) m Q r L (V a 6 :: st) (s, V) := by rw [zw]; exact if_pos_z ht
theorem r_pf_646 (ht : s.tg a = 10) : zwp (zcall d) m Q (.putfield 646 :: r) L (zi x :: .ref a :: st) (s, V) = zwp (zcall d) m Q r L st (s, zput V a 6 (zi x)) := by rw [zw]; exact if_pos_z ⟨ht, rfl⟩
theorem r_gf_647 (ht : s.tg a = 10) : zwp (zcall d) m Q (.getfield 647 :: r) L (.ref a :: st) (s, V) = zwp (zcall d) m Q r L (V a 7 :: st) (s, V) := by rw [zw]; exact if_pos_z ht
theorem r_pf_647 (ht : s.tg a = 10) : zwp (zcall d) m Q (.putfield 647 :: r) L (.ref b :: .ref a :: st) (s, V) = zwp (zcall d) m Q r L st (s, zput V a 7 (.ref b)) := by rw [zw]; exact if_pos_z ⟨ht, rfl⟩
theorem r_gf_648 (ht : s.tg a = 10) : zwp (zcall d) m Q (.getfield 648 :: r) L (.ref a :: st) (s, V) = zwp (zcall d) m Q r L (V a 8 :: st) (s, V) := by rw [zw]; exact if_pos_z ht
theorem r_pf_648 (ht : s.tg a = 10) : zwp (zcall d) m Q (.putfield 648 :: r) L (.ref b :: .ref a :: st) (s, V) = zwp (zcall d) m Q r L st (s, zput V a 8 (.ref b)) := by rw [zw]; exact if_pos_z ⟨ht, rfl⟩
theorem r_gf_649 (ht : s.tg a = 10) : zwp (zcall d) m Q (.getfield 649 :: r) L (.ref a :: st) (s, V) = zwp (zcall d) m Q r L (V a 9 :: st) (s, V) := by rw [zw]; exact if_pos_z ht
theorem r_pf_649 (ht : s.tg a = 10) : zwp (zcall d) m Q (.putfield 649 :: r) L (zi x :: .ref a :: st) (s, V) = zwp (zcall d) m Q r L st (s, zput V a 9 (zi x)) := by rw [zw]; exact if_pos_z ⟨ht, rfl⟩
theorem r_gf_650 (ht : s.tg a = 10) : zwp (zcall d) m Q (.getfield 650 :: r) L (.ref a :: st) (s, V) = zwp (zcall d) m Q r L (V a 10 :: st) (s, V) := by rw [zw]; exact if_pos_z ht
theorem r_pf_650 (ht : s.tg a = 10) : zwp (zcall d) m Q (.putfield 650 :: r) L (.ref b :: .ref a :: st) (s, V) = zwp (zcall d) m Q r L st (s, zput V a 10 (.ref b)) := by rw [zw]; exact if_pos_z ⟨ht, rfl⟩
theorem r_gf_651 (ht : s.tg a = 10) : zwp (zcall d) m Q (.getfield 651 :: r) L (.ref a :: st) (s, V) = zwp (zcall d) m Q r L (V a 11 :: st) (s, V) := by rw [zw]; exact if_pos_z ht
theorem r_pf_651 (ht : s.tg a = 10) : zwp (zcall d) m Q (.putfield 651 :: r) L (.ref b :: .ref a :: st) (s, V) = zwp (zcall d) m Q r L st (s, zput V a 11 (.ref b)) := by rw [zw]; exact if_pos_z ⟨ht, rfl⟩
theorem r_gf_652 (ht : s.tg a = 10) : zwp (zcall d) m Q (.getfield 652 :: r) L (.ref a :: st) (s, V) = zwp (zcall d) m Q r L (V a 12 :: st) (s, V) := by rw [zw]; exact if_pos_z ht
theorem r_pf_652 (ht : s.tg a = 10) : zwp (zcall d) m Q (.putfield 652 :: r) L (.ref b :: .ref a :: st) (s, V) = zwp (zcall d) m Q r L st (s, zput V a 12 (.ref b)) := by rw [zw]; exact if_pos_z ⟨ht, rfl⟩
theorem r_gf_653 (ht : s.tg a = 10) : zwp (zcall d) m Q (.getfield 653 :: r) L (.ref a :: st) (s, V) = zwp (zcall d) m Q r L (V a 13 :: st) (s, V) := by rw [zw]; exact if_pos_z ht
theorem r_pf_653 (ht : s.tg a = 10) : zwp (zcall d) m Q (.putfield 653 :: r) L (.ref b :: .ref a :: st) (s, V) = zwp (zcall d) m Q r L st (s, zput V a 13 (.ref b)) := by rw [zw]; exact if_pos_z ⟨ht, rfl⟩
theorem r_gf_654 (ht : s.tg a = 10) : zwp (zcall d) m Q (.getfield 654 :: r) L (.ref a :: st) (s, V) = zwp (zcall d) m Q r L (V a 14 :: st) (s, V) := by rw [zw]; exact if_pos_z ht
theorem r_pf_654 (ht : s.tg a = 10) : zwp (zcall d) m Q (.putfield 654 :: r) L (.ref b :: .ref a :: st) (s, V) = zwp (zcall d) m Q r L st (s, zput V a 14 (.ref b)) := by rw [zw]; exact if_pos_z ⟨ht, rfl⟩
theorem r_gf_655 (ht : s.tg a = 10) : zwp (zcall d) m Q (.getfield 655 :: r) L (.ref a :: st) (s, V) = zwp (zcall d) m Q r L (V a 15 :: st) (s, V) := by rw [zw]; exact if_pos_z ht
theorem r_pf_655 (ht : s.tg a = 10) : zwp (zcall d) m Q (.putfield 655 :: r) L (.ref b :: .ref a :: st) (s, V) = zwp (zcall d) m Q r L st (s, zput V a 15 (.ref b)) := by rw [zw]; exact if_pos_z ⟨ht, rfl⟩
theorem r_gf_656 (ht : s.tg a = 10) : zwp (zcall d) m Q (.getfield 656 :: r) L (.ref a :: st) (s, V) = zwp (zcall d) m Q r L (V a 16 :: st) (s, V) := by rw [zw]; exact if_pos_z ht
theorem r_pf_656 (ht : s.tg a = 10) : zwp (zcall d) m Q (.putfield 656 :: r) L (.ref b :: .ref a :: st) (s, V) = zwp (zcall d) m Q r L st (s, zput V a 16 (.ref b)) := by rw [zw]; exact if_pos_z ⟨ht, rfl⟩
theorem r_gf_657 (ht : s.tg a = 10) : zwp (zcall d) m Q (.getfield 657 :: r) L (.ref a :: st) (s, V) = zwp (zcall d) m Q r L (V a 17 :: st) (s, V) := by rw [zw]; exact if_pos_z ht
theorem r_pf_657 (ht : s.tg a = 10) : zwp (zcall d) m Q (.putfield 657 :: r) L (.ref b :: .ref a :: st) (s, V) = zwp (zcall d) m Q r L st (s, zput V a 17 (.ref b)) := by rw [zw]; exact if_pos_z ⟨ht, rfl⟩
theorem r_gf_658 (ht : s.tg a = 10) : zwp (zcall d) m Q (.getfield 658 :: r) L (.ref a :: st) (s, V) = zwp (zcall d) m Q r L (V a 18 :: st) (s, V) := by rw [zw]; exact if_pos_z ht
theorem r_pf_658 (ht : s.tg a = 10) : zwp (zcall d) m Q (.putfield 658 :: r) L (.ref b :: .ref a :: st) (s, V) = zwp (zcall d) m Q r L st (s, zput V a 18 (.ref b)) := by rw [zw]; exact if_pos_z ⟨ht, rfl⟩
theorem r_gf_659 (ht : s.tg a = 10) : zwp (zcall d) m Q (.getfield 659 :: r) L (.ref a :: st) (s, V) = zwp (zcall d) m Q r L (V a 19 :: st) (s, V) := by rw [zw]; exact if_pos_z ht
theorem r_pf_659 (ht : s.tg a = 10) : zwp (zcall d) m Q (.putfield 659 :: r) L (.ref b :: .ref a :: st) (s, V) = zwp (zcall d) m Q r L st (s, zput V a 19 (.ref b)) := by rw [zw]; exact if_pos_z ⟨ht, rfl⟩
theorem r_gf_660 (ht : s.tg a = 10) : zwp (zcall d) m Q (.getfield 660 :: r) L (.ref a :: st) (s, V) = zwp (zcall d) m Q r L (V a 20 :: st) (s, V) := by rw [zw]; exact if_pos_z ht
theorem r_pf_660 (ht : s.tg a = 10) : zwp (zcall d) m Q (.putfield 660 :: r) L (zi x :: .ref a :: st) (s, V) = zwp (zcall d) m Q r L st (s, zput V a 20 (zi x)) := by rw [zw]; exact if_pos_z ⟨ht, rfl⟩
theorem r_gf_661 (ht : s.tg a = 10) : zwp (zcall d) m Q (.getfield 661 :: r) L (.ref a :: st) (s, V) = zwp (zcall d) m Q r L (V a 21 :: st) (s, V) := by rw [zw]; exact if_pos_z ht
theorem r_pf_661 (ht : s.tg a = 10) : zwp (zcall d) m Q (.putfield 661 :: r) L (zi x :: .ref a :: st) (s, V) = zwp (zcall d) m Q r L st (s, zput V a 21 (zi x)) := by rw [zw]; exact if_pos_z ⟨ht, rfl⟩
theorem r_gf_662 (ht : s.tg a = 10) : zwp (zcall d) m Q (.getfield 662 :: r) L (.ref a :: st) (s, V) = zwp (zcall d) m Q r L (V a 22 :: st) (s, V) := by rw [zw]; exact if_pos_z ht
theorem r_pf_662 (ht : s.tg a = 10) : zwp (zcall d) m Q (.putfield 662 :: r) L (zi x :: .ref a :: st) (s, V) = zwp (zcall d) m Q r L st (s, zput V a 22 (zi x)) := by rw [zw]; exact if_pos_z ⟨ht, rfl⟩
theorem r_gf_663 (ht : s.tg a = 10) : zwp (zcall d) m Q (.getfield 663 :: r) L (.ref a :: st) (s, V) = zwp (zcall d) m Q r L (V a 23 :: st) (s, V) := by rw [zw]; exact if_pos_z ht
theorem r_pf_663 (ht : s.tg a = 10) : zwp (zcall d) m Q (.putfield 663 :: r) L (zi x :: .ref a :: st) (s, V) = zwp (zcall d) m Q r L st (s, zput V a 23 (zi x)) := by rw [zw]; exact if_pos_z ⟨ht, rfl⟩
theorem r_gf_664 (ht : s.tg a = 10) : zwp (zcall d) m Q (.getfield 664 :: r) L (.ref a :: st) (s, V) = zwp (zcall d) m Q r L (V a 24 :: st) (s, V) := by rw [zw]; exact if_pos_z ht
theorem r_pf_664 (ht : s.tg a = 10) : zwp (zcall d) m Q (.putfield 664 :: r) L (zi x :: .ref a :: st) (s, V) = zwp (zcall d) m Q r L st (s, zput V a 24 (zi x)) := by rw [zw]; exact if_pos_z ⟨ht, rfl⟩
theorem r_gf_665 (ht : s.tg a = 10) : zwp (zcall d) m Q (.getfield 665 :: r) L (.ref a :: st) (s, V) = zwp (zcall d) m Q r L (V a 25 :: st) (s, V) := by rw [zw]; exact if_pos_z ht
theorem r_pf_665 (ht : s.tg a = 10) : zwp (zcall d) m Q (.putfield 665 :: r) L (zi x :: .ref a :: st) (s, V) = zwp (zcall d) m Q r L st (s, zput V a 25 (zi x)) := by rw [zw]; exact if_pos_z ⟨ht, rfl⟩
theorem r_gf_666 (ht : s.tg a = 10) : zwp (zcall d) m Q (.getfield 666 :: r) L (.ref a :: st) (s, V) = zwp (zcall d) m Q r L (V a 26 :: st) (s, V) := by rw [zw]; exact if_pos_z ht
theorem r_pf_666 (ht : s.tg a = 10) : zwp (zcall d) m Q (.putfield 666 :: r) L (zi x :: .ref a :: st) (s, V) = zwp (zcall d) m Q r L st (s, zput V a 26 (zi x)) := by rw [zw]; exact if_pos_z ⟨ht, rfl⟩
theorem r_gf_667 (ht : s.tg a = 10) : zwp (zcall d) m Q (.getfield 667 :: r) L (.ref a :: st) (s, V) = zwp (zcall d) m Q r L (V a 27 :: st) (s, V) := by rw [zw]; exact if_pos_z ht
theorem r_pf_667 (ht : s.tg a = 10) : zwp (zcall d) m Q (.putfield 667 :: r) L (zi x :: .ref a :: st) (s, V) = zwp (zcall d) m Q r L st (s, zput V a 27 (zi x)) := by rw [zw]; exact if_pos_z ⟨ht, rfl⟩
theorem r_gf_668 (ht : s.tg a = 10) : zwp (zcall d) m Q (.getfield 668 :: r) L (.ref a :: st) (s, V) = zwp (zcall d) m Q r L (V a 28 :: st) (s, V) := by rw [zw]; exact if_pos_z ht
theorem r_pf_668 (ht : s.tg a = 10) : zwp (zcall d) m Q (.putfield 668 :: r) L (.ref b :: .ref a :: st) (s, V) = zwp (zcall d) m Q r L st (s, zput V a 28 (.ref b)) := by rw [zw]; exact if_pos_z ⟨ht, rfl⟩
theorem r_gf_669 (ht : s.tg a = 10) : zwp (zcall d) m Q (.getfield 669 :: r) L (.ref a :: st) (s, V) = zwp (zcall d) m Q r L (V a 29 :: st) (s, V) := by rw [zw]; exact if_pos_z ht
theorem r_pf_669 (ht : s.tg a = 10) : zwp (zcall d) m Q (.putfield 669 :: r) L (.ref b :: .ref a :: st) (s, V) = zwp (zcall d) m Q r L st (s, zput V a 29 (.ref b)) := by rw [zw]; exact if_pos_z ⟨ht, rfl⟩
theorem r_gf_670 (ht : s.tg a = 10) : zwp (zcall d) m Q (.getfield 670 :: r) L (.ref a :: st) (s, V) = zwp (zcall d) m Q r L (V a 30 :: st) (s, V) := by rw [zw]; exact if_pos_z ht
theorem r_pf_670 (ht : s.tg a = 10) : zwp (zcall d) m Q (.putfield 670 :: r) L (.ref b :: .ref a :: st) (s, V) = zwp (zcall d) m Q r L st (s, zput V a 30 (.ref b)) := by rw [zw]; exact if_pos_z ⟨ht, rfl⟩
theorem r_gf_671 (ht : s.tg a = 10) : zwp (zcall d) m Q (.getfield 671 :: r) L (.ref a :: st) (s, V) = zwp (zcall d) m Q r L (V a 31 :: st) (s, V) := by rw [zw]; exact if_pos_z ht
theorem r_pf_671 (ht : s.tg a = 10) : zwp (zcall d) m Q (.putfield 671 :: r) L (.ref b :: .ref a :: st) (s, V) = zwp (zcall d) m Q r L st (s, zput V a 31 (.ref b)) := by rw [zw]; exact if_pos_z ⟨ht, rfl⟩
theorem r_gf_672 (ht : s.tg a = 10) : zwp (zcall d) m Q (.getfield 672 :: r) L (.ref a :: st) (s, V) = zwp (zcall d) m Q r L (V a 32 :: st) (s, V) := by rw [zw]; exact if_pos_z ht
theorem r_pf_672 (ht : s.tg a = 10) : zwp (zcall d) m Q (.putfield 672 :: r) L (.ref b :: .ref a :: st) (s, V) = zwp (zcall d) m Q r L st (s, zput V a 32 (.ref b)) := by rw [zw]; exact if_pos_z ⟨ht, rfl⟩
theorem r_gf_673 (ht : s.tg a = 10) : zwp (zcall d) m Q (.getfield 673 :: r) L (.ref a :: st) (s, V) = zwp (zcall d) m Q r L (V a 33 :: st) (s, V) := by rw [zw]; exact if_pos_z ht
theorem r_pf_673_0 (ht : s.tg a = 10) : zwp (zcall d) m Q (.putfield 673 :: r) L (zi 0 :: .ref a :: st) (s, V) = zwp (zcall d) m Q r L st (s, zput V a 33 (zi 0)) := by rw [zw]; exact if_pos_z ⟨ht, rfl⟩
theorem r_pf_673_1 (ht : s.tg a = 10) : zwp (zcall d) m Q (.putfield 673 :: r) L (zi 1 :: .ref a :: st) (s, V) = zwp (zcall d) m Q r L st (s, zput V a 33 (zi 1)) := by rw [zw]; exact if_pos_z ⟨ht, rfl⟩
theorem r_pf_673 (ht : s.tg a = 10) (hx : x = 0 ∨ x = 1) : zwp (zcall d) m Q (.putfield 673 :: r) L (zi x :: .ref a :: st) (s, V) = zwp (zcall d) m Q r L st (s, zput V a 33 (zi x)) := by rw [zw]; rcases hx with rfl | rfl <;> exact if_pos_z ⟨ht, rfl⟩
theorem r_gf_674 (ht : s.tg a = 10) : zwp (zcall d) m Q (.getfield 674 :: r) L (.ref a :: st) (s, V) = zwp (zcall d) m Q r L (V a 34 :: st) (s, V) := by rw [zw]; exact if_pos_z ht
theorem r_pf_674_0 (ht : s.tg a = 10) : zwp (zcall d) m Q (.putfield 674 :: r) L (zi 0 :: .ref a :: st) (s, V) = zwp (zcall d) m Q r L st (s, zput V a 34 (zi 0)) := by rw [zw]; exact if_pos_z ⟨ht, rfl⟩
theorem r_pf_674_1 (ht : s.tg a = 10) : zwp (zcall d) m Q (.putfield 674 :: r) L (zi 1 :: .ref a :: st) (s, V) = zwp (zcall d) m Q r L st (s, zput V a 34 (zi 1)) := by rw [zw]; exact if_pos_z ⟨ht, rfl⟩
theorem r_pf_674 (ht : s.tg a = 10) (hx : x = 0 ∨ x = 1) : zwp (zcall d) m Q (.putfield 674 :: r) L (zi x :: .ref a :: st) (s, V) = zwp (zcall d) m Q r L st (s, zput V a 34 (zi x)) := by rw [zw]; rcases hx with rfl | rfl <;> exact if_pos_z ⟨ht, rfl⟩
theorem r_gf_675 (ht : s.tg a = 10) : zwp (zcall d) m Q (.getfield 675 :: r) L (.ref a :: st) (s, V) = zwp (zcall d) m Q r L (V a 35 :: st) (s, V) := by rw [zw]; exact if_pos_z ht
theorem r_pf_675 (ht : s.tg a = 10) : zwp (zcall d) m Q (.putfield 675 :: r) L (.ref b :: .ref a :: st) (s, V) = zwp (zcall d) m Q r L st (s, zput V a 35 (.ref b)) := by rw [zw]; exact if_pos_z ⟨ht, rfl⟩
theorem r_gf_676 (ht : s.tg a = 10) : zwp (zcall d) m Q (.getfield 676 :: r) L (.ref a :: st) (s, V) = zwp (zcall d) m Q r L (V a 36 :: st) (s, V) := by rw [zw]; exact if_pos_z ht
theorem r_pf_676 (ht : s.tg a = 10) : zwp (zcall d) m Q (.putfield 676 :: r) L (zi x :: .ref a :: st) (s, V) = zwp (zcall d) m Q r L st (s, zput V a 36 (zi x)) := by rw [zw]; exact if_pos_z ⟨ht, rfl⟩
theorem r_gf_677 (ht : s.tg a = 10) : zwp (zcall d) m Q (.getfield 677 :: r) L (.ref a :: st) (s, V) = zwp (zcall d) m Q r L (V a 37 :: st) (s, V) := by rw [zw]; exact if_pos_z ht
theorem r_pf_677 (ht : s.tg a = 10) : zwp (zcall d) m Q (.putfield 677 :: r) L (.ref b :: .ref a :: st) (s, V) = zwp (zcall d) m Q r L st (s, zput V a 37 (.ref b)) := by rw [zw]; exact if_pos_z ⟨ht, rfl⟩
theorem r_gf_678 (ht : s.tg a = 10) : zwp (zcall d) m Q (.getfield 678 :: r) L (.ref a :: st) (s, V) = zwp (zcall d) m Q r L (V a 38 :: st) (s, V) := by rw [zw]; exact if_pos_z ht
theorem r_pf_678 (ht : s.tg a = 10) : zwp (zcall d) m Q (.putfield 678 :: r) L (.ref b :: .ref a :: st) (s, V) = zwp (zcall d) m Q r L st (s, zput V a 38 (.ref b)) := by rw [zw]; exact if_pos_z ⟨ht, rfl⟩
theorem r_gf_679 (ht : s.tg a = 10) : zwp (zcall d) m Q (.getfield 679 :: r) L (.ref a :: st) (s, V) = zwp (zcall d) m Q r L (V a 39 :: st) (s, V) := by rw [zw]; exact if_pos_z ht
theorem r_pf_679 (ht : s.tg a = 10) : zwp (zcall d) m Q (.putfield 679 :: r) L (.ref b :: .ref a :: st) (s, V) = zwp (zcall d) m Q r L st (s, zput V a 39 (.ref b)) := by rw [zw]; exact if_pos_z ⟨ht, rfl⟩
theorem r_gf_680 (ht : s.tg a = 10) : zwp (zcall d) m Q (.getfield 680 :: r) L (.ref a :: st) (s, V) = zwp (zcall d) m Q r L (V a 40 :: st) (s, V) := by rw [zw]; exact if_pos_z ht
theorem r_pf_680 (ht : s.tg a = 10) : zwp (zcall d) m Q (.putfield 680 :: r) L (zi x :: .ref a :: st) (s, V) = zwp (zcall d) m Q r L st (s, zput V a 40 (zi x)) := by rw [zw]; exact if_pos_z ⟨ht, rfl⟩
theorem r_gf_681 (ht : s.tg a = 10) : zwp (zcall d) m Q (.getfield 681 :: r) L (.ref a :: st) (s, V) = zwp (zcall d) m Q r L (V a 41 :: st) (s, V) := by rw [zw]; exact if_pos_z ht
theorem r_pf_681 (ht : s.tg a = 10) : zwp (zcall d) m Q (.putfield 681 :: r) L (zi x :: .ref a :: st) (s, V) = zwp (zcall d) m Q r L st (s, zput V a 41 (zi x)) := by rw [zw]; exact if_pos_z ⟨ht, rfl⟩
theorem r_gf_682 (ht : s.tg a = 10) : zwp (zcall d) m Q (.getfield 682 :: r) L (.ref a :: st) (s, V) = zwp (zcall d) m Q r L (V a 42 :: st) (s, V) := by rw [zw]; exact if_pos_z ht
theorem r_pf_682 (ht : s.tg a = 10) : zwp (zcall d) m Q (.putfield 682 :: r) L (.ref b :: .ref a :: st) (s, V) = zwp (zcall d) m Q r L st (s, zput V a 42 (.ref b)) := by rw [zw]; exact if_pos_z ⟨ht, rfl⟩
theorem r_gf_683 (ht : s.tg a = 10) : zwp (zcall d) m Q (.getfield 683 :: r) L (.ref a :: st) (s, V) = zwp (zcall d) m Q r L (V a 43 :: st) (s, V) := by rw [zw]; exact if_pos_z ht
theorem r_pf_683 (ht : s.tg a = 10) : zwp (zcall d) m Q (.putfield 683 :: r) L (zl x :: .ref a :: st) (s, V) = zwp (zcall d) m Q r L st (s, zput V a 43 (zl x)) := by rw [zw]; exact if_pos_z ⟨ht, rfl⟩
theorem r_gets : zwp (zcall d) m Q (.getstatic a :: r) L st h = zwp (zcall d) m Q r L (.ref a :: st) h := by rw [zw]; rfl
theorem r_new_0 : zwp (zcall d) m Q (.new 0 :: r) L st (s, V) = zwp (zcall d) m Q r L (.ref s.sz :: st) (s.new 0 0 1, zrow V s.sz (zDf 0)) := by rw [zw]; rfl
theorem r_new_1 : zwp (zcall d) m Q (.new 1 :: r) L st (s, V) = zwp (zcall d) m Q r L (.ref s.sz :: st) (s.new 1 0 3, zrow V s.sz (zDf 1)) := by rw [zw]; rfl
theorem r_new_2 : zwp (zcall d) m Q (.new 2 :: r) L st (s, V) = zwp (zcall d) m Q r L (.ref s.sz :: st) (s.new 2 0 5, zrow V s.sz (zDf 2)) := by rw [zw]; rfl
theorem r_new_3 : zwp (zcall d) m Q (.new 3 :: r) L st (s, V) = zwp (zcall d) m Q r L (.ref s.sz :: st) (s.new 3 0 2, zrow V s.sz (zDf 3)) := by rw [zw]; rfl
theorem r_new_4 : zwp (zcall d) m Q (.new 4 :: r) L st (s, V) = zwp (zcall d) m Q r L (.ref s.sz :: st) (s.new 4 0 4, zrow V s.sz (zDf 4)) := by rw [zw]; rfl
theorem r_new_5 : zwp (zcall d) m Q (.new 5 :: r) L st (s, V) = zwp (zcall d) m Q r L (.ref s.sz :: st) (s.new 5 0 10, zrow V s.sz (zDf 5)) := by rw [zw]; rfl
theorem r_new_7 : zwp (zcall d) m Q (.new 7 :: r) L st (s, V) = zwp (zcall d) m Q r L (.ref s.sz :: st) (s.new 7 0 4, zrow V s.sz (zDf 7)) := by rw [zw]; rfl
theorem r_new_8 : zwp (zcall d) m Q (.new 8 :: r) L st (s, V) = zwp (zcall d) m Q r L (.ref s.sz :: st) (s.new 8 0 4, zrow V s.sz (zDf 8)) := by rw [zw]; rfl
theorem r_new_9 : zwp (zcall d) m Q (.new 9 :: r) L st (s, V) = zwp (zcall d) m Q r L (.ref s.sz :: st) (s.new 9 0 9, zrow V s.sz (zDf 9)) := by rw [zw]; rfl
theorem r_new_10 : zwp (zcall d) m Q (.new 10 :: r) L st (s, V) = zwp (zcall d) m Q r L (.ref s.sz :: st) (s.new 10 0 44, zrow V s.sz (zDf 10)) := by rw [zw]; rfl
theorem r_newa_int (h1 : 0 ≤ n) (h2 : n ≤ 1000000) : zwp (zcall d) m Q (.newarray .int :: r) L (zi n :: st) (s, V) = zwp (zcall d) m Q r L (.ref s.sz :: st) (s.new 20 n n.toNat, zrow V s.sz (fun _ => zi 0)) := by
  have e := z_rng (a := n) (by omega) (by omega)
  rw [zw]
  simp only [zF, zstep, zi, e, h1, h2, true_and, if_true]
  rfl
theorem r_newa_long (h1 : 0 ≤ n) (h2 : n ≤ 1000000) : zwp (zcall d) m Q (.newarray .long :: r) L (zi n :: st) (s, V) = zwp (zcall d) m Q r L (.ref s.sz :: st) (s.new 21 n n.toNat, zrow V s.sz (fun _ => .long 0)) := by
  have e := z_rng (a := n) (by omega) (by omega)
  rw [zw]
  simp only [zF, zstep, zi, e, h1, h2, true_and, if_true]
  rfl
theorem r_newa_double (h1 : 0 ≤ n) (h2 : n ≤ 1000000) : zwp (zcall d) m Q (.newarray .double :: r) L (zi n :: st) (s, V) = zwp (zcall d) m Q r L (.ref s.sz :: st) (s.new 22 n n.toNat, zrow V s.sz (fun _ => .double 0)) := by
  have e := z_rng (a := n) (by omega) (by omega)
  rw [zw]
  simp only [zF, zstep, zi, e, h1, h2, true_and, if_true]
  rfl
theorem r_newa_boolean (h1 : 0 ≤ n) (h2 : n ≤ 1000000) : zwp (zcall d) m Q (.newarray .boolean :: r) L (zi n :: st) (s, V) = zwp (zcall d) m Q r L (.ref s.sz :: st) (s.new 23 n n.toNat, zrow V s.sz (fun _ => zi 0)) := by
  have e := z_rng (a := n) (by omega) (by omega)
  rw [zw]
  simp only [zF, zstep, zi, e, h1, h2, true_and, if_true]
  rfl
theorem r_anew (h1 : 0 ≤ n) (h2 : n ≤ 1000000) : zwp (zcall d) m Q (.anewarray a :: r) L (zi n :: st) (s, V) = zwp (zcall d) m Q r L (.ref s.sz :: st) (s.new 26 n n.toNat, zrow V s.sz (fun _ => .null)) := by
  have e := z_rng (a := n) (by omega) (by omega)
  rw [zw]
  simp only [zF, zstep, zi, e, h1, h2, true_and, if_true]
theorem r_mna_0 (h1 : 0 ≤ n) (h2 : n ≤ 1000000) (h3 : 0 ≤ k) (h4 : k ≤ 1000000) : zwp (zcall d) m Q (.multianewarray 0 2 :: r) L (zi k :: zi n :: st) (s, V) = zwp (zcall d) m Q r L (.ref s.sz :: st) (zHnews (s.new 24 n n.toNat, zrow V s.sz (fun j => .ref (s.sz + 1 + j.toNat))) 20 k (zi 0) n.toNat) := by
  have e := z_rng (a := n) (by omega) (by omega)
  have e2 := z_rng (a := k) (by omega) (by omega)
  rw [zw]
  simp only [zF, zstep, zi, e, e2, h1, h2, h3, h4, true_and, if_true]
  rfl
theorem r_mna_1 (h1 : 0 ≤ n) (h2 : n ≤ 1000000) (h3 : 0 ≤ k) (h4 : k ≤ 1000000) : zwp (zcall d) m Q (.multianewarray 1 2 :: r) L (zi k :: zi n :: st) (s, V) = zwp (zcall d) m Q r L (.ref s.sz :: st) (zHnews (s.new 25 n n.toNat, zrow V s.sz (fun j => .ref (s.sz + 1 + j.toNat))) 21 k (.long 0) n.toNat) := by
  have e := z_rng (a := n) (by omega) (by omega)
  have e2 := z_rng (a := k) (by omega) (by omega)
  rw [zw]
  simp only [zF, zstep, zi, e, e2, h1, h2, h3, h4, true_and, if_true]
  rfl
theorem r_alen (h1 : 20 ≤ s.tg a) (h2 : s.tg a ≤ 32) (h3 : s.ln a ≤ 1000000) : zwp (zcall d) m Q (.arraylength :: r) L (.ref a :: st) (s, V) = zwp (zcall d) m Q r L (zi (s.ln a) :: st) (s, V) := by rw [zw]; exact if_pos_z ⟨h1, h2, h3⟩
theorem r_iaload (ht : s.tg a = 20 ∨ s.tg a = 30 ∨ s.tg a = 32) (h1 : 0 ≤ j) (h2 : j < s.ln a) (h3 : s.ln a ≤ 1000000) : zwp (zcall d) m Q (.iaload :: r) L (zi j :: .ref a :: st) (s, V) = zwp (zcall d) m Q r L (V a j :: st) (s, V) := by
  have e := z_rng (a := j) (by omega) (by omega)
  rw [zw]
  simp only [zF, zstep, zi, zl, e]
  exact if_pos_z ⟨ht, h1, h2⟩
theorem r_laload (ht : s.tg a = 21 ∨ s.tg a = 31) (h1 : 0 ≤ j) (h2 : j < s.ln a) (h3 : s.ln a ≤ 1000000) : zwp (zcall d) m Q (.laload :: r) L (zi j :: .ref a :: st) (s, V) = zwp (zcall d) m Q r L (V a j :: st) (s, V) := by
  have e := z_rng (a := j) (by omega) (by omega)
  rw [zw]
  simp only [zF, zstep, zi, zl, e]
  exact if_pos_z ⟨ht, h1, h2⟩
theorem r_daload (ht : s.tg a = 22) (h1 : 0 ≤ j) (h2 : j < s.ln a) (h3 : s.ln a ≤ 1000000) : zwp (zcall d) m Q (.daload :: r) L (zi j :: .ref a :: st) (s, V) = zwp (zcall d) m Q r L (V a j :: st) (s, V) := by
  have e := z_rng (a := j) (by omega) (by omega)
  rw [zw]
  simp only [zF, zstep, zi, zl, e]
  exact if_pos_z ⟨ht, h1, h2⟩
theorem r_baload (ht : s.tg a = 23) (h1 : 0 ≤ j) (h2 : j < s.ln a) (h3 : s.ln a ≤ 1000000) : zwp (zcall d) m Q (.baload :: r) L (zi j :: .ref a :: st) (s, V) = zwp (zcall d) m Q r L (V a j :: st) (s, V) := by
  have e := z_rng (a := j) (by omega) (by omega)
  rw [zw]
  simp only [zF, zstep, zi, zl, e]
  exact if_pos_z ⟨ht, h1, h2⟩
theorem r_aaload (ht : s.tg a = 24 ∨ s.tg a = 25 ∨ s.tg a = 26) (h1 : 0 ≤ j) (h2 : j < s.ln a) (h3 : s.ln a ≤ 1000000) : zwp (zcall d) m Q (.aaload :: r) L (zi j :: .ref a :: st) (s, V) = zwp (zcall d) m Q r L (V a j :: st) (s, V) := by
  have e := z_rng (a := j) (by omega) (by omega)
  rw [zw]
  simp only [zF, zstep, zi, zl, e]
  exact if_pos_z ⟨ht, h1, h2⟩
theorem r_iastore (ht : s.tg a = 20) (h1 : 0 ≤ j) (h2 : j < s.ln a) (h3 : s.ln a ≤ 1000000) : zwp (zcall d) m Q (.iastore :: r) L (zi x :: zi j :: .ref a :: st) (s, V) = zwp (zcall d) m Q r L st (s, zput V a j (zi x)) := by
  have e := z_rng (a := j) (by omega) (by omega)
  rw [zw]
  simp only [zF, zstep, zi, zl, e]
  exact if_pos_z ⟨ht, h1, h2⟩
theorem r_lastore (ht : s.tg a = 21) (h1 : 0 ≤ j) (h2 : j < s.ln a) (h3 : s.ln a ≤ 1000000) : zwp (zcall d) m Q (.lastore :: r) L (zl x :: zi j :: .ref a :: st) (s, V) = zwp (zcall d) m Q r L st (s, zput V a j (zl x)) := by
  have e := z_rng (a := j) (by omega) (by omega)
  rw [zw]
  simp only [zF, zstep, zi, zl, e]
  exact if_pos_z ⟨ht, h1, h2⟩
theorem r_bastore (ht : s.tg a = 23) (h1 : 0 ≤ j) (h2 : j < s.ln a) (h3 : s.ln a ≤ 1000000) (hx : x = 0 ∨ x = 1) : zwp (zcall d) m Q (.bastore :: r) L (zi x :: zi j :: .ref a :: st) (s, V) = zwp (zcall d) m Q r L st (s, zput V a j (zi x)) := by
  have e := z_rng (a := j) (by omega) (by omega)
  rw [zw]
  simp only [zF, zstep, zi, zl, e]
  exact if_pos_z ⟨ht, h1, h2, by rcases hx with rfl | rfl; exact Or.inl rfl; exact Or.inr rfl⟩
theorem r_aastore (ht : s.tg a = 26) (h1 : 0 ≤ j) (h2 : j < s.ln a) (h3 : s.ln a ≤ 1000000) (hx : s.tg b = 7) : zwp (zcall d) m Q (.aastore :: r) L (.ref b :: zi j :: .ref a :: st) (s, V) = zwp (zcall d) m Q r L st (s, zput V a j (.ref b)) := by
  have e := z_rng (a := j) (by omega) (by omega)
  rw [zw]
  simp only [zF, zstep, zi, zl, e]
  exact if_pos_z ⟨ht, h1, h2, hx⟩
theorem r_lastoreR {u : Int64} (ht : s.tg a = 21) (h1 : 0 ≤ j) (h2 : j < s.ln a) (h3 : s.ln a ≤ 1000000) : zwp (zcall d) m Q (.lastore :: r) L (.long u :: zi j :: .ref a :: st) (s, V) = zwp (zcall d) m Q r L st (s, zput V a j (.long u)) := by
  have e := z_rng (a := j) (by omega) (by omega)
  rw [zw]
  simp only [zF, zstep, zi, zl, e]
  exact if_pos_z ⟨ht, h1, h2⟩
theorem r_dastore {u : UInt64} (ht : s.tg a = 22) (h1 : 0 ≤ j) (h2 : j < s.ln a) (h3 : s.ln a ≤ 1000000) : zwp (zcall d) m Q (.dastore :: r) L (.double u :: zi j :: .ref a :: st) (s, V) = zwp (zcall d) m Q r L st (s, zput V a j (.double u)) := by
  have e := z_rng (a := j) (by omega) (by omega)
  rw [zw]
  simp only [zF, zstep, zi, zl, e]
  exact if_pos_z ⟨ht, h1, h2⟩
theorem r_copy (ht : s.tg a = 20) (ht2 : s.tg b = 20) (h1 : 0 ≤ n) (h2 : 0 ≤ j) (h3 : 0 ≤ k) (h4 : j + n ≤ s.ln a) (h5 : k + n ≤ s.ln b) (h6 : s.ln a ≤ 1000000) (h7 : s.ln b ≤ 1000000) : zwp (zcall d) m Q (.pop2 :: r) L (zi n :: zi k :: .ref b :: zi j :: .ref a :: st) (s, V) = zwp (zcall d) m Q r L st (s, zrow V b (fun i => if k ≤ i ∧ i < k + n then V a (j + (i - k)) else V b i)) := by
  have e1 := z_rng (a := n) (by omega) (by omega)
  have e2 := z_rng (a := j) (by omega) (by omega)
  have e3 := z_rng (a := k) (by omega) (by omega)
  rw [zw]
  simp only [zF, zstep, zi, e1, e2, e3]
  exact if_pos_z ⟨ht, ht2, h1, h2, h3, h4, h5⟩
theorem r_inv_0_0 : zwp (zcall d) m Q (.invokeinterface a 0 :: r) L [] h = zcall d a [] h (zK m Q (zwp (zcall d) m Q) r L []) := by rw [zw]; exact z_and2 (Nat.le_of_ble_eq_true rfl) (Nat.le_of_ble_eq_true rfl)
theorem r_inv_0_1 {w0 : Value} : zwp (zcall d) m Q (.invokeinterface a 0 :: r) L [w0] h = zcall d a [] h (zK m Q (zwp (zcall d) m Q) r L [w0]) := by rw [zw]; exact z_and2 (Nat.le_of_ble_eq_true rfl) (Nat.le_of_ble_eq_true rfl)
theorem r_inv_0_2 {w0 w1 : Value} : zwp (zcall d) m Q (.invokeinterface a 0 :: r) L [w0, w1] h = zcall d a [] h (zK m Q (zwp (zcall d) m Q) r L [w0, w1]) := by rw [zw]; exact z_and2 (Nat.le_of_ble_eq_true rfl) (Nat.le_of_ble_eq_true rfl)
theorem r_inv_0_3 {w0 w1 w2 : Value} : zwp (zcall d) m Q (.invokeinterface a 0 :: r) L [w0, w1, w2] h = zcall d a [] h (zK m Q (zwp (zcall d) m Q) r L [w0, w1, w2]) := by rw [zw]; exact z_and2 (Nat.le_of_ble_eq_true rfl) (Nat.le_of_ble_eq_true rfl)
theorem r_inv_0_4 {w0 w1 w2 w3 : Value} : zwp (zcall d) m Q (.invokeinterface a 0 :: r) L [w0, w1, w2, w3] h = zcall d a [] h (zK m Q (zwp (zcall d) m Q) r L [w0, w1, w2, w3]) := by rw [zw]; exact z_and2 (Nat.le_of_ble_eq_true rfl) (Nat.le_of_ble_eq_true rfl)
theorem r_inv_1_0 : zwp (zcall d) m Q (.invokeinterface a 1 :: r) L [v0] h = zcall d a [v0] h (zK m Q (zwp (zcall d) m Q) r L []) := by rw [zw]; exact z_and2 (Nat.le_of_ble_eq_true rfl) (Nat.le_of_ble_eq_true rfl)
theorem r_inv_1_1 {w0 : Value} : zwp (zcall d) m Q (.invokeinterface a 1 :: r) L [v0, w0] h = zcall d a [v0] h (zK m Q (zwp (zcall d) m Q) r L [w0]) := by rw [zw]; exact z_and2 (Nat.le_of_ble_eq_true rfl) (Nat.le_of_ble_eq_true rfl)
theorem r_inv_1_2 {w0 w1 : Value} : zwp (zcall d) m Q (.invokeinterface a 1 :: r) L [v0, w0, w1] h = zcall d a [v0] h (zK m Q (zwp (zcall d) m Q) r L [w0, w1]) := by rw [zw]; exact z_and2 (Nat.le_of_ble_eq_true rfl) (Nat.le_of_ble_eq_true rfl)
theorem r_inv_1_3 {w0 w1 w2 : Value} : zwp (zcall d) m Q (.invokeinterface a 1 :: r) L [v0, w0, w1, w2] h = zcall d a [v0] h (zK m Q (zwp (zcall d) m Q) r L [w0, w1, w2]) := by rw [zw]; exact z_and2 (Nat.le_of_ble_eq_true rfl) (Nat.le_of_ble_eq_true rfl)
theorem r_inv_1_4 {w0 w1 w2 w3 : Value} : zwp (zcall d) m Q (.invokeinterface a 1 :: r) L [v0, w0, w1, w2, w3] h = zcall d a [v0] h (zK m Q (zwp (zcall d) m Q) r L [w0, w1, w2, w3]) := by rw [zw]; exact z_and2 (Nat.le_of_ble_eq_true rfl) (Nat.le_of_ble_eq_true rfl)
theorem r_inv_2_0 : zwp (zcall d) m Q (.invokeinterface a 2 :: r) L [v1, v0] h = zcall d a [v0, v1] h (zK m Q (zwp (zcall d) m Q) r L []) := by rw [zw]; exact z_and2 (Nat.le_of_ble_eq_true rfl) (Nat.le_of_ble_eq_true rfl)
theorem r_inv_2_1 {w0 : Value} : zwp (zcall d) m Q (.invokeinterface a 2 :: r) L [v1, v0, w0] h = zcall d a [v0, v1] h (zK m Q (zwp (zcall d) m Q) r L [w0]) := by rw [zw]; exact z_and2 (Nat.le_of_ble_eq_true rfl) (Nat.le_of_ble_eq_true rfl)
theorem r_inv_2_2 {w0 w1 : Value} : zwp (zcall d) m Q (.invokeinterface a 2 :: r) L [v1, v0, w0, w1] h = zcall d a [v0, v1] h (zK m Q (zwp (zcall d) m Q) r L [w0, w1]) := by rw [zw]; exact z_and2 (Nat.le_of_ble_eq_true rfl) (Nat.le_of_ble_eq_true rfl)
theorem r_inv_2_3 {w0 w1 w2 : Value} : zwp (zcall d) m Q (.invokeinterface a 2 :: r) L [v1, v0, w0, w1, w2] h = zcall d a [v0, v1] h (zK m Q (zwp (zcall d) m Q) r L [w0, w1, w2]) := by rw [zw]; exact z_and2 (Nat.le_of_ble_eq_true rfl) (Nat.le_of_ble_eq_true rfl)
theorem r_inv_2_4 {w0 w1 w2 w3 : Value} : zwp (zcall d) m Q (.invokeinterface a 2 :: r) L [v1, v0, w0, w1, w2, w3] h = zcall d a [v0, v1] h (zK m Q (zwp (zcall d) m Q) r L [w0, w1, w2, w3]) := by rw [zw]; exact z_and2 (Nat.le_of_ble_eq_true rfl) (Nat.le_of_ble_eq_true rfl)
theorem r_inv_3_0 : zwp (zcall d) m Q (.invokeinterface a 3 :: r) L [v2, v1, v0] h = zcall d a [v0, v1, v2] h (zK m Q (zwp (zcall d) m Q) r L []) := by rw [zw]; exact z_and2 (Nat.le_of_ble_eq_true rfl) (Nat.le_of_ble_eq_true rfl)
theorem r_inv_3_1 {w0 : Value} : zwp (zcall d) m Q (.invokeinterface a 3 :: r) L [v2, v1, v0, w0] h = zcall d a [v0, v1, v2] h (zK m Q (zwp (zcall d) m Q) r L [w0]) := by rw [zw]; exact z_and2 (Nat.le_of_ble_eq_true rfl) (Nat.le_of_ble_eq_true rfl)
theorem r_inv_3_2 {w0 w1 : Value} : zwp (zcall d) m Q (.invokeinterface a 3 :: r) L [v2, v1, v0, w0, w1] h = zcall d a [v0, v1, v2] h (zK m Q (zwp (zcall d) m Q) r L [w0, w1]) := by rw [zw]; exact z_and2 (Nat.le_of_ble_eq_true rfl) (Nat.le_of_ble_eq_true rfl)
theorem r_inv_3_3 {w0 w1 w2 : Value} : zwp (zcall d) m Q (.invokeinterface a 3 :: r) L [v2, v1, v0, w0, w1, w2] h = zcall d a [v0, v1, v2] h (zK m Q (zwp (zcall d) m Q) r L [w0, w1, w2]) := by rw [zw]; exact z_and2 (Nat.le_of_ble_eq_true rfl) (Nat.le_of_ble_eq_true rfl)
theorem r_inv_3_4 {w0 w1 w2 w3 : Value} : zwp (zcall d) m Q (.invokeinterface a 3 :: r) L [v2, v1, v0, w0, w1, w2, w3] h = zcall d a [v0, v1, v2] h (zK m Q (zwp (zcall d) m Q) r L [w0, w1, w2, w3]) := by rw [zw]; exact z_and2 (Nat.le_of_ble_eq_true rfl) (Nat.le_of_ble_eq_true rfl)
theorem r_inv_4_0 : zwp (zcall d) m Q (.invokeinterface a 4 :: r) L [v3, v2, v1, v0] h = zcall d a [v0, v1, v2, v3] h (zK m Q (zwp (zcall d) m Q) r L []) := by rw [zw]; exact z_and2 (Nat.le_of_ble_eq_true rfl) (Nat.le_of_ble_eq_true rfl)
theorem r_inv_4_1 {w0 : Value} : zwp (zcall d) m Q (.invokeinterface a 4 :: r) L [v3, v2, v1, v0, w0] h = zcall d a [v0, v1, v2, v3] h (zK m Q (zwp (zcall d) m Q) r L [w0]) := by rw [zw]; exact z_and2 (Nat.le_of_ble_eq_true rfl) (Nat.le_of_ble_eq_true rfl)
theorem r_inv_4_2 {w0 w1 : Value} : zwp (zcall d) m Q (.invokeinterface a 4 :: r) L [v3, v2, v1, v0, w0, w1] h = zcall d a [v0, v1, v2, v3] h (zK m Q (zwp (zcall d) m Q) r L [w0, w1]) := by rw [zw]; exact z_and2 (Nat.le_of_ble_eq_true rfl) (Nat.le_of_ble_eq_true rfl)
theorem r_inv_4_3 {w0 w1 w2 : Value} : zwp (zcall d) m Q (.invokeinterface a 4 :: r) L [v3, v2, v1, v0, w0, w1, w2] h = zcall d a [v0, v1, v2, v3] h (zK m Q (zwp (zcall d) m Q) r L [w0, w1, w2]) := by rw [zw]; exact z_and2 (Nat.le_of_ble_eq_true rfl) (Nat.le_of_ble_eq_true rfl)
theorem r_inv_4_4 {w0 w1 w2 w3 : Value} : zwp (zcall d) m Q (.invokeinterface a 4 :: r) L [v3, v2, v1, v0, w0, w1, w2, w3] h = zcall d a [v0, v1, v2, v3] h (zK m Q (zwp (zcall d) m Q) r L [w0, w1, w2, w3]) := by rw [zw]; exact z_and2 (Nat.le_of_ble_eq_true rfl) (Nat.le_of_ble_eq_true rfl)
theorem r_inv_5_0 : zwp (zcall d) m Q (.invokeinterface a 5 :: r) L [v4, v3, v2, v1, v0] h = zcall d a [v0, v1, v2, v3, v4] h (zK m Q (zwp (zcall d) m Q) r L []) := by rw [zw]; exact z_and2 (Nat.le_of_ble_eq_true rfl) (Nat.le_of_ble_eq_true rfl)
theorem r_inv_5_1 {w0 : Value} : zwp (zcall d) m Q (.invokeinterface a 5 :: r) L [v4, v3, v2, v1, v0, w0] h = zcall d a [v0, v1, v2, v3, v4] h (zK m Q (zwp (zcall d) m Q) r L [w0]) := by rw [zw]; exact z_and2 (Nat.le_of_ble_eq_true rfl) (Nat.le_of_ble_eq_true rfl)
theorem r_inv_5_2 {w0 w1 : Value} : zwp (zcall d) m Q (.invokeinterface a 5 :: r) L [v4, v3, v2, v1, v0, w0, w1] h = zcall d a [v0, v1, v2, v3, v4] h (zK m Q (zwp (zcall d) m Q) r L [w0, w1]) := by rw [zw]; exact z_and2 (Nat.le_of_ble_eq_true rfl) (Nat.le_of_ble_eq_true rfl)
theorem r_inv_5_3 {w0 w1 w2 : Value} : zwp (zcall d) m Q (.invokeinterface a 5 :: r) L [v4, v3, v2, v1, v0, w0, w1, w2] h = zcall d a [v0, v1, v2, v3, v4] h (zK m Q (zwp (zcall d) m Q) r L [w0, w1, w2]) := by rw [zw]; exact z_and2 (Nat.le_of_ble_eq_true rfl) (Nat.le_of_ble_eq_true rfl)
theorem r_inv_5_4 {w0 w1 w2 w3 : Value} : zwp (zcall d) m Q (.invokeinterface a 5 :: r) L [v4, v3, v2, v1, v0, w0, w1, w2, w3] h = zcall d a [v0, v1, v2, v3, v4] h (zK m Q (zwp (zcall d) m Q) r L [w0, w1, w2, w3]) := by rw [zw]; exact z_and2 (Nat.le_of_ble_eq_true rfl) (Nat.le_of_ble_eq_true rfl)
theorem r_inv_6_0 : zwp (zcall d) m Q (.invokeinterface a 6 :: r) L [v5, v4, v3, v2, v1, v0] h = zcall d a [v0, v1, v2, v3, v4, v5] h (zK m Q (zwp (zcall d) m Q) r L []) := by rw [zw]; exact z_and2 (Nat.le_of_ble_eq_true rfl) (Nat.le_of_ble_eq_true rfl)
theorem r_inv_6_1 {w0 : Value} : zwp (zcall d) m Q (.invokeinterface a 6 :: r) L [v5, v4, v3, v2, v1, v0, w0] h = zcall d a [v0, v1, v2, v3, v4, v5] h (zK m Q (zwp (zcall d) m Q) r L [w0]) := by rw [zw]; exact z_and2 (Nat.le_of_ble_eq_true rfl) (Nat.le_of_ble_eq_true rfl)
theorem r_inv_6_2 {w0 w1 : Value} : zwp (zcall d) m Q (.invokeinterface a 6 :: r) L [v5, v4, v3, v2, v1, v0, w0, w1] h = zcall d a [v0, v1, v2, v3, v4, v5] h (zK m Q (zwp (zcall d) m Q) r L [w0, w1]) := by rw [zw]; exact z_and2 (Nat.le_of_ble_eq_true rfl) (Nat.le_of_ble_eq_true rfl)
theorem r_inv_6_3 {w0 w1 w2 : Value} : zwp (zcall d) m Q (.invokeinterface a 6 :: r) L [v5, v4, v3, v2, v1, v0, w0, w1, w2] h = zcall d a [v0, v1, v2, v3, v4, v5] h (zK m Q (zwp (zcall d) m Q) r L [w0, w1, w2]) := by rw [zw]; exact z_and2 (Nat.le_of_ble_eq_true rfl) (Nat.le_of_ble_eq_true rfl)
theorem r_inv_6_4 {w0 w1 w2 w3 : Value} : zwp (zcall d) m Q (.invokeinterface a 6 :: r) L [v5, v4, v3, v2, v1, v0, w0, w1, w2, w3] h = zcall d a [v0, v1, v2, v3, v4, v5] h (zK m Q (zwp (zcall d) m Q) r L [w0, w1, w2, w3]) := by rw [zw]; exact z_and2 (Nat.le_of_ble_eq_true rfl) (Nat.le_of_ble_eq_true rfl)
theorem r_inv_7_0 : zwp (zcall d) m Q (.invokeinterface a 7 :: r) L [v6, v5, v4, v3, v2, v1, v0] h = zcall d a [v0, v1, v2, v3, v4, v5, v6] h (zK m Q (zwp (zcall d) m Q) r L []) := by rw [zw]; exact z_and2 (Nat.le_of_ble_eq_true rfl) (Nat.le_of_ble_eq_true rfl)
theorem r_inv_7_1 {w0 : Value} : zwp (zcall d) m Q (.invokeinterface a 7 :: r) L [v6, v5, v4, v3, v2, v1, v0, w0] h = zcall d a [v0, v1, v2, v3, v4, v5, v6] h (zK m Q (zwp (zcall d) m Q) r L [w0]) := by rw [zw]; exact z_and2 (Nat.le_of_ble_eq_true rfl) (Nat.le_of_ble_eq_true rfl)
theorem r_inv_7_2 {w0 w1 : Value} : zwp (zcall d) m Q (.invokeinterface a 7 :: r) L [v6, v5, v4, v3, v2, v1, v0, w0, w1] h = zcall d a [v0, v1, v2, v3, v4, v5, v6] h (zK m Q (zwp (zcall d) m Q) r L [w0, w1]) := by rw [zw]; exact z_and2 (Nat.le_of_ble_eq_true rfl) (Nat.le_of_ble_eq_true rfl)
theorem r_inv_7_3 {w0 w1 w2 : Value} : zwp (zcall d) m Q (.invokeinterface a 7 :: r) L [v6, v5, v4, v3, v2, v1, v0, w0, w1, w2] h = zcall d a [v0, v1, v2, v3, v4, v5, v6] h (zK m Q (zwp (zcall d) m Q) r L [w0, w1, w2]) := by rw [zw]; exact z_and2 (Nat.le_of_ble_eq_true rfl) (Nat.le_of_ble_eq_true rfl)
theorem r_inv_7_4 {w0 w1 w2 w3 : Value} : zwp (zcall d) m Q (.invokeinterface a 7 :: r) L [v6, v5, v4, v3, v2, v1, v0, w0, w1, w2, w3] h = zcall d a [v0, v1, v2, v3, v4, v5, v6] h (zK m Q (zwp (zcall d) m Q) r L [w0, w1, w2, w3]) := by rw [zw]; exact z_and2 (Nat.le_of_ble_eq_true rfl) (Nat.le_of_ble_eq_true rfl)
theorem r_disp_0_0_0 (ht : s.tg a = 0) : zwp (zcall d) m Q (.invokevirtual 0 :: r) L [v5, v4, v3, v2, v1, .ref a] (s, V) = zcall d 3 [.ref a, v1, v2, v3, v4, v5] (s, V) (zK m Q (zwp (zcall d) m Q) r L []) := by
  rw [zw]
  refine propext ⟨fun q => ?_, fun q => ⟨Nat.le_of_ble_eq_true rfl, Nat.le_of_ble_eq_true rfl, a, 3, rfl, by show zDisp 0 (s.tg a) = _; rw [ht]; rfl, q⟩⟩
  obtain ⟨-, -, b, y, e1, e2, q⟩ := q
  cases e1
  have e2 : zDisp 0 (s.tg a) = some y := e2
  rw [ht] at e2
  cases e2
  exact q
theorem r_disp_0_0_1 {w0 : Value} (ht : s.tg a = 0) : zwp (zcall d) m Q (.invokevirtual 0 :: r) L [v5, v4, v3, v2, v1, .ref a, w0] (s, V) = zcall d 3 [.ref a, v1, v2, v3, v4, v5] (s, V) (zK m Q (zwp (zcall d) m Q) r L [w0]) := by
  rw [zw]
  refine propext ⟨fun q => ?_, fun q => ⟨Nat.le_of_ble_eq_true rfl, Nat.le_of_ble_eq_true rfl, a, 3, rfl, by show zDisp 0 (s.tg a) = _; rw [ht]; rfl, q⟩⟩
  obtain ⟨-, -, b, y, e1, e2, q⟩ := q
  cases e1
  have e2 : zDisp 0 (s.tg a) = some y := e2
  rw [ht] at e2
  cases e2
  exact q
theorem r_disp_0_0_2 {w0 w1 : Value} (ht : s.tg a = 0) : zwp (zcall d) m Q (.invokevirtual 0 :: r) L [v5, v4, v3, v2, v1, .ref a, w0, w1] (s, V) = zcall d 3 [.ref a, v1, v2, v3, v4, v5] (s, V) (zK m Q (zwp (zcall d) m Q) r L [w0, w1]) := by
  rw [zw]
  refine propext ⟨fun q => ?_, fun q => ⟨Nat.le_of_ble_eq_true rfl, Nat.le_of_ble_eq_true rfl, a, 3, rfl, by show zDisp 0 (s.tg a) = _; rw [ht]; rfl, q⟩⟩
  obtain ⟨-, -, b, y, e1, e2, q⟩ := q
  cases e1
  have e2 : zDisp 0 (s.tg a) = some y := e2
  rw [ht] at e2
  cases e2
  exact q
theorem r_disp_0_5_0 (ht : s.tg a = 5) : zwp (zcall d) m Q (.invokevirtual 0 :: r) L [v5, v4, v3, v2, v1, .ref a] (s, V) = zcall d 48 [.ref a, v1, v2, v3, v4, v5] (s, V) (zK m Q (zwp (zcall d) m Q) r L []) := by
  rw [zw]
  refine propext ⟨fun q => ?_, fun q => ⟨Nat.le_of_ble_eq_true rfl, Nat.le_of_ble_eq_true rfl, a, 48, rfl, by show zDisp 0 (s.tg a) = _; rw [ht]; rfl, q⟩⟩
  obtain ⟨-, -, b, y, e1, e2, q⟩ := q
  cases e1
  have e2 : zDisp 0 (s.tg a) = some y := e2
  rw [ht] at e2
  cases e2
  exact q
theorem r_disp_0_5_1 {w0 : Value} (ht : s.tg a = 5) : zwp (zcall d) m Q (.invokevirtual 0 :: r) L [v5, v4, v3, v2, v1, .ref a, w0] (s, V) = zcall d 48 [.ref a, v1, v2, v3, v4, v5] (s, V) (zK m Q (zwp (zcall d) m Q) r L [w0]) := by
  rw [zw]
  refine propext ⟨fun q => ?_, fun q => ⟨Nat.le_of_ble_eq_true rfl, Nat.le_of_ble_eq_true rfl, a, 48, rfl, by show zDisp 0 (s.tg a) = _; rw [ht]; rfl, q⟩⟩
  obtain ⟨-, -, b, y, e1, e2, q⟩ := q
  cases e1
  have e2 : zDisp 0 (s.tg a) = some y := e2
  rw [ht] at e2
  cases e2
  exact q
theorem r_disp_0_5_2 {w0 w1 : Value} (ht : s.tg a = 5) : zwp (zcall d) m Q (.invokevirtual 0 :: r) L [v5, v4, v3, v2, v1, .ref a, w0, w1] (s, V) = zcall d 48 [.ref a, v1, v2, v3, v4, v5] (s, V) (zK m Q (zwp (zcall d) m Q) r L [w0, w1]) := by
  rw [zw]
  refine propext ⟨fun q => ?_, fun q => ⟨Nat.le_of_ble_eq_true rfl, Nat.le_of_ble_eq_true rfl, a, 48, rfl, by show zDisp 0 (s.tg a) = _; rw [ht]; rfl, q⟩⟩
  obtain ⟨-, -, b, y, e1, e2, q⟩ := q
  cases e1
  have e2 : zDisp 0 (s.tg a) = some y := e2
  rw [ht] at e2
  cases e2
  exact q
theorem r_disp_1_0_0 (ht : s.tg a = 0) : zwp (zcall d) m Q (.invokevirtual 1 :: r) L [v4, v3, v2, v1, .ref a] (s, V) = zcall d 4 [.ref a, v1, v2, v3, v4] (s, V) (zK m Q (zwp (zcall d) m Q) r L []) := by
  rw [zw]
  refine propext ⟨fun q => ?_, fun q => ⟨Nat.le_of_ble_eq_true rfl, Nat.le_of_ble_eq_true rfl, a, 4, rfl, by show zDisp 1 (s.tg a) = _; rw [ht]; rfl, q⟩⟩
  obtain ⟨-, -, b, y, e1, e2, q⟩ := q
  cases e1
  have e2 : zDisp 1 (s.tg a) = some y := e2
  rw [ht] at e2
  cases e2
  exact q
theorem r_disp_1_0_1 {w0 : Value} (ht : s.tg a = 0) : zwp (zcall d) m Q (.invokevirtual 1 :: r) L [v4, v3, v2, v1, .ref a, w0] (s, V) = zcall d 4 [.ref a, v1, v2, v3, v4] (s, V) (zK m Q (zwp (zcall d) m Q) r L [w0]) := by
  rw [zw]
  refine propext ⟨fun q => ?_, fun q => ⟨Nat.le_of_ble_eq_true rfl, Nat.le_of_ble_eq_true rfl, a, 4, rfl, by show zDisp 1 (s.tg a) = _; rw [ht]; rfl, q⟩⟩
  obtain ⟨-, -, b, y, e1, e2, q⟩ := q
  cases e1
  have e2 : zDisp 1 (s.tg a) = some y := e2
  rw [ht] at e2
  cases e2
  exact q
theorem r_disp_1_0_2 {w0 w1 : Value} (ht : s.tg a = 0) : zwp (zcall d) m Q (.invokevirtual 1 :: r) L [v4, v3, v2, v1, .ref a, w0, w1] (s, V) = zcall d 4 [.ref a, v1, v2, v3, v4] (s, V) (zK m Q (zwp (zcall d) m Q) r L [w0, w1]) := by
  rw [zw]
  refine propext ⟨fun q => ?_, fun q => ⟨Nat.le_of_ble_eq_true rfl, Nat.le_of_ble_eq_true rfl, a, 4, rfl, by show zDisp 1 (s.tg a) = _; rw [ht]; rfl, q⟩⟩
  obtain ⟨-, -, b, y, e1, e2, q⟩ := q
  cases e1
  have e2 : zDisp 1 (s.tg a) = some y := e2
  rw [ht] at e2
  cases e2
  exact q
theorem r_disp_1_5_0 (ht : s.tg a = 5) : zwp (zcall d) m Q (.invokevirtual 1 :: r) L [v4, v3, v2, v1, .ref a] (s, V) = zcall d 50 [.ref a, v1, v2, v3, v4] (s, V) (zK m Q (zwp (zcall d) m Q) r L []) := by
  rw [zw]
  refine propext ⟨fun q => ?_, fun q => ⟨Nat.le_of_ble_eq_true rfl, Nat.le_of_ble_eq_true rfl, a, 50, rfl, by show zDisp 1 (s.tg a) = _; rw [ht]; rfl, q⟩⟩
  obtain ⟨-, -, b, y, e1, e2, q⟩ := q
  cases e1
  have e2 : zDisp 1 (s.tg a) = some y := e2
  rw [ht] at e2
  cases e2
  exact q
theorem r_disp_1_5_1 {w0 : Value} (ht : s.tg a = 5) : zwp (zcall d) m Q (.invokevirtual 1 :: r) L [v4, v3, v2, v1, .ref a, w0] (s, V) = zcall d 50 [.ref a, v1, v2, v3, v4] (s, V) (zK m Q (zwp (zcall d) m Q) r L [w0]) := by
  rw [zw]
  refine propext ⟨fun q => ?_, fun q => ⟨Nat.le_of_ble_eq_true rfl, Nat.le_of_ble_eq_true rfl, a, 50, rfl, by show zDisp 1 (s.tg a) = _; rw [ht]; rfl, q⟩⟩
  obtain ⟨-, -, b, y, e1, e2, q⟩ := q
  cases e1
  have e2 : zDisp 1 (s.tg a) = some y := e2
  rw [ht] at e2
  cases e2
  exact q
theorem r_disp_1_5_2 {w0 w1 : Value} (ht : s.tg a = 5) : zwp (zcall d) m Q (.invokevirtual 1 :: r) L [v4, v3, v2, v1, .ref a, w0, w1] (s, V) = zcall d 50 [.ref a, v1, v2, v3, v4] (s, V) (zK m Q (zwp (zcall d) m Q) r L [w0, w1]) := by
  rw [zw]
  refine propext ⟨fun q => ?_, fun q => ⟨Nat.le_of_ble_eq_true rfl, Nat.le_of_ble_eq_true rfl, a, 50, rfl, by show zDisp 1 (s.tg a) = _; rw [ht]; rfl, q⟩⟩
  obtain ⟨-, -, b, y, e1, e2, q⟩ := q
  cases e1
  have e2 : zDisp 1 (s.tg a) = some y := e2
  rw [ht] at e2
  cases e2
  exact q
theorem r_disp_2_0_0 (ht : s.tg a = 0) : zwp (zcall d) m Q (.invokevirtual 2 :: r) L [.ref a] (s, V) = zcall d 5 [.ref a] (s, V) (zK m Q (zwp (zcall d) m Q) r L []) := by
  rw [zw]
  refine propext ⟨fun q => ?_, fun q => ⟨Nat.le_of_ble_eq_true rfl, Nat.le_of_ble_eq_true rfl, a, 5, rfl, by show zDisp 2 (s.tg a) = _; rw [ht]; rfl, q⟩⟩
  obtain ⟨-, -, b, y, e1, e2, q⟩ := q
  cases e1
  have e2 : zDisp 2 (s.tg a) = some y := e2
  rw [ht] at e2
  cases e2
  exact q
theorem r_disp_2_0_1 {w0 : Value} (ht : s.tg a = 0) : zwp (zcall d) m Q (.invokevirtual 2 :: r) L [.ref a, w0] (s, V) = zcall d 5 [.ref a] (s, V) (zK m Q (zwp (zcall d) m Q) r L [w0]) := by
  rw [zw]
  refine propext ⟨fun q => ?_, fun q => ⟨Nat.le_of_ble_eq_true rfl, Nat.le_of_ble_eq_true rfl, a, 5, rfl, by show zDisp 2 (s.tg a) = _; rw [ht]; rfl, q⟩⟩
  obtain ⟨-, -, b, y, e1, e2, q⟩ := q
  cases e1
  have e2 : zDisp 2 (s.tg a) = some y := e2
  rw [ht] at e2
  cases e2
  exact q
theorem r_disp_2_0_2 {w0 w1 : Value} (ht : s.tg a = 0) : zwp (zcall d) m Q (.invokevirtual 2 :: r) L [.ref a, w0, w1] (s, V) = zcall d 5 [.ref a] (s, V) (zK m Q (zwp (zcall d) m Q) r L [w0, w1]) := by
  rw [zw]
  refine propext ⟨fun q => ?_, fun q => ⟨Nat.le_of_ble_eq_true rfl, Nat.le_of_ble_eq_true rfl, a, 5, rfl, by show zDisp 2 (s.tg a) = _; rw [ht]; rfl, q⟩⟩
  obtain ⟨-, -, b, y, e1, e2, q⟩ := q
  cases e1
  have e2 : zDisp 2 (s.tg a) = some y := e2
  rw [ht] at e2
  cases e2
  exact q
theorem r_disp_2_5_0 (ht : s.tg a = 5) : zwp (zcall d) m Q (.invokevirtual 2 :: r) L [.ref a] (s, V) = zcall d 51 [.ref a] (s, V) (zK m Q (zwp (zcall d) m Q) r L []) := by
  rw [zw]
  refine propext ⟨fun q => ?_, fun q => ⟨Nat.le_of_ble_eq_true rfl, Nat.le_of_ble_eq_true rfl, a, 51, rfl, by show zDisp 2 (s.tg a) = _; rw [ht]; rfl, q⟩⟩
  obtain ⟨-, -, b, y, e1, e2, q⟩ := q
  cases e1
  have e2 : zDisp 2 (s.tg a) = some y := e2
  rw [ht] at e2
  cases e2
  exact q
theorem r_disp_2_5_1 {w0 : Value} (ht : s.tg a = 5) : zwp (zcall d) m Q (.invokevirtual 2 :: r) L [.ref a, w0] (s, V) = zcall d 51 [.ref a] (s, V) (zK m Q (zwp (zcall d) m Q) r L [w0]) := by
  rw [zw]
  refine propext ⟨fun q => ?_, fun q => ⟨Nat.le_of_ble_eq_true rfl, Nat.le_of_ble_eq_true rfl, a, 51, rfl, by show zDisp 2 (s.tg a) = _; rw [ht]; rfl, q⟩⟩
  obtain ⟨-, -, b, y, e1, e2, q⟩ := q
  cases e1
  have e2 : zDisp 2 (s.tg a) = some y := e2
  rw [ht] at e2
  cases e2
  exact q
theorem r_disp_2_5_2 {w0 w1 : Value} (ht : s.tg a = 5) : zwp (zcall d) m Q (.invokevirtual 2 :: r) L [.ref a, w0, w1] (s, V) = zcall d 51 [.ref a] (s, V) (zK m Q (zwp (zcall d) m Q) r L [w0, w1]) := by
  rw [zw]
  refine propext ⟨fun q => ?_, fun q => ⟨Nat.le_of_ble_eq_true rfl, Nat.le_of_ble_eq_true rfl, a, 51, rfl, by show zDisp 2 (s.tg a) = _; rw [ht]; rfl, q⟩⟩
  obtain ⟨-, -, b, y, e1, e2, q⟩ := q
  cases e1
  have e2 : zDisp 2 (s.tg a) = some y := e2
  rw [ht] at e2
  cases e2
  exact q
theorem r_K0 {X : List Instr → List Value → List Value → zH → Prop} : zK m Q X r L st (.inl none) h = X r L st h := rfl
theorem r_K1 {X : List Instr → List Value → List Value → zH → Prop} {v : Value} : zK m Q X r L st (.inl (some v)) h = X r L (v :: st) h := rfl
theorem r_KX {X : List Instr → List Value → List Value → zH → Prop} {k : Nat} (hE : zE m k = none) : zK m Q X r L st (.inr k) h = Q (.inr k) h := by unfold zK; simp only [hE]
theorem r_ret (hr : zRk m = 0) : zwp (zcall d) m Q (.return_ :: r) L [] h = Q (.inl none) h := by rw [zw]; exact z_and2 hr rfl
theorem r_iret (hr : zRk m = 1) : zwp (zcall d) m Q (.ireturn :: r) L [zi x] h = Q (.inl (some (zi x))) h := by
  rw [zw]
  refine propext ⟨fun q => ?_, fun q => ⟨_, rfl, Or.inl hr, q⟩⟩
  obtain ⟨y, e1, -, q⟩ := q
  rw [show zi x = .int y from (List.cons.inj e1).1]
  exact q
theorem r_iretR {u : Int32} (hr : zRk m = 1) : zwp (zcall d) m Q (.ireturn :: r) L [.int u] h = Q (.inl (some (.int u))) h := by
  rw [zw]
  refine propext ⟨fun q => ?_, fun q => ⟨_, rfl, Or.inl hr, q⟩⟩
  obtain ⟨y, e1, -, q⟩ := q
  cases e1
  exact q
theorem r_bret_0 (hr : zRk m = 2) : zwp (zcall d) m Q (.ireturn :: r) L [zi 0] h = Q (.inl (some (zi 0))) h := by
  rw [zw]
  refine propext ⟨fun q => ?_, fun q => ⟨_, rfl, Or.inr ⟨hr, by first | exact Or.inl rfl | exact Or.inr rfl⟩, q⟩⟩
  obtain ⟨y, e1, -, q⟩ := q
  rw [show zi 0 = .int y from (List.cons.inj e1).1]
  exact q
theorem r_bret_1 (hr : zRk m = 2) : zwp (zcall d) m Q (.ireturn :: r) L [zi 1] h = Q (.inl (some (zi 1))) h := by
  rw [zw]
  refine propext ⟨fun q => ?_, fun q => ⟨_, rfl, Or.inr ⟨hr, by first | exact Or.inl rfl | exact Or.inr rfl⟩, q⟩⟩
  obtain ⟨y, e1, -, q⟩ := q
  rw [show zi 1 = .int y from (List.cons.inj e1).1]
  exact q
theorem r_bret (hr : zRk m = 2) (hx : x = 0 ∨ x = 1) : zwp (zcall d) m Q (.ireturn :: r) L [zi x] h = Q (.inl (some (zi x))) h := by rcases hx with rfl | rfl; exact r_bret_0 hr; exact r_bret_1 hr
theorem r_lreturn {u : Int64} (hr : zRk m = 3) : zwp (zcall d) m Q (.lreturn :: r) L [.long u] h = Q (.inl (some (.long u))) h := by
  rw [zw]
  refine propext ⟨fun q => ?_, fun q => ⟨hr, _, rfl, q⟩⟩
  obtain ⟨-, y, e1, q⟩ := q
  cases e1
  exact q
theorem r_dreturn {u : UInt64} (hr : zRk m = 4) : zwp (zcall d) m Q (.dreturn :: r) L [.double u] h = Q (.inl (some (.double u))) h := by
  rw [zw]
  refine propext ⟨fun q => ?_, fun q => ⟨hr, _, rfl, q⟩⟩
  obtain ⟨-, y, e1, q⟩ := q
  cases e1
  exact q
theorem r_lretI (hr : zRk m = 3) : zwp (zcall d) m Q (.lreturn :: r) L [zl x] h = Q (.inl (some (zl x))) h := r_lreturn hr
end
end
section
/-! TEST -/
theorem zput_ne {V : zV} {r r' : Nat} {k k' : Int} {v : Value} (h : r' ≠ r) : zput V r k v r' k' = V r' k' := if_neg (fun q => h q.1)
theorem zput_eq {V : zV} {r : Nat} {k : Int} {v : Value} : zput V r k v r k = v := if_pos ⟨rfl, rfl⟩
def tcnt (g : Int → Int → Int) (x : Int) : Nat → Int
  | 0 => 0
  | k + 1 => tcnt g x k + if g 0 k = x then 1 else 0
theorem tst {d : Nat} {s : zS} {V : zV} {a : Nat} {x m : Int} {g : Int → Int → Int} {Q : zO → zH → Prop}
  (t0 : s.tg a = 7) (v1 : V a 1 = zi m) (v3 : V a 3 = .ref (a + 11)) (t11 : s.tg (a + 11) = 24) (l11 : s.ln (a + 11) = 6) (v11 : V (a + 11) 0 = .ref (a + 12)) (t12 : s.tg (a + 12) = 20) (l12 : s.ln (a + 12) = 24)
  (e12 : ∀ j : Int, 0 ≤ j → j < 24 → V (a + 12) j = zi (g 0 j)) (hm0 : 0 ≤ m) (hm : m ≤ 24) (hx : 0 ≤ x) (hx2 : x < 12) (hg : ∀ j : Int, 0 ≤ j → j < m → 0 ≤ g 0 j ∧ g 0 j < 12) :
  zcall (d + 1) 82 [.ref a, zi x] (s, V) Q = Q (.inl (some (zi (tcnt g x m.toNat)))) (s, V) := by
  rw [zc_82]
  simp (disch := first | assumption | exact rfl | omega) only [zb_82_0, r_iconst, r_istore_2i, r_istore_2r, r_istore_2j, r_istore_3i, r_istore_3r, r_istore_3j, r_goto_w, r_iload_3, r_aload_0, r_gf_449, r_icmp_ge, r_gf_451, r_aaload, r_iaload, r_iload_1, r_icmp_ne, r_iinc_2i, r_iinc_2r, r_iinc_2j, r_iinc_3i, r_iinc_3r, r_iinc_3j, r_goto, r_iload_2, r_iret, r_bret_0, r_bret_1]
  have loop : ∀ (k : Nat) (j : Int), j + k = m → 0 ≤ j → zwp (zcall d) 82 Q (zB 82 1) [.ref a, zi x, zi (tcnt g x j.toNat), zi j] [] (s, V) = Q (.inl (some (zi (tcnt g x m.toNat)))) (s, V) := by
    intro k
    induction k with
    | zero =>
      intro j hj h0
      have : j = m := by omega
      subst this
      simp (disch := first | assumption | exact rfl | omega) only [zb_82_1, zb_82_2, zb_82_3, r_iconst, r_istore_2i, r_istore_2r, r_istore_2j, r_istore_3i, r_istore_3r, r_istore_3j, r_goto_w, r_iload_3, r_aload_0, r_gf_449, r_icmp_ge, r_gf_451, r_aaload, r_iaload, r_iload_1, r_icmp_ne, r_iinc_2i, r_iinc_2r, r_iinc_2j, r_iinc_3i, r_iinc_3r, r_iinc_3j, r_goto, r_iload_2, r_iret, r_bret_0, r_bret_1, v1, e12, Int.le_refl, ite]
    | succ k ih =>
      intro j hj h0
      have hgj := hg j h0 (by omega)
      rw [zb_82_1]
      simp (disch := first | assumption | exact rfl | omega) only [zb_82_2, zb_82_3, r_iconst, r_istore_2i, r_istore_2r, r_istore_2j, r_istore_3i, r_istore_3r, r_istore_3j, r_goto_w, r_iload_3, r_aload_0, r_gf_449, r_icmp_ge, r_gf_451, r_aaload, r_iaload, r_iload_1, r_icmp_ne, r_iinc_2i, r_iinc_2r, r_iinc_2j, r_iinc_3i, r_iinc_3r, r_iinc_3j, r_goto, r_iload_2, r_iret, r_bret_0, r_bret_1, v1, v3, v11, e12]
      rw [if_neg (by omega : ¬ m ≤ j)]
      have hj1 : (j + 1).toNat = j.toNat + 1 := by omega
      have ih1 := ih (j + 1) (by omega) (by omega)
      rw [hj1] at ih1
      have e1 : ((j.toNat : Nat) : Int) = j := by omega
      split
      · rename_i hc
        rw [show tcnt g x (j.toNat + 1) = tcnt g x j.toNat by simp only [tcnt, e1]; rw [if_neg hc]; omega] at ih1
        exact ih1
      · rename_i hc
        rw [show tcnt g x (j.toNat + 1) = tcnt g x j.toNat + 1 by simp only [tcnt, e1]; rw [if_pos (by omega)]] at ih1
        exact ih1
  exact loop m.toNat 0 (by omega) (by omega)
end
