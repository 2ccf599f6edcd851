section
/-! THE PROGRAM: each method by blocks; written by wip/whole/gen_code.py out of claim/JAVAP.txt, claim/JDK.txt -/
-- 0 BudgetSearch.init ()V
def zb_0 : List (List Instr) := [
  [.aload 0, .invokeinterface 57 1, .aload 0, .iconst 0, .newarray .int, .putfield 0, .return_]]
-- 1 BudgetSearch.leastFor (LServiceBudgets$State;I)I
def zb_1 : List (List Instr) := [
  [.aload 1, .iload 2, .invokeinterface 91 2, .ifCond .ne 1, .iconst (-1), .ireturn],
  [.aload 0, .getfield 0, .arraylength, .ifCond .ne 2, .aload 0, .iconst 6012, .newarray .int, .putfield 0, .goto_w 2],
  [.aload 1, .iload 2, .invokeinterface 87 2, .istore 3, .iconst 0, .istore 4, .goto_w 3],
  [.iload 4, .iconst 1000, .if_icmp .gt 6, .aload 0, .aload 1, .iload 2, .iconst 0, .iload 4, .iconst 1, .invokeinterface 62 6, .invokeinterface 60 1, .ifCond .eq 4, .iload 4, .ireturn],
  [.iload 4, .iconst 500, .if_icmp .gt 5, .aload 0, .aload 1, .iload 3, .iload 4, .invokeinterface 2 4, .goto_w 5],
  [.iinc 4 1, .goto 3],
  [.iconst (-1), .ireturn]]
-- 2 BudgetSearch.keepOutcomes (LServiceBudgets$State;II)V
def zb_2 : List (List Instr) := [
  [.iconst 0, .istore 4, .goto_w 1],
  [.iload 4, .aload 1, .getfield 448, .if_icmp .ge 3, .iload 2, .iload 4, .invokeinterface 158 2, .ifCond .eq 2, .aload 0, .getfield 0, .iload 3, .iconst 12, .imul, .iload 4, .iadd, .aload 0, .aload 1, .iload 4, .iconst 0, .iload 3, .iconst 1, .invokeinterface 62 6, .iastore, .goto_w 2],
  [.iinc 4 1, .goto 1],
  [.return_]]
-- 3 BudgetSearch.ask (LServiceBudgets$State;IIII)I
def zb_3 : List (List Instr) := [
  [.aload 0, .getfield 0, .iload 4, .iconst 12, .imul, .aload 1, .getfield 451, .iconst 1, .aaload, .iload 2, .iaload, .iadd, .iaload, .ireturn]]
-- 4 BudgetSearch.noteFailure (IIII)V
def zb_4 : List (List Instr) := [
  [.return_]]
-- 5 BudgetSearch.noteMissing ()V
def zb_5 : List (List Instr) := [
  [.return_]]
-- 6 FailureSets.init ()V
def zb_6 : List (List Instr) := [
  [.aload 0, .monitorexit, .aload 0, .iconst 12, .iconst 64, .multianewarray 1 2, .putfield 64, .aload 0, .iconst 64, .newarray .long, .putfield 65, .aload 0, .iconst 0, .newarray .double, .putfield 66, .return_]]
-- 7 FailureSets.fill (LServiceBudgets$State;LServiceBudgets$Graph;)V
def zb_7 : List (List Instr) := [
  [.iconst 1, .iconst 1, .aload 1, .getfield 448, .ishl, .iconst 6, .ishr, .invokeinterface 300 2, .istore 3, .iconst 0, .istore 4, .goto_w 1],
  [.iload 4, .aload 2, .invokeinterface 22 1, .if_icmp .ge 7, .aload 2, .iload 4, .invokeinterface 21 2, .istore 5, .iconst 0, .istore 6, .goto_w 2],
  [.iload 6, .iload 3, .if_icmp .ge 3, .aload 0, .getfield 64, .iload 5, .aaload, .iload 6, .iload 5, .iload 6, .invokeinterface 8 2, .lastore, .iinc 6 1, .goto 2],
  [.iconst 0, .istore 6, .goto_w 4],
  [.iload 6, .aload 1, .getfield 449, .if_icmp .ge 6, .aload 1, .iload 6, .iload 5, .invokeinterface 84 3, .ifCond .eq 5, .aload 1, .iload 6, .invokeinterface 86 2, .ifCond .eq 5, .aload 0, .aload 1, .iload 6, .iload 3, .invokeinterface 9 4, .goto_w 5],
  [.iinc 6 1, .goto 4],
  [.iinc 4 1, .goto 1],
  [.return_]]
-- 8 FailureSets.members (II)J
def zb_8 : List (List Instr) := [
  [.iload 0, .iconst 6, .if_icmp .ge 1, .getstatic 3, .iload 0, .laload, .lreturn],
  [.iload 1, .iload 0, .iconst 6, .isub, .invokeinterface 158 2, .ifCond .eq 2, .jsr_w (-1), .goto 3],
  [.jsr_w 0, .goto_w 3],
  [.lreturn]]
-- 9 FailureSets.addGroup (LServiceBudgets$State;II)V
def zb_9 : List (List Instr) := [
  [.iconst 0, .istore 4, .goto_w 1],
  [.iload 4, .iload 3, .if_icmp .ge 2, .aload 0, .getfield 65, .iload 4, .jsr_w (-1), .lastore, .iinc 4 1, .goto 1],
  [.iload 2, .istore 4, .goto_w 3],
  [.iload 4, .aload 1, .getfield 449, .if_icmp .ge 6, .aload 1, .iload 4, .iload 2, .invokeinterface 85 3, .ifCond .eq 5, .aload 0, .getfield 64, .aload 1, .getfield 451, .iconst 1, .aaload, .iload 4, .iaload, .aaload, .astore 5, .iconst 0, .istore 6, .goto_w 4],
  [.iload 6, .iload 3, .if_icmp .ge 5, .aload 0, .getfield 65, .iload 6, .dup2, .laload, .aload 5, .iload 6, .laload, .land, .lastore, .iinc 6 1, .goto 4],
  [.iinc 4 1, .goto 3],
  [.aload 0, .getfield 64, .aload 1, .getfield 451, .iconst 0, .aaload, .iload 2, .iaload, .aaload, .astore 4, .iconst 0, .istore 5, .goto_w 7],
  [.iload 5, .iload 3, .if_icmp .ge 8, .aload 4, .iload 5, .dup2, .laload, .aload 0, .getfield 65, .iload 5, .laload, .lor, .lastore, .iinc 5 1, .goto 7],
  [.return_]]
-- 10 FailureSets.isFailing (II)Z
def zb_10 : List (List Instr) := [
  [.aload 0, .getfield 64, .iload 1, .aaload, .iload 2, .iconst 6, .ishr, .laload, .iload 2, .iconst 63, .iand, .lushr, .jsr_w 1, .land, .jsr_w 0, .lcmp, .ifCond .eq 1, .iconst 1, .goto 2],
  [.iconst 0, .goto_w 2],
  [.ireturn]]
-- 11 FailureSets.isCut (LServiceBudgets$State;II)Z
def zb_11 : List (List Instr) := [
  [.aload 0, .iload 2, .iload 3, .invokeinterface 10 3, .ifCond .ne 1, .iconst 0, .ireturn],
  [.iconst 0, .istore 4, .goto_w 2],
  [.iload 4, .aload 1, .getfield 448, .if_icmp .ge 4, .iload 3, .iload 4, .invokeinterface 158 2, .ifCond .eq 3, .aload 0, .iload 2, .iload 3, .iconst 1, .iload 4, .ishl, .iconst (-1), .ixor, .iand, .invokeinterface 10 3, .ifCond .eq 3, .iconst 0, .ireturn],
  [.iinc 4 1, .goto 2],
  [.iconst 1, .ireturn]]
-- 12 FailureSets.countCuts (LServiceBudgets$State;II)I
def zb_12 : List (List Instr) := [
  [.iconst 0, .istore 4, .iconst 0, .istore 5, .goto_w 1],
  [.iload 5, .iconst 1, .aload 1, .getfield 448, .ishl, .if_icmp .ge 3, .iload 5, .invokeinterface 302 1, .iload 3, .if_icmp .ne 2, .aload 0, .aload 1, .iload 2, .iload 5, .invokeinterface 11 4, .ifCond .eq 2, .iinc 4 1, .goto_w 2],
  [.iinc 5 1, .goto 1],
  [.iload 4, .ireturn]]
-- 13 FailureSets.findCut (LServiceBudgets$State;III)I
def zb_13 : List (List Instr) := [
  [.iconst 0, .istore 5, .iconst 0, .istore 6, .goto_w 1],
  [.iload 6, .iconst 1, .aload 1, .getfield 448, .ishl, .if_icmp .ge 4, .iload 6, .invokeinterface 302 1, .iload 3, .if_icmp .ne 3, .aload 0, .aload 1, .iload 2, .iload 6, .invokeinterface 11 4, .ifCond .eq 3, .iload 5, .iload 4, .if_icmp .ne 2, .iload 6, .ireturn],
  [.iinc 5 1, .goto_w 3],
  [.iinc 6 1, .goto 1],
  [.iconst (-1), .ireturn]]
-- 14 FailureSets.chanceOf (LServiceBudgets$State;II)D
def zb_14 : List (List Instr) := [
  [.aload 0, .aload 1, .iload 3, .invokeinterface 15 3, .jsr 0, .dstore 4, .iconst 0, .istore 6, .goto_w 1],
  [.iload 6, .iconst 1, .aload 1, .getfield 448, .ishl, .if_icmp .ge 3, .aload 0, .iload 2, .iload 6, .invokeinterface 10 3, .ifCond .ne 2, .dload 4, .aload 0, .getfield 66, .iload 6, .daload, .dadd, .dstore 4, .goto_w 2],
  [.iinc 6 1, .goto 1],
  [.dload 4, .dreturn]]
-- 15 FailureSets.fillChances (LServiceBudgets$State;I)V
def zb_15 : List (List Instr) := [
  [.aload 0, .getfield 66, .arraylength, .ifCond .ne 1, .aload 0, .iconst 4096, .newarray .double, .putfield 66, .goto_w 1],
  [.aload 0, .getfield 66, .iconst 0, .jsr 4607182418800017408, .dastore, .iconst 0, .istore 3, .goto_w 2],
  [.iload 3, .aload 1, .getfield 448, .if_icmp .ge 7, .iload 3, .iload 2, .if_icmp .ne 3, .iconst 1000, .goto 4],
  [.aload 1, .getfield 450, .iconst 5, .aaload, .iload 3, .iaload, .goto_w 4],
  [.istore 4, .iload 4, .i2d, .jsr 4652007308841189376, .ddiv, .dstore 5, .iconst 1000, .iload 4, .isub, .i2d, .jsr 4652007308841189376, .ddiv, .dstore 7, .iconst 1, .iload 3, .ishl, .istore 9, .iconst 0, .istore 10, .goto_w 5],
  [.iload 10, .iload 9, .if_icmp .ge 6, .aload 0, .getfield 66, .iload 9, .iload 10, .iadd, .aload 0, .getfield 66, .iload 10, .daload, .dload 7, .dmul, .dastore, .aload 0, .getfield 66, .iload 10, .aload 0, .getfield 66, .iload 10, .daload, .dload 5, .dmul, .dastore, .iinc 10 1, .goto 5],
  [.iinc 3 1, .goto 2],
  [.return_]]
-- 16 FailureSets.mostWorthwhile (LServiceBudgets$State;I)I
def zb_16 : List (List Instr) := [
  [.iconst 0, .istore 3, .aload 0, .aload 1, .iload 2, .iconst 0, .invokeinterface 14 4, .dstore 4, .iconst 1, .istore 6, .goto_w 1],
  [.iload 6, .aload 1, .getfield 448, .if_icmp .ge 3, .aload 0, .aload 1, .iload 2, .iload 6, .invokeinterface 14 4, .dstore 7, .dload 7, .dload 4, .dcmp .l, .ifCond .le 2, .iload 6, .istore 3, .dload 7, .dstore 4, .goto_w 2],
  [.iinc 6 1, .goto 1],
  [.iload 3, .ireturn]]
-- 17 Graph.init ()V
def zb_17 : List (List Instr) := [
  [.aload 0, .monitorexit, .aload 0, .iconst 12, .newarray .int, .putfield 128, .aload 0, .iconst 12, .newarray .int, .putfield 129, .aload 0, .iconst 0, .putfield 130, .aload 0, .iconst 12, .newarray .int, .putfield 131, .aload 0, .iconst 12, .newarray .int, .putfield 132, .return_]]
-- 18 Graph.sort (LServiceBudgets$State;)V
def zb_18 : List (List Instr) := [
  [.aload 0, .aload 1, .invokeinterface 19 2, .aload 0, .iconst 0, .putfield 130, .iconst 0, .istore 2, .iconst 0, .istore 3, .goto_w 1],
  [.iload 3, .aload 1, .getfield 448, .if_icmp .ge 3, .aload 0, .aload 1, .iload 2, .invokeinterface 20 3, .istore 4, .iload 4, .iconst (-1), .if_icmp .ne 2, .return_],
  [.aload 0, .getfield 129, .iload 3, .iload 4, .iastore, .iload 2, .iconst 1, .iload 4, .ishl, .ior, .istore 2, .aload 0, .dup, .getfield 130, .iconst 1, .iadd, .putfield 130, .iinc 3 1, .goto 1],
  [.return_]]
-- 19 Graph.fillDirect (LServiceBudgets$State;)V
def zb_19 : List (List Instr) := [
  [.iconst 0, .istore 2, .goto_w 1],
  [.iload 2, .aload 1, .getfield 448, .if_icmp .ge 2, .aload 0, .getfield 128, .iload 2, .iconst 0, .iastore, .iinc 2 1, .goto 1],
  [.iconst 0, .istore 2, .goto_w 3],
  [.iload 2, .aload 1, .getfield 449, .if_icmp .ge 4, .aload 0, .getfield 128, .aload 1, .getfield 451, .iconst 0, .aaload, .iload 2, .iaload, .dup2, .iaload, .iconst 1, .aload 1, .getfield 451, .iconst 1, .aaload, .iload 2, .iaload, .ishl, .ior, .iastore, .iinc 2 1, .goto 3],
  [.return_]]
-- 20 Graph.lowestNext (LServiceBudgets$State;I)I
def zb_20 : List (List Instr) := [
  [.iconst 0, .istore 3, .goto_w 1],
  [.iload 3, .aload 1, .getfield 448, .if_icmp .ge 3, .iload 2, .iload 3, .invokeinterface 158 2, .ifCond .ne 2, .aload 0, .getfield 128, .iload 3, .iaload, .iload 2, .iconst (-1), .ixor, .iand, .ifCond .ne 2, .iload 3, .ireturn],
  [.iinc 3 1, .goto 1],
  [.iconst (-1), .ireturn]]
-- 21 Graph.sortedAt (I)I
def zb_21 : List (List Instr) := [
  [.iload 1, .ifCond .lt 1, .iload 1, .aload 0, .getfield 130, .if_icmp .lt 2, .goto_w 1],
  [.iconst (-1), .goto 3],
  [.aload 0, .getfield 129, .iload 1, .iaload, .goto_w 3],
  [.ireturn]]
-- 22 Graph.countSorted ()I
def zb_22 : List (List Instr) := [
  [.aload 0, .getfield 130, .ireturn]]
-- 23 Graph.measureChains (LServiceBudgets$State;)V
def zb_23 : List (List Instr) := [
  [.aload 0, .aload 1, .invokeinterface 18 2, .iconst 0, .istore 2, .goto_w 1],
  [.iload 2, .aload 0, .getfield 130, .if_icmp .ge 2, .aload 0, .getfield 131, .aload 0, .getfield 129, .iload 2, .iaload, .aload 0, .aload 1, .aload 0, .getfield 129, .iload 2, .iaload, .invokeinterface 24 3, .iastore, .iinc 2 1, .goto 1],
  [.return_]]
-- 24 Graph.chainOf (LServiceBudgets$State;I)I
def zb_24 : List (List Instr) := [
  [.iconst 0, .istore 3, .iconst 0, .istore 4, .goto_w 1],
  [.iload 4, .aload 1, .getfield 449, .if_icmp .ge 3, .aload 1, .getfield 451, .iconst 0, .aaload, .iload 4, .iaload, .iload 2, .if_icmp .ne 2, .iload 3, .iconst 1, .aload 0, .getfield 131, .aload 1, .getfield 451, .iconst 1, .aaload, .iload 4, .iaload, .iaload, .iadd, .invokeinterface 300 2, .istore 3, .goto_w 2],
  [.iinc 4 1, .goto 1],
  [.iload 3, .ireturn]]
-- 25 Graph.measureBounds (LServiceBudgets$State;)V
def zb_25 : List (List Instr) := [
  [.aload 0, .aload 1, .invokeinterface 18 2, .iconst 0, .istore 2, .goto_w 1],
  [.iload 2, .aload 0, .getfield 130, .if_icmp .ge 2, .aload 0, .getfield 132, .aload 0, .getfield 129, .iload 2, .iaload, .aload 0, .aload 1, .aload 0, .getfield 129, .iload 2, .iaload, .invokeinterface 26 3, .iastore, .iinc 2 1, .goto 1],
  [.return_]]
-- 26 Graph.boundOf (LServiceBudgets$State;I)I
def zb_26 : List (List Instr) := [
  [.aload 1, .iload 2, .invokeinterface 81 2, .istore 3, .iconst 0, .istore 4, .goto_w 1],
  [.iload 4, .aload 1, .getfield 449, .if_icmp .ge 3, .aload 1, .getfield 451, .iconst 0, .aaload, .iload 4, .iaload, .iload 2, .if_icmp .ne 2, .aload 1, .getfield 451, .iconst 2, .aaload, .iload 4, .iaload, .istore 5, .iload 5, .aload 0, .getfield 132, .aload 1, .getfield 451, .iconst 1, .aaload, .iload 4, .iaload, .iaload, .invokeinterface 301 2, .istore 6, .iload 3, .aload 1, .getfield 451, .iconst 3, .aaload, .iload 4, .iaload, .iload 6, .imul, .iadd, .istore 3, .goto_w 2],
  [.iinc 4 1, .goto 1],
  [.iload 3, .iconst 100000, .invokeinterface 301 2, .ireturn]]
-- 27 Graph.countUnsound (LServiceBudgets$State;)I
def zb_27 : List (List Instr) := [
  [.iconst 0, .istore 2, .iconst 0, .istore 3, .goto_w 1],
  [.iload 3, .aload 1, .getfield 449, .if_icmp .ge 3, .aload 1, .getfield 451, .iconst 2, .aaload, .iload 3, .iaload, .aload 0, .getfield 132, .aload 1, .getfield 451, .iconst 1, .aaload, .iload 3, .iaload, .iaload, .if_icmp .ge 2, .iinc 2 1, .goto_w 2],
  [.iinc 3 1, .goto 1],
  [.iload 2, .ireturn]]
-- 28 Graph.tightenLimits (LServiceBudgets$State;)I
def zb_28 : List (List Instr) := [
  [.aload 0, .aload 1, .invokeinterface 18 2, .iconst 0, .istore 2, .iconst 0, .istore 3, .goto_w 1],
  [.iload 3, .aload 0, .getfield 130, .if_icmp .ge 2, .aload 0, .getfield 129, .iload 3, .iaload, .istore 4, .aload 0, .getfield 132, .iload 4, .aload 0, .aload 1, .iload 4, .invokeinterface 26 3, .iastore, .iload 2, .aload 0, .aload 1, .iload 4, .aload 0, .getfield 132, .iload 4, .iaload, .iconst 500, .invokeinterface 301 2, .invokeinterface 29 4, .iadd, .istore 2, .iinc 3 1, .goto 1],
  [.iload 2, .ireturn]]
-- 29 Graph.limitCallsTo (LServiceBudgets$State;II)I
def zb_29 : List (List Instr) := [
  [.iconst 0, .istore 4, .iconst 0, .istore 5, .goto_w 1],
  [.iload 5, .aload 1, .getfield 449, .if_icmp .ge 3, .aload 1, .getfield 451, .iconst 1, .aaload, .iload 5, .iaload, .iload 2, .if_icmp .ne 2, .aload 1, .iload 5, .iload 3, .invokeinterface 79 3, .iload 3, .if_icmp .eq 2, .iinc 4 1, .goto_w 2],
  [.iinc 5 1, .goto 1],
  [.iload 4, .ireturn]]
-- 30 Graph.failingBy (LServiceBudgets$State;I)I
def zb_30 : List (List Instr) := [
  [.iload 2, .istore 3, .iconst 0, .istore 4, .goto_w 1],
  [.iload 4, .aload 0, .getfield 130, .if_icmp .ge 3, .aload 1, .aload 0, .getfield 129, .iload 4, .iaload, .iload 3, .invokeinterface 89 3, .ifCond .eq 2, .iload 3, .iconst 1, .aload 0, .getfield 129, .iload 4, .iaload, .ishl, .ior, .istore 3, .goto_w 2],
  [.iinc 4 1, .goto 1],
  [.iload 3, .ireturn]]
-- 31 History.init ()V
def zb_31 : List (List Instr) := [
  [.aload 0, .monitorexit, .aload 0, .iconst 4, .anewarray 0, .putfield 192, .aload 0, .iconst 0, .putfield 193, .iconst 0, .istore 1, .goto_w 1],
  [.iload 1, .iconst 4, .if_icmp .ge 2, .aload 0, .getfield 192, .iload 1, .new 7, .dup, .invokeinterface 65 1, .aastore, .iinc 1 1, .goto 1],
  [.return_]]
-- 32 History.save (LServiceBudgets$State;)V
def zb_32 : List (List Instr) := [
  [.aload 0, .getfield 193, .iconst 4, .if_icmp .ne 1, .aload 0, .invokeinterface 33 1, .goto_w 1],
  [.aload 0, .getfield 192, .aload 0, .getfield 193, .aaload, .aload 1, .invokeinterface 66 2, .aload 0, .dup, .getfield 193, .iconst 1, .iadd, .putfield 193, .return_]]
-- 33 History.dropOldest ()V
def zb_33 : List (List Instr) := [
  [.aload 0, .getfield 192, .iconst 0, .aaload, .astore 1, .iconst 1, .istore 2, .goto_w 1],
  [.iload 2, .iconst 4, .if_icmp .ge 2, .aload 0, .getfield 192, .iload 2, .iconst 1, .isub, .aload 0, .getfield 192, .iload 2, .aaload, .aastore, .iinc 2 1, .goto 1],
  [.aload 0, .getfield 192, .iconst 3, .aload 1, .aastore, .aload 0, .dup, .getfield 193, .iconst 1, .isub, .putfield 193, .return_]]
-- 34 History.whyEmpty ()I
def zb_34 : List (List Instr) := [
  [.aload 0, .getfield 193, .ifCond .ne 1, .iconst 3, .goto 2],
  [.iconst 0, .goto_w 2],
  [.ireturn]]
-- 35 History.restore (LServiceBudgets$State;)I
def zb_35 : List (List Instr) := [
  [.aload 0, .dup, .getfield 193, .iconst 1, .isub, .putfield 193, .aload 1, .aload 0, .getfield 192, .aload 0, .getfield 193, .aaload, .invokeinterface 66 2, .aload 0, .getfield 193, .ireturn]]
-- 36 Recovery.init ()V
def zb_36 : List (List Instr) := [
  [.aload 0, .monitorexit, .aload 0, .iconst 12, .newarray .int, .putfield 256, .aload 0, .iconst 12, .newarray .int, .putfield 257, .aload 0, .iconst 12, .newarray .int, .putfield 258, .aload 0, .iconst 0, .newarray .int, .putfield 259, .return_]]
-- 37 Recovery.fillBefore (LServiceBudgets$State;)I
def zb_37 : List (List Instr) := [
  [.aload 1, .invokeinterface 92 1, .istore 2, .iconst 0, .istore 3, .goto_w 1],
  [.iload 3, .aload 1, .getfield 448, .if_icmp .ge 3, .iload 2, .iload 3, .invokeinterface 158 2, .ifCond .eq 2, .aload 0, .getfield 256, .iload 3, .aload 1, .iload 3, .invokeinterface 87 2, .iload 2, .iand, .iastore, .goto_w 2],
  [.iinc 3 1, .goto 1],
  [.iload 2, .ireturn]]
-- 38 Recovery.byCrews (LServiceBudgets$State;I)I
def zb_38 : List (List Instr) := [
  [.aload 0, .aload 1, .invokeinterface 37 2, .istore 3, .iconst 0, .istore 4, .iconst 0, .istore 5, .iconst 0, .istore 6, .iconst 0, .istore 7, .goto_w 1],
  [.iload 7, .aload 1, .getfield 448, .if_icmp .gt 6, .aload 0, .aload 1, .iload 4, .iload 6, .invokeinterface 39 4, .istore 8, .iload 4, .iload 8, .iconst (-1), .ixor, .iand, .istore 4, .iload 5, .iload 8, .ior, .istore 5, .iload 2, .iload 4, .invokeinterface 302 1, .isub, .istore 9, .goto_w 2],
  [.iload 9, .ifCond .le 4, .aload 0, .aload 1, .iload 3, .iload 5, .invokeinterface 41 4, .istore 10, .iload 10, .iconst (-1), .if_icmp .ne 3, .goto 4],
  [.aload 0, .getfield 257, .iload 10, .iload 6, .iastore, .aload 0, .getfield 258, .iload 10, .iload 6, .aload 1, .getfield 450, .iconst 3, .aaload, .iload 10, .iaload, .iadd, .iastore, .iload 3, .iconst 1, .iload 10, .ishl, .iconst (-1), .ixor, .iand, .istore 3, .iload 4, .iconst 1, .iload 10, .ishl, .ior, .istore 4, .iinc 9 (-1), .goto 2],
  [.iload 4, .ifCond .ne 5, .iload 6, .ireturn],
  [.aload 0, .aload 1, .iload 4, .invokeinterface 40 3, .istore 6, .iinc 7 1, .goto 1],
  [.iload 6, .ireturn]]
-- 39 Recovery.overAt (LServiceBudgets$State;II)I
def zb_39 : List (List Instr) := [
  [.iconst 0, .istore 4, .iconst 0, .istore 5, .goto_w 1],
  [.iload 5, .aload 1, .getfield 448, .if_icmp .ge 3, .iload 2, .iload 5, .invokeinterface 158 2, .ifCond .eq 2, .aload 0, .getfield 258, .iload 5, .iaload, .iload 3, .if_icmp .gt 2, .iload 4, .iconst 1, .iload 5, .ishl, .ior, .istore 4, .goto_w 2],
  [.iinc 5 1, .goto 1],
  [.iload 4, .ireturn]]
-- 40 Recovery.nextEnd (LServiceBudgets$State;I)I
def zb_40 : List (List Instr) := [
  [.iconst (-1), .istore 3, .iconst 0, .istore 4, .goto_w 1],
  [.iload 4, .aload 1, .getfield 448, .if_icmp .ge 4, .iload 2, .iload 4, .invokeinterface 158 2, .ifCond .eq 3, .iload 3, .iconst (-1), .if_icmp .eq 2, .aload 0, .getfield 258, .iload 4, .iaload, .iload 3, .if_icmp .ge 3, .goto_w 2],
  [.aload 0, .getfield 258, .iload 4, .iaload, .istore 3, .goto_w 3],
  [.iinc 4 1, .goto 1],
  [.iload 3, .ireturn]]
-- 41 Recovery.mostImportant (LServiceBudgets$State;II)I
def zb_41 : List (List Instr) := [
  [.iconst (-1), .istore 4, .iconst 0, .istore 5, .iconst 0, .istore 6, .goto_w 1],
  [.iload 6, .aload 1, .getfield 448, .if_icmp .ge 3, .iload 2, .iload 6, .invokeinterface 158 2, .ifCond .eq 2, .aload 0, .getfield 256, .iload 6, .iaload, .iload 3, .iconst (-1), .ixor, .iand, .ifCond .ne 2, .aload 1, .getfield 450, .iconst 4, .aaload, .iload 6, .iaload, .iload 5, .if_icmp .le 2, .iload 6, .istore 4, .aload 1, .getfield 450, .iconst 4, .aaload, .iload 6, .iaload, .istore 5, .goto_w 2],
  [.iinc 6 1, .goto 1],
  [.iload 4, .ireturn]]
-- 42 Recovery.leastCost (LServiceBudgets$State;)I
def zb_42 : List (List Instr) := [
  [.aload 0, .aload 1, .invokeinterface 37 2, .istore 2, .aload 0, .getfield 259, .arraylength, .ifCond .ne 1, .aload 0, .iconst 4096, .newarray .int, .putfield 259, .goto_w 1],
  [.aload 0, .getfield 259, .iload 2, .iconst 0, .iastore, .iload 2, .istore 3, .goto_w 2],
  [.iload 3, .ifCond .le 3, .iload 3, .iconst 1, .isub, .iload 2, .iand, .istore 3, .aload 0, .aload 1, .iload 2, .iload 3, .invokeinterface 43 4, .pop, .goto 2],
  [.aload 0, .getfield 259, .iconst 0, .iaload, .ireturn]]
-- 43 Recovery.settle (LServiceBudgets$State;II)I
def zb_43 : List (List Instr) := [
  [.aload 1, .iload 3, .invokeinterface 44 2, .istore 4, .iconst (-1), .istore 5, .iconst 0, .istore 6, .iconst 0, .istore 7, .goto_w 1],
  [.iload 7, .aload 1, .getfield 448, .if_icmp .ge 5, .iload 2, .iload 3, .iconst (-1), .ixor, .iand, .iload 7, .invokeinterface 158 2, .ifCond .eq 4, .aload 0, .getfield 256, .iload 7, .iaload, .iload 3, .iconst (-1), .ixor, .iand, .ifCond .eq 2, .goto 4],
  [.iload 4, .aload 1, .getfield 450, .iconst 3, .aaload, .iload 7, .iaload, .iadd, .istore 8, .aload 1, .getfield 450, .iconst 4, .aaload, .iload 7, .iaload, .iload 8, .imul, .aload 0, .getfield 259, .iload 3, .iconst 1, .iload 7, .ishl, .ior, .iaload, .iadd, .istore 9, .iload 5, .iconst (-1), .if_icmp .eq 3, .iload 9, .iload 6, .if_icmp .ge 4, .goto_w 3],
  [.iload 7, .istore 5, .iload 9, .istore 6, .goto_w 4],
  [.iinc 7 1, .goto 1],
  [.aload 0, .getfield 259, .iload 3, .iload 6, .iastore, .iload 5, .ireturn]]
-- 44 Recovery.timeFor (LServiceBudgets$State;I)I
def zb_44 : List (List Instr) := [
  [.iconst 0, .istore 2, .iconst 0, .istore 3, .goto_w 1],
  [.iload 3, .aload 0, .getfield 448, .if_icmp .ge 3, .iload 1, .iload 3, .invokeinterface 158 2, .ifCond .eq 2, .iload 2, .aload 0, .getfield 450, .iconst 3, .aaload, .iload 3, .iaload, .iadd, .istore 2, .goto_w 2],
  [.iinc 3 1, .goto 1],
  [.iload 2, .ireturn]]
-- 45 Recovery.inBestOrder (LServiceBudgets$State;I)I
def zb_45 : List (List Instr) := [
  [.aload 1, .invokeinterface 92 1, .istore 3, .iload 2, .ifCond .lt 1, .iload 2, .iload 3, .invokeinterface 302 1, .if_icmp .lt 2, .goto_w 1],
  [.iconst (-1), .ireturn],
  [.aload 0, .aload 1, .invokeinterface 42 2, .pop, .iconst 0, .istore 4, .aload 0, .aload 1, .iload 3, .iload 4, .invokeinterface 43 4, .istore 5, .iconst 0, .istore 6, .goto_w 3],
  [.iload 6, .iload 2, .if_icmp .ge 4, .iload 5, .iconst (-1), .if_icmp .eq 4, .iload 4, .iconst 1, .iload 5, .ishl, .ior, .istore 4, .aload 0, .aload 1, .iload 3, .iload 4, .invokeinterface 43 4, .istore 5, .iinc 6 1, .goto 3],
  [.iload 5, .ireturn]]
-- 46 Request.init ()V
def zb_46 : List (List Instr) := [
  [.aload 0, .invokeinterface 57 1, .aload 0, .iconst 0, .putfield 320, .aload 0, .iconst 0, .putfield 321, .aload 0, .iconst 0, .putfield 322, .aload 0, .iconst 0, .putfield 323, .aload 0, .iconst (-1), .putfield 324, .aload 0, .iconst (-1), .putfield 325, .aload 0, .iconst 0, .putfield 326, .aload 0, .iconst 0, .putfield 327, .aload 0, .iconst 4, .iconst 60, .multianewarray 0 2, .putfield 328, .aload 0, .iconst 4, .iconst 200, .multianewarray 0 2, .putfield 329, .return_]]
-- 47 Request.begin (LServiceBudgets$State;II)Z
def zb_47 : List (List Instr) := [
  [.aload 0, .iconst 1, .putfield 320, .aload 0, .iconst 0, .putfield 322, .aload 0, .iconst 1, .putfield 323, .aload 0, .iconst (-1), .putfield 324, .aload 0, .iconst (-1), .putfield 325, .aload 0, .iconst 0, .putfield 326, .aload 0, .iconst 0, .putfield 327, .aload 0, .aload 0, .aload 1, .iload 2, .iconst 0, .iload 3, .iconst 1, .invokeinterface 62 6, .putfield 321, .aload 0, .getfield 321, .invokeinterface 60 1, .ireturn]]
-- 48 Request.ask (LServiceBudgets$State;IIII)I
def zb_48 : List (List Instr) := [
  [.iload 5, .iconst 12, .if_icmp .lt 1, .iconst 0, .invokeinterface 59 1, .ireturn],
  [.aload 0, .iload 2, .iload 3, .iload 4, .invokeinterface 49 4, .istore 6, .aload 0, .dup, .getfield 323, .iconst 1, .iadd, .putfield 323, .aload 0, .aload 1, .aload 1, .getfield 451, .iconst 1, .aaload, .iload 2, .iaload, .iload 3, .iload 4, .iload 5, .iconst 1, .iadd, .invokeinterface 62 6, .istore 7, .iload 6, .iconst (-1), .if_icmp .eq 2, .iload 7, .invokeinterface 60 1, .ifCond .eq 2, .aload 0, .getfield 329, .iconst 3, .aaload, .iload 6, .iconst 1, .iastore, .goto_w 2],
  [.iload 7, .ireturn]]
-- 49 Request.noteTry (III)I
def zb_49 : List (List Instr) := [
  [.aload 0, .getfield 327, .iconst 200, .if_icmp .lt 1, .iconst (-1), .ireturn],
  [.aload 0, .getfield 327, .istore 4, .aload 0, .getfield 329, .iconst 0, .aaload, .iload 4, .iload 1, .iastore, .aload 0, .getfield 329, .iconst 1, .aaload, .iload 4, .iload 2, .iastore, .aload 0, .getfield 329, .iconst 2, .aaload, .iload 4, .iload 3, .iastore, .aload 0, .getfield 329, .iconst 3, .aaload, .iload 4, .iconst 0, .iastore, .aload 0, .dup, .getfield 327, .iconst 1, .iadd, .putfield 327, .iload 4, .ireturn]]
-- 50 Request.noteFailure (IIII)V
def zb_50 : List (List Instr) := [
  [.aload 0, .getfield 324, .iconst (-1), .if_icmp .ne 1, .aload 0, .iload 1, .putfield 324, .goto_w 1],
  [.aload 0, .getfield 325, .iconst (-1), .if_icmp .ne 3, .iload 2, .iconst 1, .if_icmp .eq 2, .iload 2, .iconst 2, .if_icmp .ne 3, .goto_w 2],
  [.aload 0, .iload 1, .putfield 325, .goto_w 3],
  [.aload 0, .getfield 326, .iconst 60, .if_icmp .ge 4, .aload 0, .getfield 328, .iconst 0, .aaload, .aload 0, .getfield 326, .iload 1, .iastore, .aload 0, .getfield 328, .iconst 1, .aaload, .aload 0, .getfield 326, .iload 2, .iastore, .aload 0, .getfield 328, .iconst 2, .aaload, .aload 0, .getfield 326, .iload 3, .iastore, .aload 0, .getfield 328, .iconst 3, .aaload, .aload 0, .getfield 326, .iload 4, .iastore, .aload 0, .dup, .getfield 326, .iconst 1, .iadd, .putfield 326, .goto_w 4],
  [.return_]]
-- 51 Request.noteMissing ()V
def zb_51 : List (List Instr) := [
  [.aload 0, .dup, .getfield 322, .iconst 1, .iadd, .putfield 322, .return_]]
-- 52 Request.whyNone ()I
def zb_52 : List (List Instr) := [
  [.aload 0, .getfield 320, .ifCond .eq 1, .iconst 0, .goto 2],
  [.iconst 3, .goto_w 2],
  [.ireturn]]
-- 53 Request.about (I)I
def zb_53 : List (List Instr) := [
  [.iload 1, .lookupswitch 6 #[(0, 1), (1, 2), (2, 3), (3, 4), (4, 5)]],
  [.aload 0, .getfield 321, .invokeinterface 61 1, .ireturn],
  [.aload 0, .getfield 322, .ireturn],
  [.aload 0, .getfield 326, .ireturn],
  [.aload 0, .getfield 327, .ireturn],
  [.aload 0, .invokeinterface 54 1, .ireturn],
  [.aload 0, .getfield 323, .ireturn]]
-- 54 Request.blamed ()I
def zb_54 : List (List Instr) := [
  [.aload 0, .getfield 321, .invokeinterface 60 1, .ifCond .eq 1, .iconst (-1), .ireturn],
  [.aload 0, .getfield 325, .iconst (-1), .if_icmp .eq 2, .aload 0, .getfield 325, .goto 3],
  [.aload 0, .getfield 324, .goto_w 3],
  [.ireturn]]
-- 55 Request.aboutFailure (II)I
def zb_55 : List (List Instr) := [
  [.iload 1, .ifCond .lt 1, .iload 1, .aload 0, .getfield 326, .if_icmp .lt 2, .goto_w 1],
  [.iconst (-1), .goto 3],
  [.aload 0, .getfield 328, .iload 2, .aaload, .iload 1, .iaload, .goto_w 3],
  [.ireturn]]
-- 56 Request.aboutTry (II)I
def zb_56 : List (List Instr) := [
  [.iload 1, .ifCond .lt 1, .iload 1, .aload 0, .getfield 327, .if_icmp .lt 2, .goto_w 1],
  [.iconst (-1), .goto 3],
  [.aload 0, .getfield 329, .iload 2, .aaload, .iload 1, .iaload, .goto_w 3],
  [.ireturn]]
-- 57 Serving.init ()V
def zb_57 : List (List Instr) := [
  [.aload 0, .monitorexit, .return_]]
-- 58 Serving.good (I)I
def zb_58 : List (List Instr) := [
  [.iconst 2, .iload 0, .imul, .iconst 1, .iadd, .ireturn]]
-- 59 Serving.bad (I)I
def zb_59 : List (List Instr) := [
  [.iconst 2, .iload 0, .imul, .ireturn]]
-- 60 Serving.isGood (I)Z
def zb_60 : List (List Instr) := [
  [.iload 0, .iconst 1, .iand, .ifCond .eq 1, .iconst 1, .goto 2],
  [.iconst 0, .goto_w 2],
  [.ireturn]]
-- 61 Serving.timeOf (I)I
def zb_61 : List (List Instr) := [
  [.iload 0, .iconst 1, .ishr, .ireturn]]
-- 62 Serving.serve (LServiceBudgets$State;IIII)I
def zb_62 : List (List Instr) := [
  [.aload 1, .iload 2, .invokeinterface 91 2, .ifCond .ne 1, .aload 0, .iload 2, .iconst 1, .iload 3, .iload 4, .invokevirtual 1, .iconst 0, .invokeinterface 59 1, .ireturn],
  [.aload 1, .iload 2, .invokeinterface 81 2, .istore 6, .iload 6, .iload 4, .if_icmp .le 2, .aload 0, .iload 2, .iconst 2, .iload 3, .iload 4, .iadd, .iload 4, .invokevirtual 1, .iload 4, .invokeinterface 59 1, .ireturn],
  [.iconst 0, .istore 7, .goto_w 3],
  [.iload 7, .aload 1, .getfield 449, .if_icmp .ge 7, .aload 1, .iload 7, .iload 2, .invokeinterface 84 3, .ifCond .ne 4, .goto 6],
  [.aload 0, .aload 1, .iload 7, .iload 3, .iload 4, .iload 6, .iload 5, .invokeinterface 63 7, .istore 8, .iload 8, .invokeinterface 61 1, .istore 6, .iload 8, .invokeinterface 60 1, .ifCond .ne 5, .aload 1, .iload 7, .invokeinterface 86 2, .ifCond .eq 5, .aload 0, .iload 2, .iconst 4, .iload 3, .iload 6, .iadd, .iload 4, .invokevirtual 1, .iload 6, .invokeinterface 59 1, .ireturn],
  [.iload 8, .invokeinterface 60 1, .ifCond .ne 6, .aload 0, .invokevirtual 2, .goto_w 6],
  [.iinc 7 1, .goto 3],
  [.iload 6, .invokeinterface 58 1, .ireturn]]
-- 63 Serving.goThroughGroup (LServiceBudgets$State;IIIII)I
def zb_63 : List (List Instr) := [
  [.iload 5, .istore 7, .iload 2, .istore 8, .goto_w 1],
  [.iload 8, .aload 1, .getfield 449, .if_icmp .ge 4, .aload 1, .iload 8, .iload 2, .invokeinterface 85 3, .ifCond .eq 3, .aload 0, .aload 1, .iload 8, .iload 3, .iload 4, .iload 7, .iload 6, .invokeinterface 64 7, .istore 9, .iload 9, .invokeinterface 60 1, .ifCond .eq 2, .iload 9, .ireturn],
  [.iload 9, .invokeinterface 61 1, .istore 7, .goto_w 3],
  [.iinc 8 1, .goto 1],
  [.iload 7, .invokeinterface 59 1, .ireturn]]
-- 64 Serving.makeCall (LServiceBudgets$State;IIIII)I
def zb_64 : List (List Instr) := [
  [.iload 5, .istore 7, .aload 1, .getfield 451, .iconst 3, .aaload, .iload 2, .iaload, .istore 8, .iconst 0, .istore 9, .goto_w 1],
  [.iload 9, .iload 8, .if_icmp .ge 4, .iload 7, .iload 4, .if_icmp .lt 2, .aload 0, .aload 1, .getfield 451, .iconst 0, .aaload, .iload 2, .iaload, .iconst 3, .iload 3, .iload 7, .iadd, .iload 4, .invokevirtual 1, .iload 7, .invokeinterface 59 1, .ireturn],
  [.aload 1, .getfield 451, .iconst 2, .aaload, .iload 2, .iaload, .iload 4, .iload 7, .isub, .invokeinterface 301 2, .istore 10, .aload 0, .aload 1, .iload 2, .iload 3, .iload 7, .iadd, .iload 10, .iload 6, .invokevirtual 0, .istore 11, .iload 7, .iload 11, .invokeinterface 61 1, .iadd, .istore 7, .iload 11, .invokeinterface 60 1, .ifCond .eq 3, .iload 7, .invokeinterface 58 1, .ireturn],
  [.iinc 9 1, .goto 1],
  [.iload 7, .invokeinterface 59 1, .ireturn]]
-- 65 State.init ()V
def zb_65 : List (List Instr) := [
  [.aload 0, .monitorexit, .aload 0, .iconst 0, .putfield 448, .aload 0, .iconst 0, .putfield 449, .aload 0, .iconst 9, .iconst 12, .multianewarray 0 2, .putfield 450, .aload 0, .iconst 6, .iconst 24, .multianewarray 0 2, .putfield 451, .return_]]
-- 66 State.copyFrom (LServiceBudgets$State;)V
def zb_66 : List (List Instr) := [
  [.aload 0, .aload 1, .getfield 448, .putfield 448, .aload 0, .aload 1, .getfield 449, .putfield 449, .iconst 0, .istore 2, .goto_w 1],
  [.iload 2, .iconst 8, .if_icmp .gt 2, .aload 1, .getfield 450, .iload 2, .aaload, .iconst 0, .aload 0, .getfield 450, .iload 2, .aaload, .iconst 0, .iconst 12, .pop2, .iinc 2 1, .goto 1],
  [.iconst 0, .istore 2, .goto_w 3],
  [.iload 2, .iconst 5, .if_icmp .gt 4, .aload 1, .getfield 451, .iload 2, .aaload, .iconst 0, .aload 0, .getfield 451, .iload 2, .aaload, .iconst 0, .iconst 24, .pop2, .iinc 2 1, .goto 3],
  [.return_]]
-- 67 State.whyNoService (I)I
def zb_67 : List (List Instr) := [
  [.iload 1, .ifCond .lt 1, .iload 1, .aload 0, .getfield 448, .if_icmp .lt 2, .goto_w 1],
  [.iconst 1, .goto 3],
  [.iconst 0, .goto_w 3],
  [.ireturn]]
-- 68 State.whyNoCall (I)I
def zb_68 : List (List Instr) := [
  [.iload 1, .ifCond .lt 1, .iload 1, .aload 0, .getfield 449, .if_icmp .lt 2, .goto_w 1],
  [.iconst 1, .goto 3],
  [.iconst 0, .goto_w 3],
  [.ireturn]]
-- 69 State.whyNoSet (I)I
def zb_69 : List (List Instr) := [
  [.iload 1, .aload 0, .getfield 448, .iushr, .ifCond .eq 1, .iconst 2, .goto 2],
  [.iconst 0, .goto_w 2],
  [.ireturn]]
-- 70 State.whyNotNewService (I)I
def zb_70 : List (List Instr) := [
  [.iload 1, .getstatic 0, .iconst 0, .iaload, .if_icmp .lt 1, .iload 1, .getstatic 1, .iconst 0, .iaload, .if_icmp .le 2, .goto_w 1],
  [.iconst 2, .ireturn],
  [.aload 0, .getfield 448, .iconst 12, .if_icmp .lt 3, .iconst 3, .goto 4],
  [.iconst 0, .goto_w 4],
  [.ireturn]]
-- 71 State.newService (I)I
def zb_71 : List (List Instr) := [
  [.aload 0, .getfield 448, .istore 2, .iconst 0, .istore 3, .goto_w 1],
  [.iload 3, .iconst 5, .if_icmp .gt 2, .aload 0, .getfield 450, .iload 3, .aaload, .iload 2, .getstatic 2, .iload 3, .iaload, .iastore, .iinc 3 1, .goto 1],
  [.aload 0, .getfield 450, .iconst 0, .aaload, .iload 2, .iload 1, .iastore, .aload 0, .getfield 450, .iconst 6, .aaload, .iload 2, .iconst 1, .iastore, .aload 0, .getfield 450, .iconst 7, .aaload, .iload 2, .iconst 0, .iastore, .aload 0, .getfield 450, .iconst 8, .aaload, .iload 2, .iconst (-1), .iastore, .aload 0, .dup, .getfield 448, .iconst 1, .iadd, .putfield 448, .iload 2, .ireturn]]
-- 72 State.whyNotNewCall (IIIII)I
def zb_72 : List (List Instr) := [
  [.aload 0, .iload 1, .invokeinterface 67 2, .ifCond .ne 1, .aload 0, .iload 2, .invokeinterface 67 2, .ifCond .eq 2, .goto_w 1],
  [.iconst 1, .ireturn],
  [.iload 3, .iconst 1, .iconst 500, .invokeinterface 157 3, .ifCond .ne 3, .iload 4, .iconst 1, .iconst 3, .invokeinterface 157 3, .ifCond .ne 3, .iload 5, .iconst 0, .iconst 2, .invokeinterface 157 3, .ifCond .eq 4, .goto_w 3],
  [.iconst 2, .ireturn],
  [.iload 1, .iload 2, .if_icmp .eq 5, .aload 0, .iload 2, .invokeinterface 87 2, .iload 1, .invokeinterface 158 2, .ifCond .eq 6, .goto_w 5],
  [.iconst 3, .ireturn],
  [.iload 5, .iconst 2, .if_icmp .ne 7, .aload 0, .iload 1, .invokeinterface 83 2, .iconst (-1), .if_icmp .ne 7, .iconst 3, .ireturn],
  [.aload 0, .getfield 449, .iconst 24, .if_icmp .lt 8, .iconst 3, .goto 9],
  [.iconst 0, .goto_w 9],
  [.ireturn]]
-- 73 State.newCall (IIIII)I
def zb_73 : List (List Instr) := [
  [.aload 0, .getfield 449, .istore 6, .aload 0, .getfield 451, .iconst 5, .aaload, .iload 6, .iload 5, .iconst 2, .if_icmp .ne 1, .aload 0, .iload 1, .invokeinterface 83 2, .goto 2],
  [.iconst (-1), .goto_w 2],
  [.iastore, .aload 0, .getfield 451, .iconst 0, .aaload, .iload 6, .iload 1, .iastore, .aload 0, .getfield 451, .iconst 1, .aaload, .iload 6, .iload 2, .iastore, .aload 0, .getfield 451, .iconst 2, .aaload, .iload 6, .iload 3, .iastore, .aload 0, .getfield 451, .iconst 3, .aaload, .iload 6, .iload 4, .iastore, .aload 0, .getfield 451, .iconst 4, .aaload, .iload 6, .iload 5, .iastore, .aload 0, .dup, .getfield 449, .iconst 1, .iadd, .putfield 449, .iload 6, .ireturn]]
-- 74 State.whyNotDropCall (I)I
def zb_74 : List (List Instr) := [
  [.aload 0, .iload 1, .invokeinterface 68 2, .ifCond .eq 1, .iconst 1, .ireturn],
  [.iconst 0, .istore 2, .goto_w 2],
  [.iload 2, .aload 0, .getfield 449, .if_icmp .ge 4, .aload 0, .getfield 451, .iconst 5, .aaload, .iload 2, .iaload, .iload 1, .if_icmp .ne 3, .iconst 3, .ireturn],
  [.iinc 2 1, .goto 2],
  [.iconst 0, .ireturn]]
-- 75 State.dropCall (I)I
def zb_75 : List (List Instr) := [
  [.aload 0, .dup, .getfield 449, .iconst 1, .isub, .putfield 449, .iconst 0, .istore 2, .goto_w 1],
  [.iload 2, .iconst 5, .if_icmp .gt 2, .aload 0, .getfield 451, .iload 2, .aaload, .iload 1, .iconst 1, .iadd, .aload 0, .getfield 451, .iload 2, .aaload, .iload 1, .aload 0, .getfield 449, .iload 1, .isub, .pop2, .iinc 2 1, .goto 1],
  [.iconst 0, .istore 2, .goto_w 3],
  [.iload 2, .aload 0, .getfield 449, .if_icmp .ge 5, .aload 0, .getfield 451, .iconst 5, .aaload, .iload 2, .iaload, .iload 1, .if_icmp .le 4, .aload 0, .getfield 451, .iconst 5, .aaload, .iload 2, .dup2, .iaload, .iconst 1, .isub, .iastore, .goto_w 4],
  [.iinc 2 1, .goto 3],
  [.aload 0, .getfield 449, .ireturn]]
-- 76 State.whyNotChange (III)I
def zb_76 : List (List Instr) := [
  [.aload 0, .iload 2, .invokeinterface 67 2, .ifCond .eq 1, .iconst 1, .ireturn],
  [.iload 1, .ifCond .lt 2, .iload 1, .iconst 5, .if_icmp .le 3, .goto_w 2],
  [.iconst 2, .ireturn],
  [.iload 3, .getstatic 0, .iload 1, .iaload, .getstatic 1, .iload 1, .iaload, .invokeinterface 157 3, .ireturn]]
-- 77 State.change (III)I
def zb_77 : List (List Instr) := [
  [.aload 0, .getfield 450, .iload 1, .aaload, .iload 2, .iaload, .istore 4, .aload 0, .getfield 450, .iload 1, .aaload, .iload 2, .iload 3, .iastore, .iload 4, .ireturn]]
-- 78 State.whyNotChangeLimit (II)I
def zb_78 : List (List Instr) := [
  [.aload 0, .iload 1, .invokeinterface 68 2, .ifCond .eq 1, .iconst 1, .goto 2],
  [.iload 2, .iconst 1, .iconst 500, .invokeinterface 157 3, .goto_w 2],
  [.ireturn]]
-- 79 State.changeLimit (II)I
def zb_79 : List (List Instr) := [
  [.aload 0, .getfield 451, .iconst 2, .aaload, .iload 1, .iaload, .istore 3, .aload 0, .getfield 451, .iconst 2, .aaload, .iload 1, .iload 2, .iastore, .iload 3, .ireturn]]
-- 80 State.tellOfService (II)I
def zb_80 : List (List Instr) := [
  [.iload 2, .iconst 8, .if_icmp .gt 1, .aload 0, .getfield 450, .iload 2, .aaload, .iload 1, .iaload, .ireturn],
  [.iload 2, .iconst 9, .if_icmp .ne 2, .aload 0, .iload 1, .invokeinterface 81 2, .goto 3],
  [.aload 0, .iload 1, .invokeinterface 82 2, .goto_w 3],
  [.ireturn]]
-- 81 State.ownTimeOf (I)I
def zb_81 : List (List Instr) := [
  [.aload 0, .getfield 450, .iconst 0, .aaload, .iload 1, .iaload, .aload 0, .getfield 450, .iconst 1, .aaload, .iload 1, .iaload, .imul, .iconst 99, .iadd, .iconst 100, .idiv, .ireturn]]
-- 82 State.countCallsOf (I)I
def zb_82 : List (List Instr) := [
  [.iconst 0, .istore 2, .iconst 0, .istore 3, .goto_w 1],
  [.iload 3, .aload 0, .getfield 449, .if_icmp .ge 3, .aload 0, .getfield 451, .iconst 0, .aaload, .iload 3, .iaload, .iload 1, .if_icmp .ne 2, .iinc 2 1, .goto_w 2],
  [.iinc 3 1, .goto 1],
  [.iload 2, .ireturn]]
-- 83 State.lastHeadOf (I)I
def zb_83 : List (List Instr) := [
  [.aload 0, .getfield 449, .iconst 1, .isub, .istore 2, .goto_w 1],
  [.iload 2, .ifCond .lt 3, .aload 0, .iload 2, .iload 1, .invokeinterface 84 3, .ifCond .eq 2, .iload 2, .ireturn],
  [.iinc 2 (-1), .goto 1],
  [.iconst (-1), .ireturn]]
-- 84 State.isHeadOf (II)Z
def zb_84 : List (List Instr) := [
  [.aload 0, .getfield 451, .iconst 0, .aaload, .iload 1, .iaload, .iload 2, .if_icmp .ne 1, .aload 0, .getfield 451, .iconst 4, .aaload, .iload 1, .iaload, .iconst 2, .if_icmp .eq 1, .iconst 1, .goto 2],
  [.iconst 0, .goto_w 2],
  [.ireturn]]
-- 85 State.isInGroup (II)Z
def zb_85 : List (List Instr) := [
  [.iload 1, .iload 2, .if_icmp .eq 1, .aload 0, .getfield 451, .iconst 5, .aaload, .iload 1, .iaload, .iload 2, .if_icmp .ne 2, .goto_w 1],
  [.iconst 1, .goto 3],
  [.iconst 0, .goto_w 3],
  [.ireturn]]
-- 86 State.isNeeded (I)Z
def zb_86 : List (List Instr) := [
  [.aload 0, .getfield 451, .iconst 4, .aaload, .iload 1, .iaload, .ifCond .ne 1, .iconst 1, .goto 2],
  [.iconst 0, .goto_w 2],
  [.ireturn]]
-- 87 State.needsOf (I)I
def zb_87 : List (List Instr) := [
  [.iconst 1, .iload 1, .ishl, .istore 2, .iconst 0, .istore 3, .iconst 0, .istore 4, .goto_w 1],
  [.iload 4, .aload 0, .getfield 448, .if_icmp .ge 3, .aload 0, .iload 2, .invokeinterface 88 2, .istore 5, .iload 5, .iload 3, .iconst (-1), .ixor, .iand, .ifCond .ne 2, .iload 3, .ireturn],
  [.iload 3, .iload 5, .ior, .istore 3, .iload 2, .iload 5, .ior, .istore 2, .iinc 4 1, .goto 1],
  [.iload 3, .ireturn]]
-- 88 State.calleesOf (I)I
def zb_88 : List (List Instr) := [
  [.iconst 0, .istore 2, .iconst 0, .istore 3, .goto_w 1],
  [.iload 3, .aload 0, .getfield 449, .if_icmp .ge 3, .iload 1, .aload 0, .getfield 451, .iconst 0, .aaload, .iload 3, .iaload, .invokeinterface 158 2, .ifCond .eq 2, .iload 2, .iconst 1, .aload 0, .getfield 451, .iconst 1, .aaload, .iload 3, .iaload, .ishl, .ior, .istore 2, .goto_w 2],
  [.iinc 3 1, .goto 1],
  [.iload 2, .ireturn]]
-- 89 State.lacksNeeded (II)Z
def zb_89 : List (List Instr) := [
  [.iconst 0, .istore 3, .goto_w 1],
  [.iload 3, .aload 0, .getfield 449, .if_icmp .ge 3, .aload 0, .iload 3, .iload 1, .invokeinterface 84 3, .ifCond .eq 2, .aload 0, .iload 3, .invokeinterface 86 2, .ifCond .eq 2, .aload 0, .iload 3, .iload 2, .invokeinterface 90 3, .ifCond .eq 2, .iconst 1, .ireturn],
  [.iinc 3 1, .goto 1],
  [.iconst 0, .ireturn]]
-- 90 State.isGroupWithin (II)Z
def zb_90 : List (List Instr) := [
  [.iload 1, .istore 3, .goto_w 1],
  [.iload 3, .aload 0, .getfield 449, .if_icmp .ge 3, .aload 0, .iload 3, .iload 1, .invokeinterface 85 3, .ifCond .eq 2, .iload 2, .aload 0, .getfield 451, .iconst 1, .aaload, .iload 3, .iaload, .invokeinterface 158 2, .ifCond .ne 2, .iconst 0, .ireturn],
  [.iinc 3 1, .goto 1],
  [.iconst 1, .ireturn]]
-- 91 State.isUp (I)Z
def zb_91 : List (List Instr) := [
  [.aload 0, .getfield 450, .iconst 6, .aaload, .iload 1, .iaload, .iconst 1, .if_icmp .ne 1, .iconst 1, .goto 2],
  [.iconst 0, .goto_w 2],
  [.ireturn]]
-- 92 State.downSet ()I
def zb_92 : List (List Instr) := [
  [.iconst 0, .istore 1, .iconst 0, .istore 2, .goto_w 1],
  [.iload 2, .aload 0, .getfield 448, .if_icmp .ge 3, .aload 0, .iload 2, .invokeinterface 91 2, .ifCond .ne 2, .iload 1, .iconst 1, .iload 2, .ishl, .ior, .istore 1, .goto_w 2],
  [.iinc 2 1, .goto 1],
  [.iload 1, .ireturn]]
-- 93 State.countUp ()I
def zb_93 : List (List Instr) := [
  [.aload 0, .getfield 448, .aload 0, .invokeinterface 92 1, .invokeinterface 302 1, .isub, .ireturn]]
-- 94 State.whyNotGoDown (I)I
def zb_94 : List (List Instr) := [
  [.aload 0, .iload 1, .invokeinterface 67 2, .ifCond .eq 1, .iconst 1, .ireturn],
  [.aload 0, .iload 1, .invokeinterface 91 2, .ifCond .eq 2, .iconst 0, .goto 3],
  [.iconst 3, .goto_w 3],
  [.ireturn]]
-- 95 State.goDown (I)V
def zb_95 : List (List Instr) := [
  [.aload 0, .getfield 450, .iconst 6, .aaload, .iload 1, .iconst 0, .iastore, .aload 0, .getfield 450, .iconst 7, .aaload, .iload 1, .iconst 0, .iastore, .aload 0, .getfield 450, .iconst 8, .aaload, .iload 1, .iconst (-1), .iastore, .return_]]
-- 96 State.whyNotBeginRepair (I)I
def zb_96 : List (List Instr) := [
  [.aload 0, .iload 1, .invokeinterface 67 2, .ifCond .eq 1, .iconst 1, .ireturn],
  [.aload 0, .iload 1, .invokeinterface 91 2, .ifCond .ne 2, .aload 0, .getfield 450, .iconst 8, .aaload, .iload 1, .iaload, .iconst (-1), .if_icmp .eq 3, .goto_w 2],
  [.iconst 3, .goto 4],
  [.iconst 0, .goto_w 4],
  [.ireturn]]
-- 97 State.beginRepair (I)I
def zb_97 : List (List Instr) := [
  [.aload 0, .getfield 450, .iconst 8, .aaload, .iload 1, .aload 0, .getfield 450, .iconst 3, .aaload, .iload 1, .iaload, .iastore, .aload 0, .getfield 450, .iconst 8, .aaload, .iload 1, .iaload, .ireturn]]
-- 98 State.makeSteps (I)V
def zb_98 : List (List Instr) := [
  [.iconst 0, .istore 2, .goto_w 1],
  [.iload 2, .iload 1, .if_icmp .ge 2, .aload 0, .invokeinterface 99 1, .pop, .iinc 2 1, .goto 1],
  [.return_]]
-- 99 State.makeStep ()I
def zb_99 : List (List Instr) := [
  [.aload 0, .invokeinterface 92 1, .istore 1, .iconst 0, .istore 2, .iconst 0, .istore 3, .goto_w 1],
  [.iload 3, .aload 0, .getfield 448, .if_icmp .ge 4, .aload 0, .iload 3, .iload 1, .invokeinterface 89 3, .istore 4, .iload 1, .iload 3, .invokeinterface 158 2, .ifCond .eq 2, .aload 0, .iload 3, .iload 4, .invokeinterface 100 3, .goto 3],
  [.aload 0, .iload 3, .iload 4, .invokeinterface 101 3, .aload 0, .getfield 450, .iconst 7, .aaload, .iload 3, .iaload, .aload 0, .getfield 450, .iconst 2, .aaload, .iload 3, .iaload, .if_icmp .lt 3, .aload 0, .iload 3, .invokeinterface 95 2, .iload 2, .iconst 1, .iload 3, .ishl, .ior, .istore 2, .goto_w 3],
  [.iinc 3 1, .goto 1],
  [.iload 2, .ireturn]]
-- 100 State.mend (IZ)V
def zb_100 : List (List Instr) := [
  [.aload 0, .getfield 450, .iconst 8, .aaload, .iload 1, .iaload, .istore 3, .iload 3, .iconst (-1), .if_icmp .ne 1, .return_],
  [.iload 3, .ifCond .le 2, .iinc 3 (-1), .goto_w 2],
  [.aload 0, .getfield 450, .iconst 8, .aaload, .iload 1, .iload 3, .iastore, .iload 3, .ifCond .ne 3, .iload 2, .ifCond .ne 3, .aload 0, .getfield 450, .iconst 6, .aaload, .iload 1, .iconst 1, .iastore, .aload 0, .getfield 450, .iconst 7, .aaload, .iload 1, .iconst 0, .iastore, .aload 0, .getfield 450, .iconst 8, .aaload, .iload 1, .iconst (-1), .iastore, .goto_w 3],
  [.return_]]
-- 101 State.changeStrain (IZ)V
def zb_101 : List (List Instr) := [
  [.iload 2, .ifCond .eq 1, .aload 0, .getfield 450, .iconst 7, .aaload, .iload 1, .dup2, .iaload, .iconst 1, .iadd, .iastore, .goto 2],
  [.aload 0, .getfield 450, .iconst 7, .aaload, .iload 1, .iaload, .ifCond .le 2, .aload 0, .getfield 450, .iconst 7, .aaload, .iload 1, .dup2, .iaload, .iconst 1, .isub, .iastore, .goto_w 2],
  [.return_]]
-- 102 Text.init ()V
def zb_102 : List (List Instr) := [
  [.aload 0, .monitorexit, .aload 0, .iconst 120, .newarray .int, .putfield 512, .aload 0, .iconst 0, .putfield 513, .aload 0, .iconst 40, .newarray .int, .putfield 514, .aload 0, .iconst 5, .iconst 40, .multianewarray 0 2, .putfield 515, .return_]]
-- 103 Text.whyFull ()I
def zb_103 : List (List Instr) := [
  [.aload 0, .getfield 513, .iconst 120, .if_icmp .lt 1, .iconst 3, .goto 2],
  [.iconst 0, .goto_w 2],
  [.ireturn]]
-- 104 Text.add (I)I
def zb_104 : List (List Instr) := [
  [.aload 0, .getfield 512, .aload 0, .getfield 513, .iload 1, .iastore, .aload 0, .dup, .getfield 513, .iconst 1, .iadd, .putfield 513, .aload 0, .getfield 513, .ireturn]]
-- 105 Text.empty ()I
def zb_105 : List (List Instr) := [
  [.aload 0, .getfield 513, .istore 1, .aload 0, .iconst 0, .putfield 513, .iload 1, .ireturn]]
-- 106 Text.parse ()I
def zb_106 : List (List Instr) := [
  [.iconst 0, .istore 1, .iconst 0, .istore 2, .goto_w 1],
  [.iload 2, .aload 0, .getfield 513, .if_icmp .ge 3, .iload 1, .iconst 40, .if_icmp .ge 3, .aload 0, .iload 2, .iload 1, .invokeinterface 109 3, .istore 2, .iload 2, .ifCond .ge 2, .iconst (-10), .iload 2, .invokeinterface 108 1, .isub, .ireturn],
  [.iinc 1 1, .goto 1],
  [.iload 1, .ireturn]]
-- 107 Text.errorAt (I)I
def zb_107 : List (List Instr) := [
  [.iconst (-1), .iload 0, .isub, .ireturn]]
-- 108 Text.placeOf (I)I
def zb_108 : List (List Instr) := [
  [.iconst (-1), .iload 0, .isub, .ireturn]]
-- 109 Text.parseCommand (II)I
def zb_109 : List (List Instr) := [
  [.aload 0, .getfield 512, .iload 1, .iaload, .invokeinterface 110 1, .istore 3, .iload 3, .ifCond .ne 1, .iload 1, .invokeinterface 107 1, .ireturn],
  [.aload 0, .getfield 514, .iload 2, .aload 0, .getfield 512, .iload 1, .iaload, .iastore, .iload 1, .iconst 1, .iadd, .istore 4, .iconst 0, .istore 5, .goto_w 2],
  [.iload 5, .iload 3, .if_icmp .ge 7, .aload 0, .iload 4, .invokeinterface 111 2, .istore 6, .iload 6, .iload 4, .if_icmp .eq 5, .iload 6, .aload 0, .getfield 513, .if_icmp .ge 5, .aload 0, .getfield 512, .iload 6, .iaload, .iload 5, .iconst 1, .iadd, .iload 3, .if_icmp .ge 3, .iconst 44, .goto 4],
  [.iconst 59, .goto_w 4],
  [.if_icmp .eq 6, .goto_w 5],
  [.iload 6, .invokeinterface 107 1, .ireturn],
  [.aload 0, .getfield 515, .iload 5, .aaload, .iload 2, .aload 0, .iload 4, .iload 6, .invokeinterface 112 3, .iastore, .iload 6, .iconst 1, .iadd, .istore 4, .iinc 5 1, .goto 2],
  [.iload 4, .ireturn]]
-- 110 Text.numbersOf (I)I
def zb_110 : List (List Instr) := [
  [.iload 0, .lookupswitch 4 #[(97, 1), (98, 4), (99, 3), (100, 1), (101, 4), (102, 4), (103, 4), (104, 4), (105, 4), (106, 4), (107, 4), (108, 4), (109, 4), (110, 4), (111, 4), (112, 2), (113, 4), (114, 1), (115, 1)]],
  [.iconst 1, .ireturn],
  [.iconst 3, .ireturn],
  [.iconst 5, .ireturn],
  [.iconst 0, .ireturn]]
-- 111 Text.endOfDigits (I)I
def zb_111 : List (List Instr) := [
  [.iload 1, .istore 2, .goto_w 1],
  [.iload 2, .aload 0, .getfield 513, .if_icmp .ge 2, .iload 2, .iload 1, .iconst 3, .iadd, .if_icmp .ge 2, .aload 0, .getfield 512, .iload 2, .iaload, .iconst 48, .if_icmp .lt 2, .aload 0, .getfield 512, .iload 2, .iaload, .iconst 57, .if_icmp .gt 2, .iinc 2 1, .goto 1],
  [.iload 2, .ireturn]]
-- 112 Text.valueOf (II)I
def zb_112 : List (List Instr) := [
  [.iconst 0, .istore 3, .iload 1, .istore 4, .goto_w 1],
  [.iload 4, .iload 2, .if_icmp .ge 2, .iconst 10, .iload 3, .imul, .aload 0, .getfield 512, .iload 4, .iaload, .iadd, .iconst 48, .isub, .istore 3, .iinc 4 1, .goto 1],
  [.iload 3, .ireturn]]
-- 113 Text.whyNotCommand (LServiceBudgets$State;I)I
def zb_113 : List (List Instr) := [
  [.aload 0, .getfield 515, .iconst 0, .aaload, .iload 2, .iaload, .istore 3, .aload 0, .getfield 515, .iconst 1, .aaload, .iload 2, .iaload, .istore 4, .aload 0, .getfield 515, .iconst 2, .aaload, .iload 2, .iaload, .istore 5, .aload 0, .getfield 514, .iload 2, .iaload, .lookupswitch 6 #[(97, 1), (99, 2), (100, 3), (114, 4), (115, 5)]],
  [.aload 1, .iload 3, .invokeinterface 70 2, .ireturn],
  [.aload 1, .iload 3, .iload 4, .iload 5, .aload 0, .getfield 515, .iconst 3, .aaload, .iload 2, .iaload, .aload 0, .getfield 515, .iconst 4, .aaload, .iload 2, .iaload, .invokeinterface 72 6, .ireturn],
  [.aload 1, .iload 3, .invokeinterface 94 2, .ireturn],
  [.aload 1, .iload 3, .invokeinterface 96 2, .ireturn],
  [.iload 3, .iconst 1, .iconst 50, .invokeinterface 157 3, .ireturn],
  [.aload 1, .iload 3, .iload 4, .iload 5, .invokeinterface 76 4, .ireturn]]
-- 114 Text.carryOut (LServiceBudgets$State;I)V
def zb_114 : List (List Instr) := [
  [.aload 0, .getfield 515, .iconst 0, .aaload, .iload 2, .iaload, .istore 3, .aload 0, .getfield 515, .iconst 1, .aaload, .iload 2, .iaload, .istore 4, .aload 0, .getfield 515, .iconst 2, .aaload, .iload 2, .iaload, .istore 5, .aload 0, .getfield 514, .iload 2, .iaload, .lookupswitch 6 #[(97, 1), (99, 2), (100, 3), (114, 4), (115, 5)]],
  [.aload 1, .iload 3, .invokeinterface 71 2, .pop, .goto 7],
  [.aload 1, .iload 3, .iload 4, .iload 5, .aload 0, .getfield 515, .iconst 3, .aaload, .iload 2, .iaload, .aload 0, .getfield 515, .iconst 4, .aaload, .iload 2, .iaload, .invokeinterface 73 6, .pop, .goto 7],
  [.aload 1, .iload 3, .invokeinterface 95 2, .goto 7],
  [.aload 1, .iload 3, .invokeinterface 97 2, .pop, .goto 7],
  [.aload 1, .iload 3, .invokeinterface 98 2, .goto 7],
  [.aload 1, .iload 3, .iload 4, .iload 5, .invokeinterface 77 4, .pop, .goto_w 7],
  [.return_]]
-- 115 SB.init ()V
def zb_115 : List (List Instr) := [
  [.aload 0, .monitorexit, .aload 0, .new 7, .dup, .invokeinterface 65 1, .putfield 576, .aload 0, .new 7, .dup, .invokeinterface 65 1, .putfield 577, .aload 0, .new 3, .dup, .invokeinterface 31 1, .putfield 578, .aload 0, .new 2, .dup, .invokeinterface 17 1, .putfield 579, .aload 0, .new 5, .dup, .invokeinterface 46 1, .putfield 580, .aload 0, .new 0, .dup, .invokeinterface 0 1, .putfield 581, .aload 0, .new 4, .dup, .invokeinterface 36 1, .putfield 582, .aload 0, .new 1, .dup, .invokeinterface 6 1, .putfield 583, .aload 0, .new 8, .dup, .invokeinterface 102 1, .putfield 584, .return_]]
-- 116 SB.addService (I)I
def zb_116 : List (List Instr) := [
  [.aload 0, .getfield 576, .iload 1, .invokeinterface 70 2, .invokeinterface 156 1, .aload 0, .getfield 578, .aload 0, .getfield 576, .invokeinterface 32 2, .aload 0, .getfield 576, .iload 1, .invokeinterface 71 2, .ireturn]]
-- 117 SB.addCall (IIIII)I
def zb_117 : List (List Instr) := [
  [.aload 0, .getfield 576, .iload 1, .iload 2, .iload 3, .iload 4, .iload 5, .invokeinterface 72 6, .invokeinterface 156 1, .aload 0, .getfield 578, .aload 0, .getfield 576, .invokeinterface 32 2, .aload 0, .getfield 576, .iload 1, .iload 2, .iload 3, .iload 4, .iload 5, .invokeinterface 73 6, .ireturn]]
-- 118 SB.removeCall (I)I
def zb_118 : List (List Instr) := [
  [.aload 0, .getfield 576, .iload 1, .invokeinterface 74 2, .invokeinterface 156 1, .aload 0, .getfield 578, .aload 0, .getfield 576, .invokeinterface 32 2, .aload 0, .getfield 576, .iload 1, .invokeinterface 75 2, .ireturn]]
-- 119 SB.set (III)I
def zb_119 : List (List Instr) := [
  [.aload 0, .getfield 576, .iload 1, .iload 2, .iload 3, .invokeinterface 76 4, .invokeinterface 156 1, .aload 0, .getfield 578, .aload 0, .getfield 576, .invokeinterface 32 2, .aload 0, .getfield 576, .iload 1, .iload 2, .iload 3, .invokeinterface 77 4, .ireturn]]
-- 120 SB.setLimit (II)I
def zb_120 : List (List Instr) := [
  [.aload 0, .getfield 576, .iload 1, .iload 2, .invokeinterface 78 3, .invokeinterface 156 1, .aload 0, .getfield 578, .aload 0, .getfield 576, .invokeinterface 32 2, .aload 0, .getfield 576, .iload 1, .iload 2, .invokeinterface 79 3, .ireturn]]
-- 121 SB.services ()I
def zb_121 : List (List Instr) := [
  [.aload 0, .getfield 576, .getfield 448, .ireturn]]
-- 122 SB.calls ()I
def zb_122 : List (List Instr) := [
  [.aload 0, .getfield 576, .getfield 449, .ireturn]]
-- 123 SB.service (II)I
def zb_123 : List (List Instr) := [
  [.aload 0, .getfield 576, .iload 1, .invokeinterface 67 2, .invokeinterface 156 1, .iload 2, .iconst 0, .iconst 10, .invokeinterface 157 3, .invokeinterface 156 1, .aload 0, .getfield 576, .iload 1, .iload 2, .invokeinterface 80 3, .ireturn]]
-- 124 SB.call (II)I
def zb_124 : List (List Instr) := [
  [.aload 0, .getfield 576, .iload 1, .invokeinterface 68 2, .invokeinterface 156 1, .iload 2, .iconst 0, .iconst 5, .invokeinterface 157 3, .invokeinterface 156 1, .aload 0, .getfield 576, .getfield 451, .iload 2, .aaload, .iload 1, .iaload, .ireturn]]
-- 125 SB.depends (II)Z
def zb_125 : List (List Instr) := [
  [.aload 0, .getfield 576, .iload 1, .invokeinterface 67 2, .invokeinterface 156 1, .aload 0, .getfield 576, .iload 2, .invokeinterface 67 2, .invokeinterface 156 1, .aload 0, .getfield 576, .iload 1, .invokeinterface 87 2, .iload 2, .invokeinterface 158 2, .ireturn]]
-- 126 SB.order (I)I
def zb_126 : List (List Instr) := [
  [.aload 0, .getfield 579, .aload 0, .getfield 576, .invokeinterface 18 2, .aload 0, .getfield 579, .iload 1, .invokeinterface 21 2, .ireturn]]
-- 127 SB.level (I)I
def zb_127 : List (List Instr) := [
  [.aload 0, .getfield 576, .iload 1, .invokeinterface 67 2, .invokeinterface 156 1, .aload 0, .getfield 579, .aload 0, .getfield 576, .invokeinterface 23 2, .aload 0, .getfield 579, .getfield 131, .iload 1, .iaload, .ireturn]]
-- 128 SB.request (II)Z
def zb_128 : List (List Instr) := [
  [.aload 0, .getfield 576, .iload 1, .invokeinterface 67 2, .invokeinterface 156 1, .iload 2, .iconst 0, .iconst 1000, .invokeinterface 157 3, .invokeinterface 156 1, .aload 0, .getfield 580, .aload 0, .getfield 576, .iload 1, .iload 2, .invokeinterface 47 4, .ireturn]]
-- 129 SB.result (I)I
def zb_129 : List (List Instr) := [
  [.iload 1, .iconst 0, .iconst 5, .invokeinterface 157 3, .invokeinterface 156 1, .aload 0, .getfield 580, .invokeinterface 52 1, .invokeinterface 156 1, .aload 0, .getfield 580, .iload 1, .invokeinterface 53 2, .ireturn]]
-- 130 SB.failure (II)I
def zb_130 : List (List Instr) := [
  [.iload 2, .iconst 0, .iconst 3, .invokeinterface 157 3, .invokeinterface 156 1, .aload 0, .getfield 580, .iload 1, .iload 2, .invokeinterface 55 3, .ireturn]]
-- 131 SB.attempt (II)I
def zb_131 : List (List Instr) := [
  [.iload 2, .iconst 0, .iconst 3, .invokeinterface 157 3, .invokeinterface 156 1, .aload 0, .getfield 580, .iload 1, .iload 2, .invokeinterface 56 3, .ireturn]]
-- 132 SB.leastBudget (I)I
def zb_132 : List (List Instr) := [
  [.aload 0, .getfield 576, .iload 1, .invokeinterface 67 2, .invokeinterface 156 1, .aload 0, .getfield 581, .aload 0, .getfield 576, .iload 1, .invokeinterface 1 3, .ireturn]]
-- 133 SB.worst (I)I
def zb_133 : List (List Instr) := [
  [.aload 0, .getfield 576, .iload 1, .invokeinterface 67 2, .invokeinterface 156 1, .aload 0, .getfield 579, .aload 0, .getfield 576, .invokeinterface 25 2, .aload 0, .getfield 579, .getfield 132, .iload 1, .iaload, .ireturn]]
-- 134 SB.unsound ()I
def zb_134 : List (List Instr) := [
  [.aload 0, .getfield 579, .aload 0, .getfield 576, .invokeinterface 25 2, .aload 0, .getfield 579, .aload 0, .getfield 576, .invokeinterface 27 2, .ireturn]]
-- 135 SB.tighten ()I
def zb_135 : List (List Instr) := [
  [.aload 0, .getfield 578, .aload 0, .getfield 576, .invokeinterface 32 2, .aload 0, .getfield 579, .aload 0, .getfield 576, .invokeinterface 28 2, .ireturn]]
-- 136 SB.fail (I)I
def zb_136 : List (List Instr) := [
  [.aload 0, .getfield 576, .iload 1, .invokeinterface 94 2, .invokeinterface 156 1, .aload 0, .getfield 578, .aload 0, .getfield 576, .invokeinterface 32 2, .aload 0, .getfield 576, .iload 1, .invokeinterface 95 2, .aload 0, .getfield 576, .invokeinterface 93 1, .ireturn]]
-- 137 SB.repair (I)I
def zb_137 : List (List Instr) := [
  [.aload 0, .getfield 576, .iload 1, .invokeinterface 96 2, .invokeinterface 156 1, .aload 0, .getfield 578, .aload 0, .getfield 576, .invokeinterface 32 2, .aload 0, .getfield 576, .iload 1, .invokeinterface 97 2, .ireturn]]
-- 138 SB.steps (I)I
def zb_138 : List (List Instr) := [
  [.iload 1, .iconst 1, .iconst 50, .invokeinterface 157 3, .invokeinterface 156 1, .aload 0, .getfield 578, .aload 0, .getfield 576, .invokeinterface 32 2, .aload 0, .getfield 576, .iload 1, .invokeinterface 98 2, .aload 0, .getfield 576, .invokeinterface 93 1, .ireturn]]
-- 139 SB.down ()I
def zb_139 : List (List Instr) := [
  [.aload 0, .getfield 576, .invokeinterface 92 1, .ireturn]]
-- 140 SB.spread (I)I
def zb_140 : List (List Instr) := [
  [.aload 0, .getfield 576, .iload 1, .invokeinterface 94 2, .invokeinterface 156 1, .aload 0, .getfield 577, .aload 0, .getfield 576, .invokeinterface 66 2, .aload 0, .getfield 577, .iload 1, .invokeinterface 95 2, .aload 0, .getfield 577, .iconst 40, .invokeinterface 98 2, .aload 0, .getfield 577, .invokeinterface 92 1, .ireturn]]
-- 141 SB.calm (I)I
def zb_141 : List (List Instr) := [
  [.aload 0, .getfield 576, .iload 1, .invokeinterface 94 2, .invokeinterface 156 1, .aload 0, .getfield 577, .aload 0, .getfield 576, .invokeinterface 66 2, .aload 0, .getfield 577, .iload 1, .invokeinterface 95 2, .iconst 1, .istore 2, .goto_w 1],
  [.iload 2, .iconst 40, .if_icmp .gt 3, .aload 0, .getfield 577, .invokeinterface 99 1, .ifCond .eq 2, .iload 2, .ireturn],
  [.iinc 2 1, .goto 1],
  [.iconst (-1), .ireturn]]
-- 142 SB.recoveryTime (I)I
def zb_142 : List (List Instr) := [
  [.iload 1, .iconst 1, .iconst 4, .invokeinterface 157 3, .invokeinterface 156 1, .aload 0, .getfield 582, .aload 0, .getfield 576, .iload 1, .invokeinterface 38 3, .ireturn]]
-- 143 SB.recoveryStart (II)I
def zb_143 : List (List Instr) := [
  [.iload 1, .iconst 1, .iconst 4, .invokeinterface 157 3, .invokeinterface 156 1, .aload 0, .getfield 576, .iload 2, .invokeinterface 67 2, .invokeinterface 156 1, .aload 0, .getfield 576, .iload 2, .invokeinterface 91 2, .ifCond .eq 1, .iconst (-1), .ireturn],
  [.aload 0, .getfield 582, .aload 0, .getfield 576, .iload 1, .invokeinterface 38 3, .pop, .aload 0, .getfield 582, .getfield 257, .iload 2, .iaload, .ireturn]]
-- 144 SB.bestCost ()I
def zb_144 : List (List Instr) := [
  [.aload 0, .getfield 582, .aload 0, .getfield 576, .invokeinterface 42 2, .ireturn]]
-- 145 SB.bestOrder (I)I
def zb_145 : List (List Instr) := [
  [.aload 0, .getfield 582, .aload 0, .getfield 576, .iload 1, .invokeinterface 45 3, .ireturn]]
-- 146 SB.failsBy (II)Z
def zb_146 : List (List Instr) := [
  [.aload 0, .getfield 576, .iload 1, .invokeinterface 67 2, .invokeinterface 156 1, .aload 0, .getfield 576, .iload 2, .invokeinterface 69 2, .invokeinterface 156 1, .aload 0, .getfield 579, .aload 0, .getfield 576, .invokeinterface 18 2, .aload 0, .getfield 579, .aload 0, .getfield 576, .iload 2, .invokeinterface 30 3, .iload 1, .invokeinterface 158 2, .ireturn]]
-- 147 SB.cuts (II)I
def zb_147 : List (List Instr) := [
  [.aload 0, .getfield 576, .iload 1, .invokeinterface 67 2, .invokeinterface 156 1, .iload 2, .iconst 1, .iconst 12, .invokeinterface 157 3, .invokeinterface 156 1, .aload 0, .getfield 579, .aload 0, .getfield 576, .invokeinterface 18 2, .aload 0, .getfield 583, .aload 0, .getfield 576, .aload 0, .getfield 579, .invokeinterface 7 3, .aload 0, .getfield 583, .aload 0, .getfield 576, .iload 1, .iload 2, .invokeinterface 12 4, .ireturn]]
-- 148 SB.cut (III)I
def zb_148 : List (List Instr) := [
  [.aload 0, .getfield 576, .iload 1, .invokeinterface 67 2, .invokeinterface 156 1, .iload 2, .iconst 1, .iconst 12, .invokeinterface 157 3, .invokeinterface 156 1, .aload 0, .getfield 579, .aload 0, .getfield 576, .invokeinterface 18 2, .aload 0, .getfield 583, .aload 0, .getfield 576, .aload 0, .getfield 579, .invokeinterface 7 3, .aload 0, .getfield 583, .aload 0, .getfield 576, .iload 1, .iload 2, .iload 3, .invokeinterface 13 5, .ireturn]]
-- 149 SB.availability (I)I
def zb_149 : List (List Instr) := [
  [.aload 0, .getfield 576, .iload 1, .invokeinterface 67 2, .invokeinterface 156 1, .aload 0, .getfield 579, .aload 0, .getfield 576, .invokeinterface 18 2, .aload 0, .getfield 583, .aload 0, .getfield 576, .aload 0, .getfield 579, .invokeinterface 7 3, .aload 0, .getfield 583, .aload 0, .getfield 576, .iload 1, .iconst (-1), .invokeinterface 14 4, .d2f, .invokeinterface 159 1, .ireturn]]
-- 150 SB.weakest (I)I
def zb_150 : List (List Instr) := [
  [.aload 0, .getfield 576, .iload 1, .invokeinterface 67 2, .invokeinterface 156 1, .aload 0, .getfield 579, .aload 0, .getfield 576, .invokeinterface 18 2, .aload 0, .getfield 583, .aload 0, .getfield 576, .aload 0, .getfield 579, .invokeinterface 7 3, .aload 0, .getfield 583, .aload 0, .getfield 576, .iload 1, .invokeinterface 16 3, .ireturn]]
-- 151 SB.append (I)I
def zb_151 : List (List Instr) := [
  [.iload 1, .iconst 0, .iconst 127, .invokeinterface 157 3, .invokeinterface 156 1, .aload 0, .getfield 584, .invokeinterface 103 1, .invokeinterface 156 1, .aload 0, .getfield 584, .iload 1, .invokeinterface 104 2, .ireturn]]
-- 152 SB.clearText ()I
def zb_152 : List (List Instr) := [
  [.aload 0, .getfield 584, .invokeinterface 105 1, .ireturn]]
-- 153 SB.execute ()I
def zb_153 : List (List Instr) := [
  [.aload 0, .getfield 584, .invokeinterface 106 1, .istore 1, .iload 1, .ifCond .ge 1, .iload 1, .ireturn],
  [.aload 0, .getfield 577, .aload 0, .getfield 576, .invokeinterface 66 2, .iconst 0, .istore 2, .goto_w 2],
  [.iload 2, .iload 1, .if_icmp .ge 4, .aload 0, .getfield 584, .aload 0, .getfield 576, .iload 2, .invokeinterface 113 3, .ifCond .eq 3, .aload 0, .getfield 576, .aload 0, .getfield 577, .invokeinterface 66 2, .iconst (-1000), .iload 2, .isub, .ireturn],
  [.aload 0, .getfield 584, .aload 0, .getfield 576, .iload 2, .invokeinterface 114 3, .iinc 2 1, .goto 2],
  [.aload 0, .getfield 578, .aload 0, .getfield 577, .invokeinterface 32 2, .iload 1, .ireturn]]
-- 154 SB.undo ()I
def zb_154 : List (List Instr) := [
  [.aload 0, .getfield 578, .invokeinterface 34 1, .invokeinterface 156 1, .aload 0, .getfield 578, .aload 0, .getfield 576, .invokeinterface 35 2, .ireturn]]
-- 155 SB.digest ()J
def zb_155 : List (List Instr) := [
  [.aload 0, .getfield 579, .aload 0, .getfield 576, .invokeinterface 25 2, .jsr_w 57381, .aload 0, .getfield 576, .getfield 448, .i2l, .ladd, .lstore 1, .iconst 0, .istore 3, .goto_w 1],
  [.iload 3, .aload 0, .getfield 576, .getfield 448, .if_icmp .ge 4, .iconst 0, .istore 4, .goto_w 2],
  [.iload 4, .iconst 10, .if_icmp .gt 3, .jsr_w 31, .lload 1, .lmul, .aload 0, .getfield 576, .iload 3, .iload 4, .invokeinterface 80 3, .i2l, .ladd, .lstore 1, .iinc 4 1, .goto 2],
  [.jsr_w 31, .lload 1, .lmul, .aload 0, .getfield 579, .getfield 132, .iload 3, .iaload, .i2l, .ladd, .lstore 1, .iinc 3 1, .goto 1],
  [.jsr_w 31, .lload 1, .lmul, .aload 0, .getfield 576, .getfield 449, .i2l, .ladd, .lstore 1, .iconst 0, .istore 3, .goto_w 5],
  [.iload 3, .aload 0, .getfield 576, .getfield 449, .if_icmp .ge 8, .iconst 0, .istore 4, .goto_w 6],
  [.iload 4, .iconst 5, .if_icmp .gt 7, .jsr_w 31, .lload 1, .lmul, .aload 0, .getfield 576, .getfield 451, .iload 4, .aaload, .iload 3, .iaload, .i2l, .ladd, .lstore 1, .iinc 4 1, .goto 6],
  [.iinc 3 1, .goto 5],
  [.jsr_w 31, .lload 1, .lmul, .aload 0, .getfield 579, .aload 0, .getfield 576, .invokeinterface 27 2, .i2l, .ladd, .lstore 1, .jsr_w 31, .lload 1, .lmul, .aload 0, .getfield 576, .invokeinterface 92 1, .i2l, .ladd, .lstore 1, .jsr_w 31, .lload 1, .lmul, .aload 0, .getfield 582, .aload 0, .getfield 576, .iconst 2, .invokeinterface 38 3, .i2l, .ladd, .lstore 1, .jsr_w 31, .lload 1, .lmul, .aload 0, .getfield 582, .aload 0, .getfield 576, .invokeinterface 42 2, .i2l, .ladd, .lstore 1, .jsr_w 31, .lload 1, .lmul, .aload 0, .getfield 584, .getfield 513, .i2l, .ladd, .lstore 1, .jsr_w 31, .lload 1, .lmul, .aload 0, .getfield 578, .getfield 193, .i2l, .ladd, .lreturn]]
-- 156 SB.refuse (I)V
def zb_156 : List (List Instr) := []
-- 157 SB.whyNotWithin (III)I
def zb_157 : List (List Instr) := [
  [.iload 0, .iload 1, .if_icmp .lt 1, .iload 0, .iload 2, .if_icmp .le 2, .goto_w 1],
  [.iconst 2, .goto 3],
  [.iconst 0, .goto_w 3],
  [.ireturn]]
-- 158 SB.contains (II)Z
def zb_158 : List (List Instr) := [
  [.iload 0, .iload 1, .ishr, .iconst 1, .iand, .ifCond .eq 1, .iconst 1, .goto 2],
  [.iconst 0, .goto_w 2],
  [.ireturn]]
-- 159 SB.bitsOf (F)I
def zb_159 : List (List Instr) := [
  [.fload 0, .f2d, .dstore 1, .dload 1, .jsr 0, .dcmp .g, .ifCond .gt 1, .iconst 0, .ireturn],
  [.iconst 127, .istore 3, .goto_w 2],
  [.dload 1, .jsr 4607182418800017408, .dcmp .g, .ifCond .ge 3, .iload 3, .iconst 1, .if_icmp .le 3, .dload 1, .jsr 4611686018427387904, .dmul, .dstore 1, .iinc 3 (-1), .goto 2],
  [.dload 1, .jsr 4607182418800017408, .dcmp .g, .ifCond .ge 4, .dload 1, .jsr 4710765210229538816, .dmul, .d2i, .ireturn],
  [.iload 3, .iconst 23, .ishl, .dload 1, .jsr 4607182418800017408, .dsub, .jsr 4710765210229538816, .dmul, .d2i, .iadd, .ireturn]]
-- 160 M.init ()V
def zb_160 : List (List Instr) := [
  [.aload 0, .monitorexit, .aload 0, .iconst 230, .newarray .int, .putfield 640, .aload 0, .iconst 920, .newarray .int, .putfield 641, .aload 0, .iconst 230, .newarray .int, .putfield 642, .aload 0, .iconst 120, .newarray .int, .putfield 644, .aload 0, .iconst 12, .newarray .int, .putfield 647, .aload 0, .iconst 12, .newarray .int, .putfield 648, .aload 0, .iconst 12, .newarray .int, .putfield 650, .aload 0, .iconst 13, .newarray .int, .putfield 651, .aload 0, .iconst 13, .newarray .int, .putfield 652, .aload 0, .iconst 13, .newarray .int, .putfield 653, .aload 0, .iconst 13, .newarray .int, .putfield 654, .aload 0, .iconst 13, .newarray .int, .putfield 655, .aload 0, .iconst 13, .newarray .int, .putfield 656, .aload 0, .iconst 13, .newarray .int, .putfield 657, .aload 0, .iconst 13, .newarray .boolean, .putfield 658, .aload 0, .iconst 13, .newarray .int, .putfield 659, .aload 0, .iconst 240, .newarray .int, .putfield 668, .aload 0, .iconst 800, .newarray .int, .putfield 669, .aload 0, .iconst 6, .newarray .int, .putfield 670, .aload 0, .iconst 240, .newarray .int, .putfield 671, .aload 0, .iconst 800, .newarray .int, .putfield 672, .aload 0, .iconst 12, .newarray .int, .putfield 675, .aload 0, .iconst 12, .newarray .int, .putfield 677, .aload 0, .iconst 4096, .newarray .int, .putfield 678, .aload 0, .iconst 4096, .newarray .boolean, .putfield 679, .aload 0, .iconst 5, .newarray .int, .putfield 682, .aload 0, .getfield 640, .iconst 0, .iconst 0, .iastore, .return_]]
-- 161 M.thrown ()I
def zb_161 : List (List Instr) := [
  [.aload 0, .getfield 646, .ireturn]]
-- 162 M.in (III)Z
def zb_162 : List (List Instr) := [
  [.iload 0, .iload 1, .if_icmp .lt 1, .iload 0, .iload 2, .if_icmp .gt 1, .iconst 1, .goto 2],
  [.iconst 0, .goto_w 2],
  [.ireturn]]
-- 163 M.fails (I)I
def zb_163 : List (List Instr) := [
  [.aload 0, .iload 1, .putfield 646, .iconst 0, .ireturn]]
-- 164 M.tells (I)I
def zb_164 : List (List Instr) := [
  [.aload 0, .iconst 0, .putfield 646, .iload 1, .ireturn]]
-- 165 M.hold ()V
def zb_165 : List (List Instr) := [
  [.iconst 0, .istore 1, .goto_w 1],
  [.iload 1, .iconst 230, .if_icmp .ge 2, .aload 0, .getfield 642, .iload 1, .aload 0, .getfield 640, .iload 1, .iaload, .iastore, .iinc 1 1, .goto 1],
  [.return_]]
-- 166 M.restore ()V
def zb_166 : List (List Instr) := [
  [.iconst 0, .istore 1, .goto_w 1],
  [.iload 1, .iconst 230, .if_icmp .ge 2, .aload 0, .getfield 640, .iload 1, .aload 0, .getfield 642, .iload 1, .iaload, .iastore, .iinc 1 1, .goto 1],
  [.return_]]
-- 167 M.ends (I)I
def zb_167 : List (List Instr) := [
  [.aload 0, .getfield 643, .iconst 4, .if_icmp .ne 3, .iconst 0, .istore 2, .goto_w 1],
  [.iload 2, .iconst 690, .if_icmp .ge 2, .aload 0, .getfield 641, .iload 2, .aload 0, .getfield 641, .iload 2, .iconst 230, .iadd, .iaload, .iastore, .iinc 2 1, .goto 1],
  [.aload 0, .dup, .getfield 643, .iconst 1, .isub, .putfield 643, .goto_w 3],
  [.iconst 0, .istore 2, .goto_w 4],
  [.iload 2, .iconst 230, .if_icmp .ge 5, .aload 0, .getfield 641, .iconst 230, .aload 0, .getfield 643, .imul, .iload 2, .iadd, .aload 0, .getfield 642, .iload 2, .iaload, .iastore, .iinc 2 1, .goto 4],
  [.aload 0, .dup, .getfield 643, .iconst 1, .iadd, .putfield 643, .aload 0, .iload 1, .invokeinterface 164 2, .ireturn]]
-- 168 M.of (II)I
def zb_168 : List (List Instr) := [
  [.aload 0, .getfield 640, .iconst 2, .iconst 9, .iload 1, .imul, .iadd, .iload 2, .iadd, .iaload, .ireturn]]
-- 169 M.puts (III)V
def zb_169 : List (List Instr) := [
  [.aload 0, .getfield 640, .iconst 2, .iconst 9, .iload 1, .imul, .iadd, .iload 2, .iadd, .iload 3, .iastore, .return_]]
-- 170 M.callOf (II)I
def zb_170 : List (List Instr) := [
  [.aload 0, .getfield 640, .iconst 110, .iconst 5, .iload 1, .imul, .iadd, .iload 2, .iadd, .iaload, .ireturn]]
-- 171 M.caller (I)I
def zb_171 : List (List Instr) := [
  [.aload 0, .iload 1, .iconst 0, .invokeinterface 170 3, .ireturn]]
-- 172 M.callee (I)I
def zb_172 : List (List Instr) := [
  [.aload 0, .iload 1, .iconst 1, .invokeinterface 170 3, .ireturn]]
-- 173 M.isReplacement (I)Z
def zb_173 : List (List Instr) := [
  [.aload 0, .iload 1, .iconst 4, .invokeinterface 170 3, .iconst 2, .if_icmp .ne 1, .iconst 1, .goto 2],
  [.iconst 0, .goto_w 2],
  [.ireturn]]
-- 174 M.isService (I)Z
def zb_174 : List (List Instr) := [
  [.iload 1, .iconst 0, .aload 0, .getfield 640, .iconst 0, .iaload, .iconst 1, .isub, .invokeinterface 162 3, .ireturn]]
-- 175 M.isCall (I)Z
def zb_175 : List (List Instr) := [
  [.iload 1, .iconst 0, .aload 0, .getfield 640, .iconst 1, .iaload, .iconst 1, .isub, .invokeinterface 162 3, .ireturn]]
-- 176 M.isUp (I)Z
def zb_176 : List (List Instr) := [
  [.aload 0, .iload 1, .iconst 6, .invokeinterface 168 3, .iconst 1, .if_icmp .ne 1, .iconst 1, .goto 2],
  [.iconst 0, .goto_w 2],
  [.ireturn]]
-- 177 M.own (I)I
def zb_177 : List (List Instr) := [
  [.aload 0, .iload 1, .iconst 0, .invokeinterface 168 3, .aload 0, .iload 1, .iconst 1, .invokeinterface 168 3, .imul, .iconst 99, .iadd, .iconst 100, .idiv, .ireturn]]
-- 178 M.nextCall (II)I
def zb_178 : List (List Instr) := [
  [.iload 2, .iconst 1, .iadd, .istore 3, .goto_w 1],
  [.iload 3, .aload 0, .getfield 640, .iconst 1, .iaload, .if_icmp .ge 2, .aload 0, .iload 3, .invokeinterface 171 2, .iload 1, .if_icmp .eq 2, .iinc 3 1, .goto 1],
  [.iload 3, .ireturn]]
-- 179 M.callsOf (I)I
def zb_179 : List (List Instr) := [
  [.iconst 0, .istore 2, .iconst 0, .istore 3, .goto_w 1],
  [.iload 3, .aload 0, .getfield 640, .iconst 1, .iaload, .if_icmp .ge 4, .iload 2, .aload 0, .iload 3, .invokeinterface 171 2, .iload 1, .if_icmp .ne 2, .iconst 1, .goto 3],
  [.iconst 0, .goto_w 3],
  [.iadd, .istore 2, .iinc 3 1, .goto 1],
  [.iload 2, .ireturn]]
-- 180 M.laysNeeds ()V
def zb_180 : List (List Instr) := [
  [.iconst 0, .istore 1, .goto_w 1],
  [.iload 1, .iconst 12, .if_icmp .ge 2, .aload 0, .getfield 647, .iload 1, .iconst 0, .iastore, .iinc 1 1, .goto 1],
  [.iconst 1, .istore 1, .goto_w 3],
  [.iload 1, .ifCond .eq 9, .iconst 0, .istore 1, .iconst 0, .istore 2, .goto_w 4],
  [.iload 2, .aload 0, .getfield 640, .iconst 1, .iaload, .if_icmp .ge 8, .aload 0, .getfield 647, .aload 0, .iload 2, .invokeinterface 171 2, .iaload, .iconst 1, .aload 0, .iload 2, .invokeinterface 172 2, .ishl, .ior, .aload 0, .getfield 647, .aload 0, .iload 2, .invokeinterface 172 2, .iaload, .ior, .istore 3, .iload 1, .ifCond .ne 5, .iload 3, .aload 0, .getfield 647, .aload 0, .iload 2, .invokeinterface 171 2, .iaload, .if_icmp .eq 6, .goto_w 5],
  [.iconst 1, .goto 7],
  [.iconst 0, .goto_w 7],
  [.istore 1, .aload 0, .getfield 647, .aload 0, .iload 2, .invokeinterface 171 2, .iload 3, .iastore, .iinc 2 1, .goto 4],
  [.goto 3],
  [.return_]]
-- 181 M.laysOrder ()V
def zb_181 : List (List Instr) := [
  [.aload 0, .invokeinterface 180 1, .iconst 0, .istore 1, .iconst 0, .istore 2, .goto_w 1],
  [.iload 2, .aload 0, .getfield 640, .iconst 0, .iaload, .if_icmp .ge 5, .iconst 0, .istore 3, .goto_w 2],
  [.iload 1, .iload 3, .ishr, .iconst 1, .iand, .iconst 1, .if_icmp .eq 3, .aload 0, .getfield 647, .iload 3, .iaload, .iload 1, .iconst (-1), .ixor, .iand, .ifCond .eq 4, .goto_w 3],
  [.iinc 3 1, .goto 2],
  [.aload 0, .getfield 648, .iload 2, .iload 3, .iastore, .iload 1, .iconst 1, .iload 3, .ishl, .ior, .istore 1, .iinc 2 1, .goto 1],
  [.return_]]
-- 182 M.dependsOn (II)Z
def zb_182 : List (List Instr) := [
  [.aload 0, .invokeinterface 180 1, .aload 0, .getfield 647, .iload 1, .iaload, .iload 2, .ishr, .iconst 1, .iand, .iconst 1, .if_icmp .ne 1, .iconst 1, .goto 2],
  [.iconst 0, .goto_w 2],
  [.ireturn]]
-- 183 M.addsService (I)I
def zb_183 : List (List Instr) := [
  [.iload 1, .iconst 1, .iconst 100, .invokeinterface 162 3, .ifCond .ne 1, .iconst 1, .ireturn],
  [.aload 0, .getfield 640, .iconst 0, .iaload, .iconst 12, .if_icmp .ne 2, .iconst 2, .ireturn],
  [.aload 0, .getfield 640, .iconst 0, .iaload, .istore 2, .aload 0, .iload 2, .iconst 0, .iload 1, .invokeinterface 169 4, .aload 0, .iload 2, .iconst 1, .iconst 100, .invokeinterface 169 4, .aload 0, .iload 2, .iconst 2, .iconst 2, .invokeinterface 169 4, .aload 0, .iload 2, .iconst 3, .iconst 3, .invokeinterface 169 4, .aload 0, .iload 2, .iconst 4, .iconst 1, .invokeinterface 169 4, .aload 0, .iload 2, .iconst 5, .iconst 990, .invokeinterface 169 4, .aload 0, .iload 2, .iconst 6, .iconst 1, .invokeinterface 169 4, .aload 0, .iload 2, .iconst 7, .iconst 0, .invokeinterface 169 4, .aload 0, .iload 2, .iconst 8, .iconst (-1), .invokeinterface 169 4, .aload 0, .getfield 640, .iconst 0, .dup2, .iaload, .iconst 1, .iadd, .iastore, .aload 0, .iload 2, .putfield 649, .iconst 0, .ireturn]]
-- 184 M.addsCall (IIIII)I
def zb_184 : List (List Instr) := [
  [.aload 0, .iload 1, .invokeinterface 174 2, .ifCond .eq 1, .aload 0, .iload 2, .invokeinterface 174 2, .ifCond .ne 2, .goto_w 1],
  [.iconst 1, .ireturn],
  [.iload 3, .iconst 1, .iconst 500, .invokeinterface 162 3, .ifCond .eq 3, .iload 4, .iconst 1, .iconst 3, .invokeinterface 162 3, .ifCond .eq 3, .iload 5, .iconst 0, .iconst 2, .invokeinterface 162 3, .ifCond .ne 4, .goto_w 3],
  [.iconst 2, .ireturn],
  [.iload 1, .iload 2, .if_icmp .eq 6, .aload 0, .iload 2, .iload 1, .invokeinterface 182 3, .ifCond .ne 6, .iload 5, .iconst 2, .if_icmp .ne 5, .aload 0, .iload 1, .invokeinterface 179 2, .ifCond .eq 6, .goto_w 5],
  [.aload 0, .getfield 640, .iconst 1, .iaload, .iconst 24, .if_icmp .ne 7, .goto_w 6],
  [.iconst 3, .ireturn],
  [.iconst 110, .iconst 5, .aload 0, .getfield 640, .iconst 1, .iaload, .imul, .iadd, .istore 6, .aload 0, .getfield 640, .iload 6, .iload 1, .iastore, .aload 0, .getfield 640, .iload 6, .iconst 1, .iadd, .iload 2, .iastore, .aload 0, .getfield 640, .iload 6, .iconst 2, .iadd, .iload 3, .iastore, .aload 0, .getfield 640, .iload 6, .iconst 3, .iadd, .iload 4, .iastore, .aload 0, .getfield 640, .iload 6, .iconst 4, .iadd, .iload 5, .iastore, .aload 0, .aload 0, .getfield 640, .iconst 1, .iaload, .putfield 649, .aload 0, .getfield 640, .iconst 1, .dup2, .iaload, .iconst 1, .iadd, .iastore, .iconst 0, .ireturn]]
-- 185 M.isValue (II)Z
def zb_185 : List (List Instr) := [
  [.iload 0, .lookupswitch 6 #[(0, 1), (1, 2), (2, 3), (3, 4), (4, 3), (5, 5)]],
  [.iload 1, .iconst 1, .iconst 100, .invokeinterface 162 3, .ireturn],
  [.iload 1, .iconst 50, .iconst 400, .invokeinterface 162 3, .ireturn],
  [.iload 1, .iconst 1, .iconst 9, .invokeinterface 162 3, .ireturn],
  [.iload 1, .iconst 1, .iconst 20, .invokeinterface 162 3, .ireturn],
  [.iload 1, .iconst 0, .iconst 1000, .invokeinterface 162 3, .ireturn],
  [.iconst 0, .ireturn]]
-- 186 M.changes (III)I
def zb_186 : List (List Instr) := [
  [.aload 0, .iload 2, .invokeinterface 174 2, .ifCond .ne 1, .iconst 1, .ireturn],
  [.iload 1, .iload 3, .invokeinterface 185 2, .ifCond .ne 2, .iconst 2, .ireturn],
  [.aload 0, .aload 0, .iload 2, .iload 1, .invokeinterface 168 3, .putfield 649, .aload 0, .iload 2, .iload 1, .iload 3, .invokeinterface 169 4, .iconst 0, .ireturn]]
-- 187 M.ups ()I
def zb_187 : List (List Instr) := [
  [.iconst 0, .istore 1, .iconst 0, .istore 2, .goto_w 1],
  [.iload 2, .aload 0, .getfield 640, .iconst 0, .iaload, .if_icmp .ge 2, .iload 1, .aload 0, .iload 2, .iconst 6, .invokeinterface 168 3, .iadd, .istore 1, .iinc 2 1, .goto 1],
  [.iload 1, .ireturn]]
-- 188 M.drops (I)I
def zb_188 : List (List Instr) := [
  [.aload 0, .iload 1, .invokeinterface 174 2, .ifCond .ne 1, .iconst 1, .ireturn],
  [.aload 0, .iload 1, .invokeinterface 176 2, .ifCond .ne 2, .iconst 2, .ireturn],
  [.aload 0, .iload 1, .invokeinterface 189 2, .aload 0, .aload 0, .invokeinterface 187 1, .putfield 649, .iconst 0, .ireturn]]
-- 189 M.goesDown (I)V
def zb_189 : List (List Instr) := [
  [.aload 0, .iload 1, .iconst 6, .iconst 0, .invokeinterface 169 4, .aload 0, .iload 1, .iconst 7, .iconst 0, .invokeinterface 169 4, .aload 0, .iload 1, .iconst 8, .iconst (-1), .invokeinterface 169 4, .return_]]
-- 190 M.mends (I)I
def zb_190 : List (List Instr) := [
  [.aload 0, .iload 1, .invokeinterface 174 2, .ifCond .ne 1, .iconst 1, .ireturn],
  [.aload 0, .iload 1, .invokeinterface 176 2, .ifCond .ne 2, .aload 0, .iload 1, .iconst 8, .invokeinterface 168 3, .iconst (-1), .if_icmp .eq 3, .goto_w 2],
  [.iconst 2, .ireturn],
  [.aload 0, .iload 1, .iconst 8, .aload 0, .iload 1, .iconst 3, .invokeinterface 168 3, .invokeinterface 169 4, .aload 0, .aload 0, .iload 1, .iconst 8, .invokeinterface 168 3, .putfield 649, .iconst 0, .ireturn]]
-- 191 M.goes (I)I
def zb_191 : List (List Instr) := [
  [.iload 1, .iconst 1, .iconst 50, .invokeinterface 162 3, .ifCond .ne 1, .iconst 1, .ireturn],
  [.iconst 0, .istore 2, .goto_w 2],
  [.iload 2, .iload 1, .if_icmp .ge 3, .aload 0, .invokeinterface 231 1, .istore 3, .aload 0, .iload 3, .putfield 649, .iinc 2 1, .goto 2],
  [.aload 0, .aload 0, .invokeinterface 187 1, .putfield 649, .iconst 0, .ireturn]]
-- 192 M.done (I)I
def zb_192 : List (List Instr) := [
  [.iload 1, .ifCond .le 1, .aload 0, .iload 1, .invokeinterface 163 2, .goto 2],
  [.aload 0, .aload 0, .getfield 649, .invokeinterface 167 2, .goto_w 2],
  [.ireturn]]
-- 193 M.addService (I)I
def zb_193 : List (List Instr) := [
  [.aload 0, .invokeinterface 165 1, .aload 0, .aload 0, .iload 1, .invokeinterface 183 2, .invokeinterface 192 2, .ireturn]]
-- 194 M.addCall (IIIII)I
def zb_194 : List (List Instr) := [
  [.aload 0, .invokeinterface 165 1, .aload 0, .aload 0, .iload 1, .iload 2, .iload 3, .iload 4, .iload 5, .invokeinterface 184 6, .invokeinterface 192 2, .ireturn]]
-- 195 M.leader (I)I
def zb_195 : List (List Instr) := [
  [.iconst (-1), .istore 2, .iconst 0, .istore 3, .goto_w 1],
  [.iload 3, .iload 1, .if_icmp .ge 4, .aload 0, .iload 1, .invokeinterface 173 2, .ifCond .eq 4, .aload 0, .iload 3, .invokeinterface 171 2, .aload 0, .iload 1, .invokeinterface 171 2, .if_icmp .ne 2, .aload 0, .iload 3, .invokeinterface 173 2, .ifCond .ne 2, .iload 3, .goto 3],
  [.iload 2, .goto_w 3],
  [.istore 2, .iinc 3 1, .goto 1],
  [.iload 2, .ireturn]]
-- 196 M.removeCall (I)I
def zb_196 : List (List Instr) := [
  [.aload 0, .iload 1, .invokeinterface 175 2, .ifCond .ne 1, .aload 0, .iconst 1, .invokeinterface 163 2, .ireturn],
  [.iload 1, .iconst 1, .iadd, .istore 2, .goto_w 2],
  [.iload 2, .aload 0, .getfield 640, .iconst 1, .iaload, .if_icmp .ge 4, .aload 0, .iload 2, .invokeinterface 195 2, .iload 1, .if_icmp .ne 3, .aload 0, .iconst 2, .invokeinterface 163 2, .ireturn],
  [.iinc 2 1, .goto 2],
  [.aload 0, .invokeinterface 165 1, .aload 0, .getfield 640, .iconst 1, .dup2, .iaload, .iconst 1, .isub, .iastore, .iconst 110, .iconst 5, .iload 1, .imul, .iadd, .istore 2, .goto_w 5],
  [.iload 2, .iconst 110, .iconst 5, .aload 0, .getfield 640, .iconst 1, .iaload, .imul, .iadd, .if_icmp .ge 6, .aload 0, .getfield 640, .iload 2, .aload 0, .getfield 640, .iload 2, .iconst 5, .iadd, .iaload, .iastore, .iinc 2 1, .goto 5],
  [.aload 0, .aload 0, .getfield 640, .iconst 1, .iaload, .invokeinterface 167 2, .ireturn]]
-- 197 M.set (III)I
def zb_197 : List (List Instr) := [
  [.aload 0, .invokeinterface 165 1, .aload 0, .aload 0, .iload 1, .iload 2, .iload 3, .invokeinterface 186 4, .invokeinterface 192 2, .ireturn]]
-- 198 M.setLimit (II)I
def zb_198 : List (List Instr) := [
  [.aload 0, .iload 1, .invokeinterface 175 2, .ifCond .ne 1, .aload 0, .iconst 1, .invokeinterface 163 2, .ireturn],
  [.iload 2, .iconst 1, .iconst 500, .invokeinterface 162 3, .ifCond .ne 2, .aload 0, .iconst 2, .invokeinterface 163 2, .ireturn],
  [.aload 0, .invokeinterface 165 1, .aload 0, .iload 1, .iconst 2, .invokeinterface 170 3, .istore 3, .aload 0, .getfield 640, .iconst 110, .iconst 5, .iload 1, .imul, .iadd, .iconst 2, .iadd, .iload 2, .iastore, .aload 0, .iload 3, .invokeinterface 167 2, .ireturn]]
-- 199 M.services ()I
def zb_199 : List (List Instr) := [
  [.aload 0, .aload 0, .getfield 640, .iconst 0, .iaload, .invokeinterface 164 2, .ireturn]]
-- 200 M.calls ()I
def zb_200 : List (List Instr) := [
  [.aload 0, .aload 0, .getfield 640, .iconst 1, .iaload, .invokeinterface 164 2, .ireturn]]
-- 201 M.value (II)I
def zb_201 : List (List Instr) := [
  [.iload 2, .iconst 9, .if_icmp .ge 1, .aload 0, .iload 1, .iload 2, .invokeinterface 168 3, .goto 3],
  [.iload 2, .iconst 9, .if_icmp .ne 2, .aload 0, .iload 1, .invokeinterface 177 2, .goto 3],
  [.aload 0, .iload 1, .invokeinterface 179 2, .goto_w 3],
  [.ireturn]]
-- 202 M.service (II)I
def zb_202 : List (List Instr) := [
  [.aload 0, .iload 1, .invokeinterface 174 2, .ifCond .ne 1, .aload 0, .iconst 1, .invokeinterface 163 2, .ireturn],
  [.iload 2, .iconst 0, .iconst 10, .invokeinterface 162 3, .ifCond .eq 2, .aload 0, .aload 0, .iload 1, .iload 2, .invokeinterface 201 3, .invokeinterface 164 2, .goto 3],
  [.aload 0, .iconst 2, .invokeinterface 163 2, .goto_w 3],
  [.ireturn]]
-- 203 M.callValue (II)I
def zb_203 : List (List Instr) := [
  [.iload 2, .iconst 5, .if_icmp .ge 1, .aload 0, .iload 1, .iload 2, .invokeinterface 170 3, .goto 2],
  [.aload 0, .iload 1, .invokeinterface 195 2, .goto_w 2],
  [.ireturn]]
-- 204 M.call (II)I
def zb_204 : List (List Instr) := [
  [.aload 0, .iload 1, .invokeinterface 175 2, .ifCond .ne 1, .aload 0, .iconst 1, .invokeinterface 163 2, .ireturn],
  [.iload 2, .iconst 0, .iconst 5, .invokeinterface 162 3, .ifCond .eq 2, .aload 0, .aload 0, .iload 1, .iload 2, .invokeinterface 203 3, .invokeinterface 164 2, .goto 3],
  [.aload 0, .iconst 2, .invokeinterface 163 2, .goto_w 3],
  [.ireturn]]
-- 205 M.depends (II)Z
def zb_205 : List (List Instr) := [
  [.aload 0, .iload 1, .invokeinterface 174 2, .ifCond .eq 1, .aload 0, .iload 2, .invokeinterface 174 2, .ifCond .ne 4, .goto_w 1],
  [.aload 0, .iconst 1, .invokeinterface 163 2, .ifCond .eq 2, .iconst 1, .goto 3],
  [.iconst 0, .goto_w 3],
  [.ireturn],
  [.aload 0, .iconst 0, .putfield 646, .aload 0, .iload 1, .iload 2, .invokeinterface 182 3, .ireturn]]
-- 206 M.order (I)I
def zb_206 : List (List Instr) := [
  [.aload 0, .invokeinterface 181 1, .aload 0, .aload 0, .iload 1, .invokeinterface 174 2, .ifCond .eq 1, .aload 0, .getfield 648, .iload 1, .iaload, .goto 2],
  [.iconst (-1), .goto_w 2],
  [.invokeinterface 164 2, .ireturn]]
-- 207 M.laysLevels ()V
def zb_207 : List (List Instr) := [
  [.aload 0, .invokeinterface 181 1, .iconst 0, .istore 1, .goto_w 1],
  [.iload 1, .aload 0, .getfield 640, .iconst 0, .iaload, .if_icmp .ge 8, .aload 0, .getfield 648, .iload 1, .iaload, .istore 2, .aload 0, .getfield 650, .iload 2, .iconst 0, .iastore, .iconst 0, .istore 3, .goto_w 2],
  [.iload 3, .aload 0, .getfield 640, .iconst 1, .iaload, .if_icmp .ge 7, .aload 0, .iload 3, .invokeinterface 171 2, .iload 2, .if_icmp .ne 3, .aload 0, .getfield 650, .aload 0, .iload 3, .invokeinterface 172 2, .iaload, .iconst 1, .iadd, .goto 4],
  [.iconst 0, .goto_w 4],
  [.istore 4, .aload 0, .getfield 650, .iload 2, .iload 4, .aload 0, .getfield 650, .iload 2, .iaload, .if_icmp .le 5, .iload 4, .goto 6],
  [.aload 0, .getfield 650, .iload 2, .iaload, .goto_w 6],
  [.iastore, .iinc 3 1, .goto 2],
  [.iinc 1 1, .goto 1],
  [.return_]]
-- 208 M.level (I)I
def zb_208 : List (List Instr) := [
  [.aload 0, .iload 1, .invokeinterface 174 2, .ifCond .ne 1, .aload 0, .iconst 1, .invokeinterface 163 2, .ireturn],
  [.aload 0, .invokeinterface 207 1, .aload 0, .aload 0, .getfield 650, .iload 1, .iaload, .invokeinterface 164 2, .ireturn]]
-- 209 M.notesFailure (I)V
def zb_209 : List (List Instr) := [
  [.aload 0, .getfield 663, .iconst 60, .if_icmp .ge 1, .aload 0, .getfield 668, .iconst 4, .aload 0, .getfield 663, .imul, .aload 0, .getfield 651, .aload 0, .getfield 660, .iaload, .iastore, .aload 0, .getfield 668, .iconst 4, .aload 0, .getfield 663, .imul, .iconst 1, .iadd, .iload 1, .iastore, .aload 0, .getfield 668, .iconst 4, .aload 0, .getfield 663, .imul, .iconst 2, .iadd, .aload 0, .getfield 652, .aload 0, .getfield 660, .iaload, .aload 0, .getfield 654, .aload 0, .getfield 660, .iaload, .iadd, .iastore, .aload 0, .getfield 668, .iconst 4, .aload 0, .getfield 663, .imul, .iconst 3, .iadd, .aload 0, .getfield 653, .aload 0, .getfield 660, .iaload, .iastore, .aload 0, .dup, .getfield 663, .iconst 1, .iadd, .putfield 663, .goto_w 1],
  [.aload 0, .aload 0, .getfield 665, .iconst (-1), .if_icmp .ne 2, .iload 1, .iconst 3, .if_icmp .ge 2, .aload 0, .getfield 651, .aload 0, .getfield 660, .iaload, .goto 3],
  [.aload 0, .getfield 665, .goto_w 3],
  [.putfield 665, .aload 0, .aload 0, .getfield 666, .iconst (-1), .if_icmp .ne 4, .aload 0, .getfield 651, .aload 0, .getfield 660, .iaload, .goto 5],
  [.aload 0, .getfield 666, .goto_w 5],
  [.putfield 666, .return_]]
-- 210 M.enters (III)V
def zb_210 : List (List Instr) := [
  [.aload 0, .getfield 651, .aload 0, .getfield 660, .iload 1, .iastore, .aload 0, .getfield 652, .aload 0, .getfield 660, .iload 2, .iastore, .aload 0, .getfield 653, .aload 0, .getfield 660, .iload 3, .iastore, .aload 0, .getfield 654, .aload 0, .getfield 660, .iconst 0, .iastore, .aload 0, .dup, .getfield 667, .iconst 1, .iadd, .putfield 667, .return_]]
-- 211 M.begins ()Z
def zb_211 : List (List Instr) := [
  [.aload 0, .getfield 651, .aload 0, .getfield 660, .iaload, .istore 1, .aload 0, .iconst 0, .putfield 674, .aload 0, .iload 1, .invokeinterface 176 2, .ifCond .ne 1, .aload 0, .iconst 1, .invokeinterface 209 2, .iconst 0, .ireturn],
  [.aload 0, .iload 1, .invokeinterface 177 2, .aload 0, .getfield 653, .aload 0, .getfield 660, .iaload, .if_icmp .le 2, .aload 0, .getfield 654, .aload 0, .getfield 660, .aload 0, .getfield 653, .aload 0, .getfield 660, .iaload, .iastore, .aload 0, .iconst 2, .invokeinterface 209 2, .iconst 0, .ireturn],
  [.aload 0, .getfield 654, .aload 0, .getfield 660, .aload 0, .iload 1, .invokeinterface 177 2, .iastore, .aload 0, .aload 0, .iload 1, .iconst (-1), .invokeinterface 178 3, .invokeinterface 212 2, .iconst 1, .ireturn]]
-- 212 M.opens (I)V
def zb_212 : List (List Instr) := [
  [.aload 0, .getfield 655, .aload 0, .getfield 660, .iload 1, .iastore, .aload 0, .getfield 656, .aload 0, .getfield 660, .iload 1, .iastore, .aload 0, .getfield 657, .aload 0, .getfield 660, .iconst 0, .iastore, .aload 0, .getfield 658, .aload 0, .getfield 660, .iconst 0, .bastore, .return_]]
-- 213 M.acts ()I
def zb_213 : List (List Instr) := [
  [.aload 0, .getfield 651, .aload 0, .getfield 660, .iaload, .istore 1, .aload 0, .getfield 655, .aload 0, .getfield 660, .iaload, .istore 2, .iload 2, .aload 0, .getfield 640, .iconst 1, .iaload, .if_icmp .ne 1, .aload 0, .iconst 1, .putfield 674, .iconst 2, .ireturn],
  [.aload 0, .getfield 658, .aload 0, .getfield 660, .baload, .ifCond .ne 2, .aload 0, .getfield 657, .aload 0, .getfield 660, .iaload, .aload 0, .iload 2, .iconst 3, .invokeinterface 170 3, .if_icmp .ne 3, .goto_w 2],
  [.aload 0, .iload 1, .iload 2, .invokeinterface 214 3, .ireturn],
  [.aload 0, .getfield 653, .aload 0, .getfield 660, .iaload, .aload 0, .getfield 654, .aload 0, .getfield 660, .iaload, .isub, .ifCond .gt 4, .aload 0, .iconst 3, .invokeinterface 209 2, .aload 0, .getfield 657, .aload 0, .getfield 660, .aload 0, .iload 2, .iconst 3, .invokeinterface 170 3, .iastore, .iconst 0, .ireturn],
  [.iconst 1, .ireturn]]
-- 214 M.closes (II)I
def zb_214 : List (List Instr) := [
  [.aload 0, .iload 1, .iload 2, .invokeinterface 178 3, .istore 3, .goto_w 1],
  [.aload 0, .getfield 658, .aload 0, .getfield 660, .baload, .ifCond .eq 2, .iload 3, .aload 0, .getfield 640, .iconst 1, .iaload, .if_icmp .ge 2, .aload 0, .iload 3, .invokeinterface 173 2, .ifCond .eq 2, .aload 0, .iload 1, .iload 3, .invokeinterface 178 3, .istore 3, .goto 1],
  [.aload 0, .getfield 658, .aload 0, .getfield 660, .baload, .ifCond .ne 3, .iload 3, .aload 0, .getfield 640, .iconst 1, .iaload, .if_icmp .ge 3, .aload 0, .iload 3, .invokeinterface 173 2, .ifCond .eq 3, .aload 0, .getfield 655, .aload 0, .getfield 660, .iload 3, .iastore, .aload 0, .getfield 657, .aload 0, .getfield 660, .iconst 0, .iastore, .iconst 0, .ireturn],
  [.aload 0, .getfield 658, .aload 0, .getfield 660, .baload, .ifCond .ne 4, .aload 0, .aload 0, .getfield 656, .aload 0, .getfield 660, .iaload, .iconst 4, .invokeinterface 170 3, .ifCond .ne 4, .aload 0, .iconst 4, .invokeinterface 209 2, .aload 0, .iconst 0, .putfield 674, .iconst 2, .ireturn],
  [.aload 0, .dup, .getfield 662, .aload 0, .getfield 658, .aload 0, .getfield 660, .baload, .ifCond .eq 5, .iconst 0, .goto 6],
  [.iconst 1, .goto_w 6],
  [.iadd, .putfield 662, .aload 0, .iload 3, .invokeinterface 212 2, .iconst 0, .ireturn]]
-- 215 M.begunTry ()V
def zb_215 : List (List Instr) := [
  [.aload 0, .getfield 655, .aload 0, .getfield 660, .iaload, .istore 1, .aload 0, .getfield 653, .aload 0, .getfield 660, .iaload, .aload 0, .getfield 654, .aload 0, .getfield 660, .iaload, .isub, .istore 2, .aload 0, .iload 1, .iconst 2, .invokeinterface 170 3, .iload 2, .if_icmp .ge 1, .aload 0, .iload 1, .iconst 2, .invokeinterface 170 3, .goto 2],
  [.iload 2, .goto_w 2],
  [.istore 3, .aload 0, .getfield 652, .aload 0, .getfield 660, .iaload, .aload 0, .getfield 654, .aload 0, .getfield 660, .iaload, .iadd, .istore 4, .aload 0, .getfield 659, .aload 0, .getfield 660, .iconst (-1), .iastore, .aload 0, .getfield 664, .iconst 200, .if_icmp .ge 3, .aload 0, .getfield 669, .iconst 4, .aload 0, .getfield 664, .imul, .iload 1, .iastore, .aload 0, .getfield 669, .iconst 4, .aload 0, .getfield 664, .imul, .iconst 1, .iadd, .iload 4, .iastore, .aload 0, .getfield 669, .iconst 4, .aload 0, .getfield 664, .imul, .iconst 2, .iadd, .iload 3, .iastore, .aload 0, .getfield 669, .iconst 4, .aload 0, .getfield 664, .imul, .iconst 3, .iadd, .iconst 0, .iastore, .aload 0, .getfield 659, .aload 0, .getfield 660, .aload 0, .getfield 664, .iastore, .aload 0, .dup, .getfield 664, .iconst 1, .iadd, .putfield 664, .goto_w 3],
  [.aload 0, .dup, .getfield 660, .iconst 1, .iadd, .putfield 660, .aload 0, .aload 0, .iload 1, .invokeinterface 172 2, .iload 4, .iload 3, .invokeinterface 210 4, .return_]]
-- 216 M.returns ()V
def zb_216 : List (List Instr) := [
  [.aload 0, .getfield 654, .aload 0, .getfield 660, .iaload, .istore 1, .aload 0, .dup, .getfield 660, .iconst 1, .isub, .putfield 660, .aload 0, .getfield 654, .aload 0, .getfield 660, .dup2, .iaload, .iload 1, .iadd, .iastore, .aload 0, .getfield 657, .aload 0, .getfield 660, .dup2, .iaload, .iconst 1, .iadd, .iastore, .aload 0, .getfield 658, .aload 0, .getfield 660, .aload 0, .getfield 674, .bastore, .aload 0, .getfield 674, .ifCond .eq 1, .aload 0, .getfield 659, .aload 0, .getfield 660, .iaload, .iconst (-1), .if_icmp .eq 1, .aload 0, .getfield 669, .iconst 4, .aload 0, .getfield 659, .aload 0, .getfield 660, .iaload, .imul, .iconst 3, .iadd, .iconst 1, .iastore, .goto_w 1],
  [.return_]]
-- 217 M.serves (II)Z
def zb_217 : List (List Instr) := [
  [.aload 0, .iconst 0, .putfield 662, .aload 0, .iconst 0, .putfield 663, .aload 0, .iconst 0, .putfield 664, .aload 0, .iconst (-1), .putfield 665, .aload 0, .iconst (-1), .putfield 666, .aload 0, .iconst 0, .putfield 667, .aload 0, .iconst 0, .putfield 660, .aload 0, .iload 1, .iconst 0, .iload 2, .invokeinterface 210 4, .aload 0, .invokeinterface 211 1, .istore 3, .iconst 0, .istore 4, .goto_w 1],
  [.iload 4, .ifCond .ne 7, .iload 3, .ifCond .eq 2, .aload 0, .invokeinterface 213 1, .goto 3],
  [.iconst 2, .goto_w 3],
  [.istore 5, .iload 5, .iconst 1, .if_icmp .ne 4, .aload 0, .invokeinterface 215 1, .aload 0, .invokeinterface 211 1, .istore 3, .goto 6],
  [.iload 5, .iconst 2, .if_icmp .ne 5, .aload 0, .getfield 660, .ifCond .ne 5, .iconst 1, .istore 4, .goto 6],
  [.iload 5, .iconst 2, .if_icmp .ne 6, .aload 0, .invokeinterface 216 1, .iconst 1, .istore 3, .goto_w 6],
  [.goto 1],
  [.aload 0, .aload 0, .getfield 654, .iconst 0, .iaload, .putfield 661, .aload 0, .getfield 674, .ireturn]]
-- 218 M.request (II)Z
def zb_218 : List (List Instr) := [
  [.aload 0, .iload 1, .invokeinterface 174 2, .ifCond .ne 3, .aload 0, .iconst 1, .invokeinterface 163 2, .ifCond .eq 1, .iconst 1, .goto 2],
  [.iconst 0, .goto_w 2],
  [.ireturn],
  [.iload 2, .iconst 0, .iconst 1000, .invokeinterface 162 3, .ifCond .ne 6, .aload 0, .iconst 2, .invokeinterface 163 2, .ifCond .eq 4, .iconst 1, .goto 5],
  [.iconst 0, .goto_w 5],
  [.ireturn],
  [.aload 0, .iconst 0, .putfield 646, .aload 0, .iload 1, .iload 2, .invokeinterface 217 3, .istore 3, .aload 0, .getfield 670, .iconst 0, .aload 0, .getfield 661, .iastore, .aload 0, .getfield 670, .iconst 1, .aload 0, .getfield 662, .iastore, .aload 0, .getfield 670, .iconst 2, .aload 0, .getfield 663, .iastore, .aload 0, .getfield 670, .iconst 3, .aload 0, .getfield 664, .iastore, .aload 0, .getfield 670, .iconst 4, .iload 3, .ifCond .eq 7, .iconst (-1), .goto 9],
  [.aload 0, .getfield 665, .iconst (-1), .if_icmp .ne 8, .aload 0, .getfield 666, .goto 9],
  [.aload 0, .getfield 665, .goto_w 9],
  [.iastore, .aload 0, .getfield 670, .iconst 5, .aload 0, .getfield 667, .iastore, .iconst 0, .istore 4, .goto_w 10],
  [.iload 4, .iconst 240, .if_icmp .ge 11, .aload 0, .getfield 671, .iload 4, .aload 0, .getfield 668, .iload 4, .iaload, .iastore, .iinc 4 1, .goto 10],
  [.iconst 0, .istore 4, .goto_w 12],
  [.iload 4, .iconst 800, .if_icmp .ge 13, .aload 0, .getfield 672, .iload 4, .aload 0, .getfield 669, .iload 4, .iaload, .iastore, .iinc 4 1, .goto 12],
  [.aload 0, .iconst 1, .putfield 673, .iload 3, .ireturn]]
-- 219 M.result (I)I
def zb_219 : List (List Instr) := [
  [.iload 1, .iconst 0, .iconst 5, .invokeinterface 162 3, .ifCond .ne 1, .aload 0, .iconst 1, .invokeinterface 163 2, .ireturn],
  [.aload 0, .getfield 673, .ifCond .eq 2, .aload 0, .aload 0, .getfield 670, .iload 1, .iaload, .invokeinterface 164 2, .goto 3],
  [.aload 0, .iconst 2, .invokeinterface 163 2, .goto_w 3],
  [.ireturn]]
-- 220 M.failure (II)I
def zb_220 : List (List Instr) := [
  [.iload 2, .iconst 0, .iconst 3, .invokeinterface 162 3, .ifCond .ne 1, .aload 0, .iconst 1, .invokeinterface 163 2, .ireturn],
  [.aload 0, .aload 0, .getfield 673, .ifCond .eq 2, .iload 1, .iconst 0, .aload 0, .getfield 670, .iconst 2, .iaload, .iconst 1, .isub, .invokeinterface 162 3, .ifCond .eq 2, .aload 0, .getfield 671, .iconst 4, .iload 1, .imul, .iload 2, .iadd, .iaload, .goto 3],
  [.iconst (-1), .goto_w 3],
  [.invokeinterface 164 2, .ireturn]]
-- 221 M.attempt (II)I
def zb_221 : List (List Instr) := [
  [.iload 2, .iconst 0, .iconst 3, .invokeinterface 162 3, .ifCond .ne 1, .aload 0, .iconst 1, .invokeinterface 163 2, .ireturn],
  [.aload 0, .aload 0, .getfield 673, .ifCond .eq 2, .iload 1, .iconst 0, .aload 0, .getfield 670, .iconst 3, .iaload, .iconst 1, .isub, .invokeinterface 162 3, .ifCond .eq 2, .aload 0, .getfield 672, .iconst 4, .iload 1, .imul, .iload 2, .iadd, .iaload, .goto 3],
  [.iconst (-1), .goto_w 3],
  [.invokeinterface 164 2, .ireturn]]
-- 222 M.leastBudget (I)I
def zb_222 : List (List Instr) := [
  [.aload 0, .iload 1, .invokeinterface 174 2, .ifCond .ne 1, .aload 0, .iconst 1, .invokeinterface 163 2, .ireturn],
  [.iconst 0, .istore 2, .goto_w 2],
  [.iload 2, .iconst 1000, .if_icmp .gt 3, .aload 0, .iload 1, .iload 2, .invokeinterface 217 3, .ifCond .ne 3, .iinc 2 1, .goto 2],
  [.aload 0, .iload 2, .iconst 1000, .if_icmp .gt 4, .iload 2, .goto 5],
  [.iconst (-1), .goto_w 5],
  [.invokeinterface 164 2, .ireturn]]
-- 223 M.bounds (I)V
def zb_223 : List (List Instr) := [
  [.aload 0, .iload 1, .invokeinterface 177 2, .istore 2, .iconst 0, .istore 3, .goto_w 1],
  [.iload 3, .aload 0, .getfield 640, .iconst 1, .iaload, .if_icmp .ge 5, .aload 0, .iload 3, .invokeinterface 171 2, .iload 1, .if_icmp .ne 4, .aload 0, .iload 3, .iconst 2, .invokeinterface 170 3, .istore 4, .iload 2, .aload 0, .iload 3, .iconst 3, .invokeinterface 170 3, .iload 4, .aload 0, .getfield 675, .aload 0, .iload 3, .invokeinterface 172 2, .iaload, .if_icmp .ge 2, .iload 4, .goto 3],
  [.aload 0, .getfield 675, .aload 0, .iload 3, .invokeinterface 172 2, .iaload, .goto_w 3],
  [.imul, .iadd, .istore 2, .goto_w 4],
  [.iinc 3 1, .goto 1],
  [.aload 0, .getfield 675, .iload 1, .iload 2, .iconst 100000, .if_icmp .ge 6, .iload 2, .goto 7],
  [.iconst 100000, .goto_w 7],
  [.iastore, .return_]]
-- 224 M.laysBounds ()V
def zb_224 : List (List Instr) := [
  [.aload 0, .invokeinterface 181 1, .iconst 0, .istore 1, .goto_w 1],
  [.iload 1, .aload 0, .getfield 640, .iconst 0, .iaload, .if_icmp .ge 2, .aload 0, .aload 0, .getfield 648, .iload 1, .iaload, .invokeinterface 223 2, .iinc 1 1, .goto 1],
  [.return_]]
-- 225 M.worst (I)I
def zb_225 : List (List Instr) := [
  [.aload 0, .iload 1, .invokeinterface 174 2, .ifCond .ne 1, .aload 0, .iconst 1, .invokeinterface 163 2, .ireturn],
  [.aload 0, .invokeinterface 224 1, .aload 0, .aload 0, .getfield 675, .iload 1, .iaload, .invokeinterface 164 2, .ireturn]]
-- 226 M.unsoundMany ()I
def zb_226 : List (List Instr) := [
  [.aload 0, .invokeinterface 224 1, .iconst 0, .istore 1, .iconst 0, .istore 2, .goto_w 1],
  [.iload 2, .aload 0, .getfield 640, .iconst 1, .iaload, .if_icmp .ge 4, .iload 1, .aload 0, .iload 2, .iconst 2, .invokeinterface 170 3, .aload 0, .getfield 675, .aload 0, .iload 2, .invokeinterface 172 2, .iaload, .if_icmp .ge 2, .iconst 1, .goto 3],
  [.iconst 0, .goto_w 3],
  [.iadd, .istore 1, .iinc 2 1, .goto 1],
  [.iload 1, .ireturn]]
-- 227 M.unsound ()I
def zb_227 : List (List Instr) := [
  [.aload 0, .aload 0, .invokeinterface 226 1, .invokeinterface 164 2, .ireturn]]
-- 228 M.tighten ()I
def zb_228 : List (List Instr) := [
  [.aload 0, .invokeinterface 165 1, .aload 0, .invokeinterface 181 1, .iconst 0, .istore 1, .goto_w 1],
  [.iload 1, .aload 0, .getfield 640, .iconst 0, .iaload, .if_icmp .ge 7, .aload 0, .getfield 648, .iload 1, .iaload, .istore 2, .aload 0, .iload 2, .invokeinterface 223 2, .iconst 0, .istore 3, .goto_w 2],
  [.iload 3, .aload 0, .getfield 640, .iconst 1, .iaload, .if_icmp .ge 6, .aload 0, .iload 3, .invokeinterface 172 2, .iload 2, .if_icmp .ne 5, .aload 0, .getfield 640, .iconst 110, .iconst 5, .iload 3, .imul, .iadd, .iconst 2, .iadd, .aload 0, .getfield 675, .iload 2, .iaload, .iconst 500, .if_icmp .ge 3, .aload 0, .getfield 675, .iload 2, .iaload, .goto 4],
  [.iconst 500, .goto_w 4],
  [.iastore, .goto_w 5],
  [.iinc 3 1, .goto 2],
  [.iinc 1 1, .goto 1],
  [.iconst 0, .istore 1, .iconst 0, .istore 2, .goto_w 8],
  [.iload 2, .aload 0, .getfield 640, .iconst 1, .iaload, .if_icmp .ge 11, .iconst 110, .iconst 5, .iload 2, .imul, .iadd, .iconst 2, .iadd, .istore 3, .iload 1, .aload 0, .getfield 640, .iload 3, .iaload, .aload 0, .getfield 642, .iload 3, .iaload, .if_icmp .ne 9, .iconst 0, .goto 10],
  [.iconst 1, .goto_w 10],
  [.iadd, .istore 1, .iinc 2 1, .goto 8],
  [.aload 0, .iload 1, .invokeinterface 167 2, .ireturn]]
-- 229 M.downs ()I
def zb_229 : List (List Instr) := [
  [.iconst 0, .istore 1, .iconst 0, .istore 2, .goto_w 1],
  [.iload 2, .aload 0, .getfield 640, .iconst 0, .iaload, .if_icmp .ge 4, .iload 1, .aload 0, .iload 2, .invokeinterface 176 2, .ifCond .eq 2, .iconst 0, .goto 3],
  [.iconst 1, .iload 2, .ishl, .goto_w 3],
  [.ior, .istore 1, .iinc 2 1, .goto 1],
  [.iload 1, .ireturn]]
-- 230 M.isCutOff (II)Z
def zb_230 : List (List Instr) := [
  [.iconst 0, .istore 3, .aload 0, .iload 1, .iconst (-1), .invokeinterface 178 3, .istore 4, .goto_w 1],
  [.iload 4, .aload 0, .getfield 640, .iconst 1, .iaload, .if_icmp .ge 13, .iload 2, .aload 0, .iload 4, .invokeinterface 172 2, .ishr, .iconst 1, .iand, .iconst 1, .if_icmp .ne 2, .iconst 1, .goto 3],
  [.iconst 0, .goto_w 3],
  [.istore 5, .aload 0, .iload 4, .iconst 4, .invokeinterface 170 3, .ifCond .ne 4, .iconst 1, .goto 5],
  [.iconst 0, .goto_w 5],
  [.istore 6, .aload 0, .iload 1, .iload 4, .invokeinterface 178 3, .istore 4, .goto_w 6],
  [.iload 4, .aload 0, .getfield 640, .iconst 1, .iaload, .if_icmp .ge 9, .aload 0, .iload 4, .invokeinterface 173 2, .ifCond .eq 9, .iload 5, .ifCond .eq 7, .iload 2, .aload 0, .iload 4, .invokeinterface 172 2, .ishr, .iconst 1, .iand, .iconst 1, .if_icmp .ne 7, .iconst 1, .goto 8],
  [.iconst 0, .goto_w 8],
  [.istore 5, .aload 0, .iload 1, .iload 4, .invokeinterface 178 3, .istore 4, .goto 6],
  [.iload 3, .ifCond .ne 10, .iload 6, .ifCond .eq 11, .iload 5, .ifCond .eq 11, .goto_w 10],
  [.iconst 1, .goto 12],
  [.iconst 0, .goto_w 12],
  [.istore 3, .goto 1],
  [.iload 3, .ireturn]]
-- 231 M.step ()I
def zb_231 : List (List Instr) := [
  [.aload 0, .invokeinterface 229 1, .istore 1, .iconst 0, .istore 2, .iconst 0, .istore 3, .goto_w 1],
  [.iload 3, .aload 0, .getfield 640, .iconst 0, .iaload, .if_icmp .ge 10, .aload 0, .iload 3, .iload 1, .invokeinterface 230 3, .istore 4, .iload 1, .iload 3, .ishr, .iconst 1, .iand, .ifCond .ne 6, .aload 0, .iload 3, .iconst 7, .invokeinterface 168 3, .istore 5, .aload 0, .iload 3, .iconst 7, .iload 4, .ifCond .eq 2, .iload 5, .iconst 1, .iadd, .goto 4],
  [.iload 5, .ifCond .le 3, .iload 5, .iconst 1, .isub, .goto 4],
  [.iconst 0, .goto_w 4],
  [.invokeinterface 169 4, .aload 0, .iload 3, .iconst 7, .invokeinterface 168 3, .aload 0, .iload 3, .iconst 2, .invokeinterface 168 3, .if_icmp .lt 5, .aload 0, .iload 3, .invokeinterface 189 2, .iload 2, .iconst 1, .iload 3, .ishl, .ior, .istore 2, .goto_w 5],
  [.goto 9],
  [.aload 0, .iload 3, .iconst 8, .invokeinterface 168 3, .iconst (-1), .if_icmp .eq 9, .aload 0, .iload 3, .iconst 8, .aload 0, .iload 3, .iconst 8, .invokeinterface 168 3, .ifCond .le 7, .aload 0, .iload 3, .iconst 8, .invokeinterface 168 3, .iconst 1, .isub, .goto 8],
  [.iconst 0, .goto_w 8],
  [.invokeinterface 169 4, .aload 0, .iload 3, .iconst 8, .invokeinterface 168 3, .ifCond .ne 9, .iload 4, .ifCond .ne 9, .aload 0, .iload 3, .iconst 6, .iconst 1, .invokeinterface 169 4, .aload 0, .iload 3, .iconst 7, .iconst 0, .invokeinterface 169 4, .aload 0, .iload 3, .iconst 8, .iconst (-1), .invokeinterface 169 4, .goto_w 9],
  [.iinc 3 1, .goto 1],
  [.iload 2, .ireturn]]
-- 232 M.fail (I)I
def zb_232 : List (List Instr) := [
  [.aload 0, .invokeinterface 165 1, .aload 0, .aload 0, .iload 1, .invokeinterface 188 2, .invokeinterface 192 2, .ireturn]]
-- 233 M.repair (I)I
def zb_233 : List (List Instr) := [
  [.aload 0, .invokeinterface 165 1, .aload 0, .aload 0, .iload 1, .invokeinterface 190 2, .invokeinterface 192 2, .ireturn]]
-- 234 M.steps (I)I
def zb_234 : List (List Instr) := [
  [.aload 0, .invokeinterface 165 1, .aload 0, .aload 0, .iload 1, .invokeinterface 191 2, .invokeinterface 192 2, .ireturn]]
-- 235 M.down ()I
def zb_235 : List (List Instr) := [
  [.aload 0, .aload 0, .invokeinterface 229 1, .invokeinterface 164 2, .ireturn]]
-- 236 M.spreads (I)I
def zb_236 : List (List Instr) := [
  [.aload 0, .invokeinterface 165 1, .aload 0, .iload 1, .invokeinterface 189 2, .aload 0, .iconst (-1), .putfield 676, .iconst 1, .istore 2, .goto_w 1],
  [.iload 2, .iconst 40, .if_icmp .gt 4, .aload 0, .invokeinterface 231 1, .iconst 1, .iload 1, .ishl, .iconst (-1), .ixor, .iand, .istore 3, .aload 0, .aload 0, .getfield 676, .iconst (-1), .if_icmp .ne 2, .iload 3, .ifCond .eq 2, .iload 2, .goto 3],
  [.aload 0, .getfield 676, .goto_w 3],
  [.putfield 676, .iinc 2 1, .goto 1],
  [.aload 0, .invokeinterface 229 1, .istore 2, .aload 0, .invokeinterface 166 1, .iload 2, .ireturn]]
-- 237 M.spread (I)I
def zb_237 : List (List Instr) := [
  [.aload 0, .iload 1, .invokeinterface 174 2, .ifCond .ne 1, .aload 0, .iconst 1, .invokeinterface 163 2, .ireturn],
  [.aload 0, .iload 1, .invokeinterface 176 2, .ifCond .eq 2, .aload 0, .aload 0, .iload 1, .invokeinterface 236 2, .invokeinterface 164 2, .goto 3],
  [.aload 0, .iconst 2, .invokeinterface 163 2, .goto_w 3],
  [.ireturn]]
-- 238 M.calm (I)I
def zb_238 : List (List Instr) := [
  [.aload 0, .iload 1, .invokeinterface 174 2, .ifCond .ne 1, .aload 0, .iconst 1, .invokeinterface 163 2, .ireturn],
  [.aload 0, .iload 1, .invokeinterface 176 2, .ifCond .ne 2, .aload 0, .iconst 2, .invokeinterface 163 2, .ireturn],
  [.aload 0, .iload 1, .invokeinterface 236 2, .istore 2, .aload 0, .iload 2, .ifCond .ne 3, .iconst (-1), .goto 4],
  [.aload 0, .getfield 676, .goto_w 4],
  [.invokeinterface 164 2, .ireturn]]
-- 239 M.nextBegun (II)I
def zb_239 : List (List Instr) := [
  [.iconst (-1), .istore 3, .iconst 0, .istore 4, .goto_w 1],
  [.iload 4, .aload 0, .getfield 640, .iconst 0, .iaload, .if_icmp .ge 7, .iload 1, .iload 4, .ishr, .iconst 1, .iand, .iconst 1, .if_icmp .ne 2, .aload 0, .getfield 677, .iload 4, .iaload, .iconst (-1), .if_icmp .ne 2, .aload 0, .getfield 647, .iload 4, .iaload, .iload 1, .iand, .iload 2, .iconst (-1), .ixor, .iand, .ifCond .ne 2, .iconst 1, .goto 3],
  [.iconst 0, .goto_w 3],
  [.istore 5, .iload 5, .ifCond .eq 5, .iload 3, .iconst (-1), .if_icmp .eq 4, .aload 0, .iload 4, .iconst 4, .invokeinterface 168 3, .aload 0, .iload 3, .iconst 4, .invokeinterface 168 3, .if_icmp .le 5, .goto_w 4],
  [.iload 4, .goto 6],
  [.iload 3, .goto_w 6],
  [.istore 3, .iinc 4 1, .goto 1],
  [.iload 3, .ireturn]]
-- 240 M.recovers (I)I
def zb_240 : List (List Instr) := [
  [.aload 0, .invokeinterface 180 1, .aload 0, .invokeinterface 229 1, .istore 2, .iconst 0, .istore 3, .iconst 0, .istore 4, .goto_w 1],
  [.iload 4, .iconst 12, .if_icmp .ge 2, .aload 0, .getfield 677, .iload 4, .iconst (-1), .iastore, .iinc 4 1, .goto 1],
  [.iconst 0, .istore 4, .goto_w 3],
  [.iload 3, .iload 2, .if_icmp .eq 17, .iload 1, .istore 5, .iconst 0, .istore 6, .goto_w 4],
  [.iload 6, .aload 0, .getfield 640, .iconst 0, .iaload, .if_icmp .ge 12, .aload 0, .getfield 677, .iload 6, .iaload, .iconst (-1), .if_icmp .eq 11, .iload 3, .iload 6, .ishr, .iconst 1, .iand, .ifCond .ne 11, .aload 0, .getfield 677, .iload 6, .iaload, .aload 0, .iload 6, .iconst 3, .invokeinterface 168 3, .iadd, .iload 4, .if_icmp .gt 5, .iconst 1, .goto 6],
  [.iconst 0, .goto_w 6],
  [.istore 7, .iload 3, .iload 7, .ifCond .eq 7, .iconst 1, .iload 6, .ishl, .goto 8],
  [.iconst 0, .goto_w 8],
  [.ior, .istore 3, .iload 5, .iload 7, .ifCond .eq 9, .iconst 0, .goto 10],
  [.iconst 1, .goto_w 10],
  [.isub, .istore 5, .goto_w 11],
  [.iinc 6 1, .goto 4],
  [.aload 0, .iload 2, .iload 3, .invokeinterface 239 3, .istore 6, .goto_w 13],
  [.iload 5, .ifCond .le 14, .iload 6, .iconst (-1), .if_icmp .eq 14, .aload 0, .getfield 677, .iload 6, .iload 4, .iastore, .iinc 5 (-1), .aload 0, .iload 2, .iload 3, .invokeinterface 239 3, .istore 6, .goto 13],
  [.iload 4, .iload 3, .iload 2, .if_icmp .ne 15, .iconst 0, .goto 16],
  [.iconst 1, .goto_w 16],
  [.iadd, .istore 4, .goto 3],
  [.iload 4, .ireturn]]
-- 241 M.recoveryTime (I)I
def zb_241 : List (List Instr) := [
  [.iload 1, .iconst 1, .iconst 4, .invokeinterface 162 3, .ifCond .eq 1, .aload 0, .aload 0, .iload 1, .invokeinterface 240 2, .invokeinterface 164 2, .goto 2],
  [.aload 0, .iconst 1, .invokeinterface 163 2, .goto_w 2],
  [.ireturn]]
-- 242 M.recoveryStart (II)I
def zb_242 : List (List Instr) := [
  [.iload 1, .iconst 1, .iconst 4, .invokeinterface 162 3, .ifCond .ne 1, .aload 0, .iconst 1, .invokeinterface 163 2, .ireturn],
  [.aload 0, .iload 2, .invokeinterface 174 2, .ifCond .ne 2, .aload 0, .iconst 2, .invokeinterface 163 2, .ireturn],
  [.aload 0, .iload 1, .invokeinterface 240 2, .istore 3, .aload 0, .iload 3, .ifCond .ge 3, .iconst (-1), .goto 4],
  [.aload 0, .getfield 677, .iload 2, .iaload, .goto_w 4],
  [.invokeinterface 164 2, .ireturn]]
-- 243 M.timeOf (I)I
def zb_243 : List (List Instr) := [
  [.iconst 0, .istore 2, .iconst 0, .istore 3, .goto_w 1],
  [.iload 3, .aload 0, .getfield 640, .iconst 0, .iaload, .if_icmp .ge 4, .iload 2, .iload 1, .iload 3, .ishr, .iconst 1, .iand, .iconst 1, .if_icmp .ne 2, .aload 0, .iload 3, .iconst 3, .invokeinterface 168 3, .goto 3],
  [.iconst 0, .goto_w 3],
  [.iadd, .istore 2, .iinc 3 1, .goto 1],
  [.iload 2, .ireturn]]
-- 244 M.costWith (III)I
def zb_244 : List (List Instr) := [
  [.iload 2, .iload 3, .iconst (-1), .ixor, .iand, .iload 1, .ishr, .iconst 1, .iand, .iconst 1, .if_icmp .ne 1, .aload 0, .getfield 647, .iload 1, .iaload, .iload 2, .iand, .iload 3, .iconst (-1), .ixor, .iand, .ifCond .ne 1, .iconst 1, .goto 2],
  [.iconst 0, .goto_w 2],
  [.istore 4, .iload 4, .ifCond .eq 3, .aload 0, .iload 1, .iconst 4, .invokeinterface 168 3, .aload 0, .iload 3, .invokeinterface 243 2, .aload 0, .iload 1, .iconst 3, .invokeinterface 168 3, .iadd, .imul, .aload 0, .getfield 678, .iload 3, .iconst 1, .iload 1, .ishl, .ior, .iaload, .iadd, .goto 4],
  [.iconst 100000000, .goto_w 4],
  [.ireturn]]
-- 245 M.laysBest ()I
def zb_245 : List (List Instr) := [
  [.aload 0, .invokeinterface 180 1, .aload 0, .invokeinterface 229 1, .istore 1, .iload 1, .istore 2, .goto_w 1],
  [.iload 2, .ifCond .lt 9, .iload 2, .iload 1, .iconst (-1), .ixor, .iand, .ifCond .ne 8, .iload 2, .iload 1, .if_icmp .ne 2, .iconst 0, .goto 3],
  [.iconst 100000000, .goto_w 3],
  [.istore 3, .iconst 0, .istore 4, .goto_w 4],
  [.iload 4, .aload 0, .getfield 640, .iconst 0, .iaload, .if_icmp .ge 7, .aload 0, .iload 4, .iload 1, .iload 2, .invokeinterface 244 4, .istore 5, .iload 5, .iload 3, .if_icmp .ge 5, .iload 5, .goto 6],
  [.iload 3, .goto_w 6],
  [.istore 3, .iinc 4 1, .goto 4],
  [.aload 0, .getfield 678, .iload 2, .iload 3, .iastore, .goto_w 8],
  [.iinc 2 (-1), .goto 1],
  [.aload 0, .getfield 678, .iconst 0, .iaload, .ireturn]]
-- 246 M.bestCost ()I
def zb_246 : List (List Instr) := [
  [.aload 0, .aload 0, .invokeinterface 245 1, .invokeinterface 164 2, .ireturn]]
-- 247 M.bestOrder (I)I
def zb_247 : List (List Instr) := [
  [.aload 0, .invokeinterface 245 1, .istore 2, .aload 0, .invokeinterface 229 1, .istore 3, .iconst 0, .istore 4, .iload 1, .istore 5, .iconst (-1), .istore 6, .goto_w 1],
  [.iload 4, .iload 3, .if_icmp .eq 6, .iload 5, .ifCond .lt 6, .iload 2, .ifCond .lt 6, .iconst 0, .istore 7, .goto_w 2],
  [.aload 0, .iload 7, .iload 3, .iload 4, .invokeinterface 244 4, .aload 0, .getfield 678, .iload 4, .iaload, .if_icmp .eq 3, .iinc 7 1, .goto 2],
  [.iload 5, .ifCond .ne 4, .iload 7, .goto 5],
  [.iload 6, .goto_w 5],
  [.istore 6, .iinc 5 (-1), .iload 4, .iconst 1, .iload 7, .ishl, .ior, .istore 4, .goto 1],
  [.aload 0, .iload 6, .invokeinterface 164 2, .ireturn]]
-- 248 M.failing (I)I
def zb_248 : List (List Instr) := [
  [.iload 1, .istore 2, .iconst 0, .istore 3, .goto_w 1],
  [.iload 3, .aload 0, .getfield 640, .iconst 0, .iaload, .if_icmp .ge 4, .iload 2, .aload 0, .aload 0, .getfield 648, .iload 3, .iaload, .iload 2, .invokeinterface 230 3, .ifCond .eq 2, .iconst 1, .aload 0, .getfield 648, .iload 3, .iaload, .ishl, .goto 3],
  [.iconst 0, .goto_w 3],
  [.ior, .istore 2, .iinc 3 1, .goto 1],
  [.iload 2, .ireturn]]
-- 249 M.failsBy (II)Z
def zb_249 : List (List Instr) := [
  [.aload 0, .iload 1, .invokeinterface 174 2, .ifCond .ne 3, .aload 0, .iconst 1, .invokeinterface 163 2, .ifCond .eq 1, .iconst 1, .goto 2],
  [.iconst 0, .goto_w 2],
  [.ireturn],
  [.iload 2, .ifCond .lt 4, .iload 2, .iconst 1, .aload 0, .getfield 640, .iconst 0, .iaload, .ishl, .if_icmp .lt 7, .goto_w 4],
  [.aload 0, .iconst 2, .invokeinterface 163 2, .ifCond .eq 5, .iconst 1, .goto 6],
  [.iconst 0, .goto_w 6],
  [.ireturn],
  [.aload 0, .iconst 0, .putfield 646, .aload 0, .invokeinterface 181 1, .aload 0, .iload 2, .invokeinterface 248 2, .iload 1, .ishr, .iconst 1, .iand, .iconst 1, .if_icmp .ne 8, .iconst 1, .goto 9],
  [.iconst 0, .goto_w 9],
  [.ireturn]]
-- 250 M.laysFailing (I)V
def zb_250 : List (List Instr) := [
  [.aload 0, .invokeinterface 181 1, .iconst 0, .istore 2, .goto_w 1],
  [.iload 2, .iconst 1, .aload 0, .getfield 640, .iconst 0, .iaload, .ishl, .if_icmp .ge 4, .aload 0, .getfield 679, .iload 2, .aload 0, .iload 2, .invokeinterface 248 2, .iload 1, .ishr, .iconst 1, .iand, .iconst 1, .if_icmp .ne 2, .iconst 1, .goto 3],
  [.iconst 0, .goto_w 3],
  [.bastore, .iinc 2 1, .goto 1],
  [.return_]]
-- 251 M.size (I)I
def zb_251 : List (List Instr) := [
  [.iconst 0, .istore 1, .iconst 0, .istore 2, .goto_w 1],
  [.iload 2, .iconst 12, .if_icmp .ge 2, .iload 1, .iload 0, .iload 2, .ishr, .iconst 1, .iand, .iadd, .istore 1, .iinc 2 1, .goto 1],
  [.iload 1, .ireturn]]
-- 252 M.isCut (I)Z
def zb_252 : List (List Instr) := [
  [.aload 0, .getfield 679, .iload 1, .baload, .istore 2, .iconst 0, .istore 3, .goto_w 1],
  [.iload 3, .iconst 12, .if_icmp .ge 5, .iload 2, .ifCond .eq 5, .iload 1, .iload 3, .ishr, .iconst 1, .iand, .ifCond .eq 2, .aload 0, .getfield 679, .iload 1, .iconst 1, .iload 3, .ishl, .iconst (-1), .ixor, .iand, .baload, .ifCond .ne 3, .goto_w 2],
  [.iconst 1, .goto 4],
  [.iconst 0, .goto_w 4],
  [.istore 2, .iinc 3 1, .goto 1],
  [.iload 2, .ireturn]]
-- 253 M.cutAt (III)I
def zb_253 : List (List Instr) := [
  [.aload 0, .iload 1, .invokeinterface 250 2, .iconst 0, .istore 4, .iconst (-1), .istore 5, .iconst 0, .istore 6, .goto_w 1],
  [.iload 6, .iconst 1, .aload 0, .getfield 640, .iconst 0, .iaload, .ishl, .if_icmp .ge 5, .iload 6, .invokeinterface 251 1, .iload 2, .if_icmp .ne 4, .aload 0, .iload 6, .invokeinterface 252 2, .ifCond .eq 4, .iload 4, .iload 3, .if_icmp .ne 2, .iload 6, .goto 3],
  [.iload 5, .goto_w 3],
  [.istore 5, .iinc 4 1, .goto_w 4],
  [.iinc 6 1, .goto 1],
  [.iload 3, .ifCond .ge 6, .iload 4, .goto 7],
  [.iload 5, .goto_w 7],
  [.ireturn]]
-- 254 M.cuts (II)I
def zb_254 : List (List Instr) := [
  [.aload 0, .iload 1, .invokeinterface 174 2, .ifCond .ne 1, .aload 0, .iconst 1, .invokeinterface 163 2, .ireturn],
  [.iload 2, .iconst 1, .iconst 12, .invokeinterface 162 3, .ifCond .eq 2, .aload 0, .aload 0, .iload 1, .iload 2, .iconst (-1), .invokeinterface 253 4, .invokeinterface 164 2, .goto 3],
  [.aload 0, .iconst 2, .invokeinterface 163 2, .goto_w 3],
  [.ireturn]]
-- 255 M.cut (III)I
def zb_255 : List (List Instr) := [
  [.aload 0, .iload 1, .invokeinterface 174 2, .ifCond .ne 1, .aload 0, .iconst 1, .invokeinterface 163 2, .ireturn],
  [.iload 2, .iconst 1, .iconst 12, .invokeinterface 162 3, .ifCond .ne 2, .aload 0, .iconst 2, .invokeinterface 163 2, .ireturn],
  [.aload 0, .iload 3, .ifCond .ge 3, .iconst (-1), .goto 4],
  [.aload 0, .iload 1, .iload 2, .iload 3, .invokeinterface 253 4, .goto_w 4],
  [.invokeinterface 164 2, .ireturn]]
-- 256 M.available (I)D
def zb_256 : List (List Instr) := [
  [.jsr 0, .dstore 2, .iconst 0, .istore 4, .goto_w 1],
  [.iload 4, .iconst 1, .aload 0, .getfield 640, .iconst 0, .iaload, .ishl, .if_icmp .ge 9, .aload 0, .getfield 679, .iload 4, .baload, .ifCond .ne 8, .jsr 4607182418800017408, .dstore 5, .iconst 0, .istore 7, .goto_w 2],
  [.iload 7, .aload 0, .getfield 640, .iconst 0, .iaload, .if_icmp .ge 7, .iload 7, .iload 1, .if_icmp .ne 3, .iconst 1000, .goto 4],
  [.aload 0, .iload 7, .iconst 5, .invokeinterface 168 3, .goto_w 4],
  [.istore 8, .dload 5, .iload 4, .iload 7, .ishr, .iconst 1, .iand, .ifCond .ne 5, .iload 8, .i2d, .jsr 4652007308841189376, .ddiv, .goto 6],
  [.iconst 1000, .iload 8, .isub, .i2d, .jsr 4652007308841189376, .ddiv, .goto_w 6],
  [.dmul, .dstore 5, .iinc 7 1, .goto 2],
  [.dload 2, .dload 5, .dadd, .dstore 2, .goto_w 8],
  [.iinc 4 1, .goto 1],
  [.dload 2, .dreturn]]
-- 257 M.availability (I)I
def zb_257 : List (List Instr) := [
  [.aload 0, .iload 1, .invokeinterface 174 2, .ifCond .ne 1, .aload 0, .iconst 1, .invokeinterface 163 2, .ireturn],
  [.aload 0, .iload 1, .invokeinterface 250 2, .aload 0, .aload 0, .iconst (-1), .invokeinterface 256 2, .d2f, .invokeinterface 303 1, .invokeinterface 164 2, .ireturn]]
-- 258 M.weakest (I)I
def zb_258 : List (List Instr) := [
  [.aload 0, .iload 1, .invokeinterface 174 2, .ifCond .ne 1, .aload 0, .iconst 1, .invokeinterface 163 2, .ireturn],
  [.aload 0, .iload 1, .invokeinterface 250 2, .iconst (-1), .istore 2, .jsr 0, .dstore 3, .iconst 0, .istore 5, .goto_w 2],
  [.iload 5, .aload 0, .getfield 640, .iconst 0, .iaload, .if_icmp .ge 5, .aload 0, .iload 5, .invokeinterface 256 2, .dstore 6, .iload 2, .iconst (-1), .if_icmp .eq 3, .dload 6, .dload 3, .dcmp .l, .ifCond .le 4, .goto_w 3],
  [.iload 5, .istore 2, .dload 6, .dstore 3, .goto_w 4],
  [.iinc 5 1, .goto 2],
  [.aload 0, .iload 2, .invokeinterface 164 2, .ireturn]]
-- 259 M.append (I)I
def zb_259 : List (List Instr) := [
  [.iload 1, .iconst 0, .iconst 127, .invokeinterface 162 3, .ifCond .ne 1, .aload 0, .iconst 1, .invokeinterface 163 2, .ireturn],
  [.aload 0, .getfield 645, .iconst 120, .if_icmp .ne 2, .aload 0, .iconst 2, .invokeinterface 163 2, .ireturn],
  [.aload 0, .getfield 644, .aload 0, .getfield 645, .iload 1, .iastore, .aload 0, .dup, .getfield 645, .iconst 1, .iadd, .putfield 645, .aload 0, .aload 0, .getfield 645, .invokeinterface 164 2, .ireturn]]
-- 260 M.clearText ()I
def zb_260 : List (List Instr) := [
  [.aload 0, .getfield 645, .istore 1, .aload 0, .iconst 0, .putfield 645, .aload 0, .iload 1, .invokeinterface 164 2, .ireturn]]
-- 261 M.isAt (II)Z
def zb_261 : List (List Instr) := [
  [.aload 0, .getfield 680, .aload 0, .getfield 645, .if_icmp .ge 1, .aload 0, .getfield 644, .aload 0, .getfield 680, .iaload, .iload 1, .iload 2, .invokeinterface 162 3, .ifCond .eq 1, .iconst 1, .goto 2],
  [.iconst 0, .goto_w 2],
  [.ireturn]]
-- 262 M.numbersOf (I)I
def zb_262 : List (List Instr) := [
  [.iload 0, .lookupswitch 4 #[(97, 1), (98, 4), (99, 2), (100, 1), (101, 4), (102, 4), (103, 4), (104, 4), (105, 4), (106, 4), (107, 4), (108, 4), (109, 4), (110, 4), (111, 4), (112, 3), (113, 4), (114, 1), (115, 1)]],
  [.iconst 1, .ireturn],
  [.iconst 5, .ireturn],
  [.iconst 3, .ireturn],
  [.iconst 0, .ireturn]]
-- 263 M.isNumber (I)Z
def zb_263 : List (List Instr) := [
  [.aload 0, .getfield 680, .istore 2, .aload 0, .getfield 682, .iload 1, .iconst 0, .iastore, .goto_w 1],
  [.aload 0, .iconst 48, .iconst 57, .invokeinterface 261 3, .ifCond .eq 2, .aload 0, .getfield 680, .iload 2, .isub, .iconst 3, .if_icmp .ge 2, .aload 0, .getfield 682, .iload 1, .iconst 10, .aload 0, .getfield 682, .iload 1, .iaload, .imul, .aload 0, .getfield 644, .aload 0, .getfield 680, .iaload, .iadd, .iconst 48, .isub, .iastore, .aload 0, .dup, .getfield 680, .iconst 1, .iadd, .putfield 680, .goto 1],
  [.aload 0, .getfield 680, .iload 2, .if_icmp .le 3, .iconst 1, .goto 4],
  [.iconst 0, .goto_w 4],
  [.ireturn]]
-- 264 M.isCommand ()Z
def zb_264 : List (List Instr) := [
  [.aload 0, .aload 0, .getfield 644, .aload 0, .getfield 680, .iaload, .putfield 681, .aload 0, .getfield 681, .invokeinterface 262 1, .istore 1, .iload 1, .ifCond .ne 1, .iconst 0, .ireturn],
  [.aload 0, .dup, .getfield 680, .iconst 1, .iadd, .putfield 680, .iconst 0, .istore 2, .goto_w 2],
  [.iload 2, .iload 1, .if_icmp .ge 9, .aload 0, .iload 2, .invokeinterface 263 2, .ifCond .eq 7, .aload 0, .iload 2, .iload 1, .iconst 1, .isub, .if_icmp .ge 3, .iconst 44, .goto 4],
  [.iconst 59, .goto_w 4],
  [.iload 2, .iload 1, .iconst 1, .isub, .if_icmp .ge 5, .iconst 44, .goto 6],
  [.iconst 59, .goto_w 6],
  [.invokeinterface 261 3, .ifCond .ne 8, .goto_w 7],
  [.iconst 0, .ireturn],
  [.aload 0, .dup, .getfield 680, .iconst 1, .iadd, .putfield 680, .iinc 2 1, .goto 2],
  [.iconst 1, .ireturn]]
-- 265 M.does ()I
def zb_265 : List (List Instr) := [
  [.aload 0, .getfield 681, .lookupswitch 6 #[(97, 1), (99, 2), (100, 3), (114, 4), (115, 5)]],
  [.aload 0, .aload 0, .getfield 682, .iconst 0, .iaload, .invokeinterface 183 2, .ireturn],
  [.aload 0, .aload 0, .getfield 682, .iconst 0, .iaload, .aload 0, .getfield 682, .iconst 1, .iaload, .aload 0, .getfield 682, .iconst 2, .iaload, .aload 0, .getfield 682, .iconst 3, .iaload, .aload 0, .getfield 682, .iconst 4, .iaload, .invokeinterface 184 6, .ireturn],
  [.aload 0, .aload 0, .getfield 682, .iconst 0, .iaload, .invokeinterface 188 2, .ireturn],
  [.aload 0, .aload 0, .getfield 682, .iconst 0, .iaload, .invokeinterface 190 2, .ireturn],
  [.aload 0, .aload 0, .getfield 682, .iconst 0, .iaload, .invokeinterface 191 2, .ireturn],
  [.aload 0, .aload 0, .getfield 682, .iconst 0, .iaload, .aload 0, .getfield 682, .iconst 1, .iaload, .aload 0, .getfield 682, .iconst 2, .iaload, .invokeinterface 186 4, .ireturn]]
-- 266 M.execute ()I
def zb_266 : List (List Instr) := [
  [.aload 0, .iconst 0, .putfield 646, .aload 0, .iconst 0, .putfield 680, .goto_w 1],
  [.aload 0, .getfield 680, .aload 0, .getfield 645, .if_icmp .ge 2, .aload 0, .invokeinterface 264 1, .ifCond .ne 1, .iconst (-10), .aload 0, .getfield 680, .isub, .ireturn],
  [.aload 0, .invokeinterface 165 1, .aload 0, .iconst 0, .putfield 680, .iconst 0, .istore 1, .goto_w 3],
  [.aload 0, .getfield 680, .aload 0, .getfield 645, .if_icmp .ge 7, .aload 0, .invokeinterface 264 1, .ifCond .eq 4, .aload 0, .invokeinterface 265 1, .ifCond .ne 4, .iconst 1, .goto 5],
  [.iconst 0, .goto_w 5],
  [.istore 2, .iload 2, .ifCond .ne 6, .aload 0, .invokeinterface 166 1, .iconst (-1000), .iload 1, .isub, .ireturn],
  [.iinc 1 1, .goto 3],
  [.aload 0, .iload 1, .invokeinterface 167 2, .ireturn]]
-- 267 M.undo ()I
def zb_267 : List (List Instr) := [
  [.aload 0, .getfield 643, .ifCond .ne 1, .aload 0, .iconst 1, .invokeinterface 163 2, .ireturn],
  [.aload 0, .dup, .getfield 643, .iconst 1, .isub, .putfield 643, .iconst 0, .istore 1, .goto_w 2],
  [.iload 1, .iconst 230, .if_icmp .ge 3, .aload 0, .getfield 640, .iload 1, .aload 0, .getfield 641, .iconst 230, .aload 0, .getfield 643, .imul, .iload 1, .iadd, .iaload, .iastore, .iinc 1 1, .goto 2],
  [.aload 0, .aload 0, .getfield 643, .invokeinterface 164 2, .ireturn]]
-- 268 M.mix (I)V
def zb_268 : List (List Instr) := [
  [.aload 0, .jsr_w 31, .aload 0, .getfield 683, .lmul, .iload 1, .i2l, .ladd, .putfield 683, .return_]]
-- 269 M.digest ()J
def zb_269 : List (List Instr) := [
  [.aload 0, .iconst 0, .putfield 646, .aload 0, .jsr_w 1851, .putfield 683, .aload 0, .aload 0, .getfield 640, .iconst 0, .iaload, .invokeinterface 268 2, .aload 0, .invokeinterface 224 1, .iconst 0, .istore 1, .goto_w 1],
  [.iload 1, .aload 0, .getfield 640, .iconst 0, .iaload, .if_icmp .ge 4, .iconst 0, .istore 2, .goto_w 2],
  [.iload 2, .iconst 11, .if_icmp .ge 3, .aload 0, .aload 0, .iload 1, .iload 2, .invokeinterface 201 3, .invokeinterface 268 2, .iinc 2 1, .goto 2],
  [.aload 0, .aload 0, .getfield 675, .iload 1, .iaload, .invokeinterface 268 2, .iinc 1 1, .goto 1],
  [.aload 0, .aload 0, .getfield 640, .iconst 1, .iaload, .invokeinterface 268 2, .iconst 0, .istore 1, .goto_w 5],
  [.iload 1, .aload 0, .getfield 640, .iconst 1, .iaload, .if_icmp .ge 8, .iconst 0, .istore 2, .goto_w 6],
  [.iload 2, .iconst 6, .if_icmp .ge 7, .aload 0, .aload 0, .iload 1, .iload 2, .invokeinterface 203 3, .invokeinterface 268 2, .iinc 2 1, .goto 6],
  [.iinc 1 1, .goto 5],
  [.aload 0, .aload 0, .invokeinterface 226 1, .invokeinterface 268 2, .aload 0, .aload 0, .invokeinterface 229 1, .invokeinterface 268 2, .aload 0, .aload 0, .iconst 2, .invokeinterface 240 2, .invokeinterface 268 2, .aload 0, .aload 0, .invokeinterface 245 1, .invokeinterface 268 2, .aload 0, .aload 0, .getfield 645, .invokeinterface 268 2, .aload 0, .aload 0, .getfield 643, .invokeinterface 268 2, .aload 0, .getfield 683, .lreturn]]
-- 270 Law.addService (LServiceBudgets;I[J)I
def zb_270 : List (List Instr) := [
  [.aload 2, .iconst 0, .aload 0, .iload 1, .invokeinterface 116 2, .i2l, .lastore, .goto 3],
  [.astore 3, .iconst 1, .ireturn],
  [.astore 3, .iconst 2, .ireturn],
  [.iconst 0, .ireturn]]
-- 271 Law.addCall (LServiceBudgets;IIIII[J)I
def zb_271 : List (List Instr) := [
  [.aload 6, .iconst 0, .aload 0, .iload 1, .iload 2, .iload 3, .iload 4, .iload 5, .invokeinterface 117 6, .i2l, .lastore, .goto 4],
  [.astore 7, .iconst 1, .ireturn],
  [.astore 7, .iconst 2, .ireturn],
  [.astore 7, .iconst 3, .ireturn],
  [.iconst 0, .ireturn]]
-- 272 Law.removeCall (LServiceBudgets;I[J)I
def zb_272 : List (List Instr) := [
  [.aload 2, .iconst 0, .aload 0, .iload 1, .invokeinterface 118 2, .i2l, .lastore, .goto 3],
  [.astore 3, .iconst 1, .ireturn],
  [.astore 3, .iconst 2, .ireturn],
  [.iconst 0, .ireturn]]
-- 273 Law.set (LServiceBudgets;III[J)I
def zb_273 : List (List Instr) := [
  [.aload 4, .iconst 0, .aload 0, .iload 1, .iload 2, .iload 3, .invokeinterface 119 4, .i2l, .lastore, .goto 3],
  [.astore 5, .iconst 1, .ireturn],
  [.astore 5, .iconst 2, .ireturn],
  [.iconst 0, .ireturn]]
-- 274 Law.setLimit (LServiceBudgets;II[J)I
def zb_274 : List (List Instr) := [
  [.aload 3, .iconst 0, .aload 0, .iload 1, .iload 2, .invokeinterface 120 3, .i2l, .lastore, .goto 3],
  [.astore 4, .iconst 1, .ireturn],
  [.astore 4, .iconst 2, .ireturn],
  [.iconst 0, .ireturn]]
-- 275 Law.service (LServiceBudgets;II[J)I
def zb_275 : List (List Instr) := [
  [.aload 3, .iconst 0, .aload 0, .iload 1, .iload 2, .invokeinterface 123 3, .i2l, .lastore, .goto 3],
  [.astore 4, .iconst 1, .ireturn],
  [.astore 4, .iconst 2, .ireturn],
  [.iconst 0, .ireturn]]
-- 276 Law.call (LServiceBudgets;II[J)I
def zb_276 : List (List Instr) := [
  [.aload 3, .iconst 0, .aload 0, .iload 1, .iload 2, .invokeinterface 124 3, .i2l, .lastore, .goto 3],
  [.astore 4, .iconst 1, .ireturn],
  [.astore 4, .iconst 2, .ireturn],
  [.iconst 0, .ireturn]]
-- 277 Law.depends (LServiceBudgets;II[J)I
def zb_277 : List (List Instr) := [
  [.aload 3, .iconst 0, .aload 0, .iload 1, .iload 2, .invokeinterface 125 3, .ifCond .eq 1, .jsr_w 1, .goto 2],
  [.jsr_w 0, .goto_w 2],
  [.lastore, .goto 4],
  [.astore 4, .iconst 1, .ireturn],
  [.iconst 0, .ireturn]]
-- 278 Law.level (LServiceBudgets;I[J)I
def zb_278 : List (List Instr) := [
  [.aload 2, .iconst 0, .aload 0, .iload 1, .invokeinterface 127 2, .i2l, .lastore, .goto 2],
  [.astore 3, .iconst 1, .ireturn],
  [.iconst 0, .ireturn]]
-- 279 Law.request (LServiceBudgets;II[J)I
def zb_279 : List (List Instr) := [
  [.aload 3, .iconst 0, .aload 0, .iload 1, .iload 2, .invokeinterface 128 3, .ifCond .eq 1, .jsr_w 1, .goto 2],
  [.jsr_w 0, .goto_w 2],
  [.lastore, .goto 5],
  [.astore 4, .iconst 1, .ireturn],
  [.astore 4, .iconst 2, .ireturn],
  [.iconst 0, .ireturn]]
-- 280 Law.result (LServiceBudgets;I[J)I
def zb_280 : List (List Instr) := [
  [.aload 2, .iconst 0, .aload 0, .iload 1, .invokeinterface 129 2, .i2l, .lastore, .goto 3],
  [.astore 3, .iconst 1, .ireturn],
  [.astore 3, .iconst 2, .ireturn],
  [.iconst 0, .ireturn]]
-- 281 Law.failure (LServiceBudgets;II[J)I
def zb_281 : List (List Instr) := [
  [.aload 3, .iconst 0, .aload 0, .iload 1, .iload 2, .invokeinterface 130 3, .i2l, .lastore, .goto 2],
  [.astore 4, .iconst 1, .ireturn],
  [.iconst 0, .ireturn]]
-- 282 Law.attempt (LServiceBudgets;II[J)I
def zb_282 : List (List Instr) := [
  [.aload 3, .iconst 0, .aload 0, .iload 1, .iload 2, .invokeinterface 131 3, .i2l, .lastore, .goto 2],
  [.astore 4, .iconst 1, .ireturn],
  [.iconst 0, .ireturn]]
-- 283 Law.leastBudget (LServiceBudgets;I[J)I
def zb_283 : List (List Instr) := [
  [.aload 2, .iconst 0, .aload 0, .iload 1, .invokeinterface 132 2, .i2l, .lastore, .goto 2],
  [.astore 3, .iconst 1, .ireturn],
  [.iconst 0, .ireturn]]
-- 284 Law.worst (LServiceBudgets;I[J)I
def zb_284 : List (List Instr) := [
  [.aload 2, .iconst 0, .aload 0, .iload 1, .invokeinterface 133 2, .i2l, .lastore, .goto 2],
  [.astore 3, .iconst 1, .ireturn],
  [.iconst 0, .ireturn]]
-- 285 Law.fail (LServiceBudgets;I[J)I
def zb_285 : List (List Instr) := [
  [.aload 2, .iconst 0, .aload 0, .iload 1, .invokeinterface 136 2, .i2l, .lastore, .goto 3],
  [.astore 3, .iconst 1, .ireturn],
  [.astore 3, .iconst 2, .ireturn],
  [.iconst 0, .ireturn]]
-- 286 Law.repair (LServiceBudgets;I[J)I
def zb_286 : List (List Instr) := [
  [.aload 2, .iconst 0, .aload 0, .iload 1, .invokeinterface 137 2, .i2l, .lastore, .goto 3],
  [.astore 3, .iconst 1, .ireturn],
  [.astore 3, .iconst 2, .ireturn],
  [.iconst 0, .ireturn]]
-- 287 Law.steps (LServiceBudgets;I[J)I
def zb_287 : List (List Instr) := [
  [.aload 2, .iconst 0, .aload 0, .iload 1, .invokeinterface 138 2, .i2l, .lastore, .goto 2],
  [.astore 3, .iconst 1, .ireturn],
  [.iconst 0, .ireturn]]
-- 288 Law.spread (LServiceBudgets;I[J)I
def zb_288 : List (List Instr) := [
  [.aload 2, .iconst 0, .aload 0, .iload 1, .invokeinterface 140 2, .i2l, .lastore, .goto 3],
  [.astore 3, .iconst 1, .ireturn],
  [.astore 3, .iconst 2, .ireturn],
  [.iconst 0, .ireturn]]
-- 289 Law.calm (LServiceBudgets;I[J)I
def zb_289 : List (List Instr) := [
  [.aload 2, .iconst 0, .aload 0, .iload 1, .invokeinterface 141 2, .i2l, .lastore, .goto 3],
  [.astore 3, .iconst 1, .ireturn],
  [.astore 3, .iconst 2, .ireturn],
  [.iconst 0, .ireturn]]
-- 290 Law.recoveryTime (LServiceBudgets;I[J)I
def zb_290 : List (List Instr) := [
  [.aload 2, .iconst 0, .aload 0, .iload 1, .invokeinterface 142 2, .i2l, .lastore, .goto 2],
  [.astore 3, .iconst 1, .ireturn],
  [.iconst 0, .ireturn]]
-- 291 Law.recoveryStart (LServiceBudgets;II[J)I
def zb_291 : List (List Instr) := [
  [.aload 3, .iconst 0, .aload 0, .iload 1, .iload 2, .invokeinterface 143 3, .i2l, .lastore, .goto 3],
  [.astore 4, .iconst 1, .ireturn],
  [.astore 4, .iconst 2, .ireturn],
  [.iconst 0, .ireturn]]
-- 292 Law.failsBy (LServiceBudgets;II[J)I
def zb_292 : List (List Instr) := [
  [.aload 3, .iconst 0, .aload 0, .iload 1, .iload 2, .invokeinterface 146 3, .ifCond .eq 1, .jsr_w 1, .goto 2],
  [.jsr_w 0, .goto_w 2],
  [.lastore, .goto 5],
  [.astore 4, .iconst 1, .ireturn],
  [.astore 4, .iconst 2, .ireturn],
  [.iconst 0, .ireturn]]
-- 293 Law.cuts (LServiceBudgets;II[J)I
def zb_293 : List (List Instr) := [
  [.aload 3, .iconst 0, .aload 0, .iload 1, .iload 2, .invokeinterface 147 3, .i2l, .lastore, .goto 3],
  [.astore 4, .iconst 1, .ireturn],
  [.astore 4, .iconst 2, .ireturn],
  [.iconst 0, .ireturn]]
-- 294 Law.cut (LServiceBudgets;III[J)I
def zb_294 : List (List Instr) := [
  [.aload 4, .iconst 0, .aload 0, .iload 1, .iload 2, .iload 3, .invokeinterface 148 4, .i2l, .lastore, .goto 3],
  [.astore 5, .iconst 1, .ireturn],
  [.astore 5, .iconst 2, .ireturn],
  [.iconst 0, .ireturn]]
-- 295 Law.availability (LServiceBudgets;I[J)I
def zb_295 : List (List Instr) := [
  [.aload 2, .iconst 0, .aload 0, .iload 1, .invokeinterface 149 2, .i2l, .lastore, .goto 2],
  [.astore 3, .iconst 1, .ireturn],
  [.iconst 0, .ireturn]]
-- 296 Law.weakest (LServiceBudgets;I[J)I
def zb_296 : List (List Instr) := [
  [.aload 2, .iconst 0, .aload 0, .iload 1, .invokeinterface 150 2, .i2l, .lastore, .goto 2],
  [.astore 3, .iconst 1, .ireturn],
  [.iconst 0, .ireturn]]
-- 297 Law.append (LServiceBudgets;I[J)I
def zb_297 : List (List Instr) := [
  [.aload 2, .iconst 0, .aload 0, .iload 1, .invokeinterface 151 2, .i2l, .lastore, .goto 3],
  [.astore 3, .iconst 1, .ireturn],
  [.astore 3, .iconst 2, .ireturn],
  [.iconst 0, .ireturn]]
-- 298 Law.undo (LServiceBudgets;[J)I
def zb_298 : List (List Instr) := [
  [.aload 1, .iconst 0, .aload 0, .invokeinterface 154 1, .i2l, .lastore, .goto 2],
  [.astore 2, .iconst 1, .ireturn],
  [.iconst 0, .ireturn]]
-- 299 Law.law ([I)Z
def zb_299 : List (List Instr) := [
  [.new 9, .dup, .invokeinterface 115 1, .astore 1, .new 10, .dup, .invokeinterface 160 1, .astore 2, .iconst 1, .newarray .long, .astore 3, .iconst 0, .istore 4, .goto_w 1],
  [.iload 4, .aload 0, .arraylength, .iconst 6, .isub, .if_icmp .gt 107, .aload 0, .iload 4, .iaload, .iconst 63, .iand, .lookupswitch 106 #[(0, 2), (1, 5), (2, 8), (3, 11), (4, 14), (5, 17), (6, 18), (7, 19), (8, 22), (9, 25), (10, 30), (11, 31), (12, 34), (13, 39), (14, 42), (15, 45), (16, 48), (17, 51), (18, 54), (19, 55), (20, 56), (21, 59), (22, 62), (23, 65), (24, 66), (25, 69), (26, 72), (27, 75), (28, 78), (29, 79), (30, 80), (31, 85), (32, 88), (33, 91), (34, 94), (35, 97), (36, 100), (37, 101), (38, 102), (39, 105)]],
  [.aload 1, .aload 0, .iload 4, .iconst 1, .iadd, .iaload, .aload 3, .invokeinterface 270 3, .istore 5, .aload 2, .aload 0, .iload 4, .iconst 1, .iadd, .iaload, .invokeinterface 193 2, .istore 6, .aload 2, .invokeinterface 161 1, .iload 5, .if_icmp .eq 3, .iconst 0, .ireturn],
  [.iload 5, .ifCond .ne 4, .aload 3, .iconst 0, .laload, .iload 6, .i2l, .lcmp, .ifCond .eq 4, .iconst 0, .ireturn],
  [.goto 106],
  [.aload 1, .aload 0, .iload 4, .iconst 1, .iadd, .iaload, .aload 0, .iload 4, .iconst 2, .iadd, .iaload, .aload 0, .iload 4, .iconst 3, .iadd, .iaload, .aload 0, .iload 4, .iconst 4, .iadd, .iaload, .aload 0, .iload 4, .iconst 5, .iadd, .iaload, .aload 3, .invokeinterface 271 7, .istore 5, .aload 2, .aload 0, .iload 4, .iconst 1, .iadd, .iaload, .aload 0, .iload 4, .iconst 2, .iadd, .iaload, .aload 0, .iload 4, .iconst 3, .iadd, .iaload, .aload 0, .iload 4, .iconst 4, .iadd, .iaload, .aload 0, .iload 4, .iconst 5, .iadd, .iaload, .invokeinterface 194 6, .istore 6, .aload 2, .invokeinterface 161 1, .iload 5, .if_icmp .eq 6, .iconst 0, .ireturn],
  [.iload 5, .ifCond .ne 7, .aload 3, .iconst 0, .laload, .iload 6, .i2l, .lcmp, .ifCond .eq 7, .iconst 0, .ireturn],
  [.goto 106],
  [.aload 1, .aload 0, .iload 4, .iconst 1, .iadd, .iaload, .aload 3, .invokeinterface 272 3, .istore 5, .aload 2, .aload 0, .iload 4, .iconst 1, .iadd, .iaload, .invokeinterface 196 2, .istore 6, .aload 2, .invokeinterface 161 1, .iload 5, .if_icmp .eq 9, .iconst 0, .ireturn],
  [.iload 5, .ifCond .ne 10, .aload 3, .iconst 0, .laload, .iload 6, .i2l, .lcmp, .ifCond .eq 10, .iconst 0, .ireturn],
  [.goto 106],
  [.aload 1, .aload 0, .iload 4, .iconst 1, .iadd, .iaload, .aload 0, .iload 4, .iconst 2, .iadd, .iaload, .aload 0, .iload 4, .iconst 3, .iadd, .iaload, .aload 3, .invokeinterface 273 5, .istore 5, .aload 2, .aload 0, .iload 4, .iconst 1, .iadd, .iaload, .aload 0, .iload 4, .iconst 2, .iadd, .iaload, .aload 0, .iload 4, .iconst 3, .iadd, .iaload, .invokeinterface 197 4, .istore 6, .aload 2, .invokeinterface 161 1, .iload 5, .if_icmp .eq 12, .iconst 0, .ireturn],
  [.iload 5, .ifCond .ne 13, .aload 3, .iconst 0, .laload, .iload 6, .i2l, .lcmp, .ifCond .eq 13, .iconst 0, .ireturn],
  [.goto 106],
  [.aload 1, .aload 0, .iload 4, .iconst 1, .iadd, .iaload, .aload 0, .iload 4, .iconst 2, .iadd, .iaload, .aload 3, .invokeinterface 274 4, .istore 5, .aload 2, .aload 0, .iload 4, .iconst 1, .iadd, .iaload, .aload 0, .iload 4, .iconst 2, .iadd, .iaload, .invokeinterface 198 3, .istore 6, .aload 2, .invokeinterface 161 1, .iload 5, .if_icmp .eq 15, .iconst 0, .ireturn],
  [.iload 5, .ifCond .ne 16, .aload 3, .iconst 0, .laload, .iload 6, .i2l, .lcmp, .ifCond .eq 16, .iconst 0, .ireturn],
  [.goto 106],
  [.aload 1, .invokeinterface 121 1, .aload 2, .invokeinterface 199 1, .if_icmp .eq 106, .iconst 0, .ireturn],
  [.aload 1, .invokeinterface 122 1, .aload 2, .invokeinterface 200 1, .if_icmp .eq 106, .iconst 0, .ireturn],
  [.aload 1, .aload 0, .iload 4, .iconst 1, .iadd, .iaload, .aload 0, .iload 4, .iconst 2, .iadd, .iaload, .aload 3, .invokeinterface 275 4, .istore 5, .aload 2, .aload 0, .iload 4, .iconst 1, .iadd, .iaload, .aload 0, .iload 4, .iconst 2, .iadd, .iaload, .invokeinterface 202 3, .istore 6, .aload 2, .invokeinterface 161 1, .iload 5, .if_icmp .eq 20, .iconst 0, .ireturn],
  [.iload 5, .ifCond .ne 21, .aload 3, .iconst 0, .laload, .iload 6, .i2l, .lcmp, .ifCond .eq 21, .iconst 0, .ireturn],
  [.goto 106],
  [.aload 1, .aload 0, .iload 4, .iconst 1, .iadd, .iaload, .aload 0, .iload 4, .iconst 2, .iadd, .iaload, .aload 3, .invokeinterface 276 4, .istore 5, .aload 2, .aload 0, .iload 4, .iconst 1, .iadd, .iaload, .aload 0, .iload 4, .iconst 2, .iadd, .iaload, .invokeinterface 204 3, .istore 6, .aload 2, .invokeinterface 161 1, .iload 5, .if_icmp .eq 23, .iconst 0, .ireturn],
  [.iload 5, .ifCond .ne 24, .aload 3, .iconst 0, .laload, .iload 6, .i2l, .lcmp, .ifCond .eq 24, .iconst 0, .ireturn],
  [.goto 106],
  [.aload 1, .aload 0, .iload 4, .iconst 1, .iadd, .iaload, .aload 0, .iload 4, .iconst 2, .iadd, .iaload, .aload 3, .invokeinterface 277 4, .istore 5, .aload 2, .aload 0, .iload 4, .iconst 1, .iadd, .iaload, .aload 0, .iload 4, .iconst 2, .iadd, .iaload, .invokeinterface 205 3, .istore 6, .aload 2, .invokeinterface 161 1, .iload 5, .if_icmp .eq 26, .iconst 0, .ireturn],
  [.iload 5, .ifCond .ne 29, .aload 3, .iconst 0, .laload, .iload 6, .ifCond .eq 27, .jsr_w 1, .goto 28],
  [.jsr_w 0, .goto_w 28],
  [.lcmp, .ifCond .eq 29, .iconst 0, .ireturn],
  [.goto 106],
  [.aload 1, .aload 0, .iload 4, .iconst 1, .iadd, .iaload, .invokeinterface 126 2, .aload 2, .aload 0, .iload 4, .iconst 1, .iadd, .iaload, .invokeinterface 206 2, .if_icmp .eq 106, .iconst 0, .ireturn],
  [.aload 1, .aload 0, .iload 4, .iconst 1, .iadd, .iaload, .aload 3, .invokeinterface 278 3, .istore 5, .aload 2, .aload 0, .iload 4, .iconst 1, .iadd, .iaload, .invokeinterface 208 2, .istore 6, .aload 2, .invokeinterface 161 1, .iload 5, .if_icmp .eq 32, .iconst 0, .ireturn],
  [.iload 5, .ifCond .ne 33, .aload 3, .iconst 0, .laload, .iload 6, .i2l, .lcmp, .ifCond .eq 33, .iconst 0, .ireturn],
  [.goto 106],
  [.aload 1, .aload 0, .iload 4, .iconst 1, .iadd, .iaload, .aload 0, .iload 4, .iconst 2, .iadd, .iaload, .aload 3, .invokeinterface 279 4, .istore 5, .aload 2, .aload 0, .iload 4, .iconst 1, .iadd, .iaload, .aload 0, .iload 4, .iconst 2, .iadd, .iaload, .invokeinterface 218 3, .istore 6, .aload 2, .invokeinterface 161 1, .iload 5, .if_icmp .eq 35, .iconst 0, .ireturn],
  [.iload 5, .ifCond .ne 38, .aload 3, .iconst 0, .laload, .iload 6, .ifCond .eq 36, .jsr_w 1, .goto 37],
  [.jsr_w 0, .goto_w 37],
  [.lcmp, .ifCond .eq 38, .iconst 0, .ireturn],
  [.goto 106],
  [.aload 1, .aload 0, .iload 4, .iconst 1, .iadd, .iaload, .aload 3, .invokeinterface 280 3, .istore 5, .aload 2, .aload 0, .iload 4, .iconst 1, .iadd, .iaload, .invokeinterface 219 2, .istore 6, .aload 2, .invokeinterface 161 1, .iload 5, .if_icmp .eq 40, .iconst 0, .ireturn],
  [.iload 5, .ifCond .ne 41, .aload 3, .iconst 0, .laload, .iload 6, .i2l, .lcmp, .ifCond .eq 41, .iconst 0, .ireturn],
  [.goto 106],
  [.aload 1, .aload 0, .iload 4, .iconst 1, .iadd, .iaload, .aload 0, .iload 4, .iconst 2, .iadd, .iaload, .aload 3, .invokeinterface 281 4, .istore 5, .aload 2, .aload 0, .iload 4, .iconst 1, .iadd, .iaload, .aload 0, .iload 4, .iconst 2, .iadd, .iaload, .invokeinterface 220 3, .istore 6, .aload 2, .invokeinterface 161 1, .iload 5, .if_icmp .eq 43, .iconst 0, .ireturn],
  [.iload 5, .ifCond .ne 44, .aload 3, .iconst 0, .laload, .iload 6, .i2l, .lcmp, .ifCond .eq 44, .iconst 0, .ireturn],
  [.goto 106],
  [.aload 1, .aload 0, .iload 4, .iconst 1, .iadd, .iaload, .aload 0, .iload 4, .iconst 2, .iadd, .iaload, .aload 3, .invokeinterface 282 4, .istore 5, .aload 2, .aload 0, .iload 4, .iconst 1, .iadd, .iaload, .aload 0, .iload 4, .iconst 2, .iadd, .iaload, .invokeinterface 221 3, .istore 6, .aload 2, .invokeinterface 161 1, .iload 5, .if_icmp .eq 46, .iconst 0, .ireturn],
  [.iload 5, .ifCond .ne 47, .aload 3, .iconst 0, .laload, .iload 6, .i2l, .lcmp, .ifCond .eq 47, .iconst 0, .ireturn],
  [.goto 106],
  [.aload 1, .aload 0, .iload 4, .iconst 1, .iadd, .iaload, .aload 3, .invokeinterface 283 3, .istore 5, .aload 2, .aload 0, .iload 4, .iconst 1, .iadd, .iaload, .invokeinterface 222 2, .istore 6, .aload 2, .invokeinterface 161 1, .iload 5, .if_icmp .eq 49, .iconst 0, .ireturn],
  [.iload 5, .ifCond .ne 50, .aload 3, .iconst 0, .laload, .iload 6, .i2l, .lcmp, .ifCond .eq 50, .iconst 0, .ireturn],
  [.goto 106],
  [.aload 1, .aload 0, .iload 4, .iconst 1, .iadd, .iaload, .aload 3, .invokeinterface 284 3, .istore 5, .aload 2, .aload 0, .iload 4, .iconst 1, .iadd, .iaload, .invokeinterface 225 2, .istore 6, .aload 2, .invokeinterface 161 1, .iload 5, .if_icmp .eq 52, .iconst 0, .ireturn],
  [.iload 5, .ifCond .ne 53, .aload 3, .iconst 0, .laload, .iload 6, .i2l, .lcmp, .ifCond .eq 53, .iconst 0, .ireturn],
  [.goto 106],
  [.aload 1, .invokeinterface 134 1, .aload 2, .invokeinterface 227 1, .if_icmp .eq 106, .iconst 0, .ireturn],
  [.aload 1, .invokeinterface 135 1, .aload 2, .invokeinterface 228 1, .if_icmp .eq 106, .iconst 0, .ireturn],
  [.aload 1, .aload 0, .iload 4, .iconst 1, .iadd, .iaload, .aload 3, .invokeinterface 285 3, .istore 5, .aload 2, .aload 0, .iload 4, .iconst 1, .iadd, .iaload, .invokeinterface 232 2, .istore 6, .aload 2, .invokeinterface 161 1, .iload 5, .if_icmp .eq 57, .iconst 0, .ireturn],
  [.iload 5, .ifCond .ne 58, .aload 3, .iconst 0, .laload, .iload 6, .i2l, .lcmp, .ifCond .eq 58, .iconst 0, .ireturn],
  [.goto 106],
  [.aload 1, .aload 0, .iload 4, .iconst 1, .iadd, .iaload, .aload 3, .invokeinterface 286 3, .istore 5, .aload 2, .aload 0, .iload 4, .iconst 1, .iadd, .iaload, .invokeinterface 233 2, .istore 6, .aload 2, .invokeinterface 161 1, .iload 5, .if_icmp .eq 60, .iconst 0, .ireturn],
  [.iload 5, .ifCond .ne 61, .aload 3, .iconst 0, .laload, .iload 6, .i2l, .lcmp, .ifCond .eq 61, .iconst 0, .ireturn],
  [.goto 106],
  [.aload 1, .aload 0, .iload 4, .iconst 1, .iadd, .iaload, .aload 3, .invokeinterface 287 3, .istore 5, .aload 2, .aload 0, .iload 4, .iconst 1, .iadd, .iaload, .invokeinterface 234 2, .istore 6, .aload 2, .invokeinterface 161 1, .iload 5, .if_icmp .eq 63, .iconst 0, .ireturn],
  [.iload 5, .ifCond .ne 64, .aload 3, .iconst 0, .laload, .iload 6, .i2l, .lcmp, .ifCond .eq 64, .iconst 0, .ireturn],
  [.goto 106],
  [.aload 1, .invokeinterface 139 1, .aload 2, .invokeinterface 235 1, .if_icmp .eq 106, .iconst 0, .ireturn],
  [.aload 1, .aload 0, .iload 4, .iconst 1, .iadd, .iaload, .aload 3, .invokeinterface 288 3, .istore 5, .aload 2, .aload 0, .iload 4, .iconst 1, .iadd, .iaload, .invokeinterface 237 2, .istore 6, .aload 2, .invokeinterface 161 1, .iload 5, .if_icmp .eq 67, .iconst 0, .ireturn],
  [.iload 5, .ifCond .ne 68, .aload 3, .iconst 0, .laload, .iload 6, .i2l, .lcmp, .ifCond .eq 68, .iconst 0, .ireturn],
  [.goto 106],
  [.aload 1, .aload 0, .iload 4, .iconst 1, .iadd, .iaload, .aload 3, .invokeinterface 289 3, .istore 5, .aload 2, .aload 0, .iload 4, .iconst 1, .iadd, .iaload, .invokeinterface 238 2, .istore 6, .aload 2, .invokeinterface 161 1, .iload 5, .if_icmp .eq 70, .iconst 0, .ireturn],
  [.iload 5, .ifCond .ne 71, .aload 3, .iconst 0, .laload, .iload 6, .i2l, .lcmp, .ifCond .eq 71, .iconst 0, .ireturn],
  [.goto 106],
  [.aload 1, .aload 0, .iload 4, .iconst 1, .iadd, .iaload, .aload 3, .invokeinterface 290 3, .istore 5, .aload 2, .aload 0, .iload 4, .iconst 1, .iadd, .iaload, .invokeinterface 241 2, .istore 6, .aload 2, .invokeinterface 161 1, .iload 5, .if_icmp .eq 73, .iconst 0, .ireturn],
  [.iload 5, .ifCond .ne 74, .aload 3, .iconst 0, .laload, .iload 6, .i2l, .lcmp, .ifCond .eq 74, .iconst 0, .ireturn],
  [.goto 106],
  [.aload 1, .aload 0, .iload 4, .iconst 1, .iadd, .iaload, .aload 0, .iload 4, .iconst 2, .iadd, .iaload, .aload 3, .invokeinterface 291 4, .istore 5, .aload 2, .aload 0, .iload 4, .iconst 1, .iadd, .iaload, .aload 0, .iload 4, .iconst 2, .iadd, .iaload, .invokeinterface 242 3, .istore 6, .aload 2, .invokeinterface 161 1, .iload 5, .if_icmp .eq 76, .iconst 0, .ireturn],
  [.iload 5, .ifCond .ne 77, .aload 3, .iconst 0, .laload, .iload 6, .i2l, .lcmp, .ifCond .eq 77, .iconst 0, .ireturn],
  [.goto 106],
  [.aload 1, .invokeinterface 144 1, .aload 2, .invokeinterface 246 1, .if_icmp .eq 106, .iconst 0, .ireturn],
  [.aload 1, .aload 0, .iload 4, .iconst 1, .iadd, .iaload, .invokeinterface 145 2, .aload 2, .aload 0, .iload 4, .iconst 1, .iadd, .iaload, .invokeinterface 247 2, .if_icmp .eq 106, .iconst 0, .ireturn],
  [.aload 1, .aload 0, .iload 4, .iconst 1, .iadd, .iaload, .aload 0, .iload 4, .iconst 2, .iadd, .iaload, .aload 3, .invokeinterface 292 4, .istore 5, .aload 2, .aload 0, .iload 4, .iconst 1, .iadd, .iaload, .aload 0, .iload 4, .iconst 2, .iadd, .iaload, .invokeinterface 249 3, .istore 6, .aload 2, .invokeinterface 161 1, .iload 5, .if_icmp .eq 81, .iconst 0, .ireturn],
  [.iload 5, .ifCond .ne 84, .aload 3, .iconst 0, .laload, .iload 6, .ifCond .eq 82, .jsr_w 1, .goto 83],
  [.jsr_w 0, .goto_w 83],
  [.lcmp, .ifCond .eq 84, .iconst 0, .ireturn],
  [.goto 106],
  [.aload 1, .aload 0, .iload 4, .iconst 1, .iadd, .iaload, .aload 0, .iload 4, .iconst 2, .iadd, .iaload, .aload 3, .invokeinterface 293 4, .istore 5, .aload 2, .aload 0, .iload 4, .iconst 1, .iadd, .iaload, .aload 0, .iload 4, .iconst 2, .iadd, .iaload, .invokeinterface 254 3, .istore 6, .aload 2, .invokeinterface 161 1, .iload 5, .if_icmp .eq 86, .iconst 0, .ireturn],
  [.iload 5, .ifCond .ne 87, .aload 3, .iconst 0, .laload, .iload 6, .i2l, .lcmp, .ifCond .eq 87, .iconst 0, .ireturn],
  [.goto 106],
  [.aload 1, .aload 0, .iload 4, .iconst 1, .iadd, .iaload, .aload 0, .iload 4, .iconst 2, .iadd, .iaload, .aload 0, .iload 4, .iconst 3, .iadd, .iaload, .aload 3, .invokeinterface 294 5, .istore 5, .aload 2, .aload 0, .iload 4, .iconst 1, .iadd, .iaload, .aload 0, .iload 4, .iconst 2, .iadd, .iaload, .aload 0, .iload 4, .iconst 3, .iadd, .iaload, .invokeinterface 255 4, .istore 6, .aload 2, .invokeinterface 161 1, .iload 5, .if_icmp .eq 89, .iconst 0, .ireturn],
  [.iload 5, .ifCond .ne 90, .aload 3, .iconst 0, .laload, .iload 6, .i2l, .lcmp, .ifCond .eq 90, .iconst 0, .ireturn],
  [.goto 106],
  [.aload 1, .aload 0, .iload 4, .iconst 1, .iadd, .iaload, .aload 3, .invokeinterface 295 3, .istore 5, .aload 2, .aload 0, .iload 4, .iconst 1, .iadd, .iaload, .invokeinterface 257 2, .istore 6, .aload 2, .invokeinterface 161 1, .iload 5, .if_icmp .eq 92, .iconst 0, .ireturn],
  [.iload 5, .ifCond .ne 93, .aload 3, .iconst 0, .laload, .iload 6, .i2l, .lcmp, .ifCond .eq 93, .iconst 0, .ireturn],
  [.goto 106],
  [.aload 1, .aload 0, .iload 4, .iconst 1, .iadd, .iaload, .aload 3, .invokeinterface 296 3, .istore 5, .aload 2, .aload 0, .iload 4, .iconst 1, .iadd, .iaload, .invokeinterface 258 2, .istore 6, .aload 2, .invokeinterface 161 1, .iload 5, .if_icmp .eq 95, .iconst 0, .ireturn],
  [.iload 5, .ifCond .ne 96, .aload 3, .iconst 0, .laload, .iload 6, .i2l, .lcmp, .ifCond .eq 96, .iconst 0, .ireturn],
  [.goto 106],
  [.aload 1, .aload 0, .iload 4, .iconst 1, .iadd, .iaload, .aload 3, .invokeinterface 297 3, .istore 5, .aload 2, .aload 0, .iload 4, .iconst 1, .iadd, .iaload, .invokeinterface 259 2, .istore 6, .aload 2, .invokeinterface 161 1, .iload 5, .if_icmp .eq 98, .iconst 0, .ireturn],
  [.iload 5, .ifCond .ne 99, .aload 3, .iconst 0, .laload, .iload 6, .i2l, .lcmp, .ifCond .eq 99, .iconst 0, .ireturn],
  [.goto 106],
  [.aload 1, .invokeinterface 152 1, .aload 2, .invokeinterface 260 1, .if_icmp .eq 106, .iconst 0, .ireturn],
  [.aload 1, .invokeinterface 153 1, .aload 2, .invokeinterface 266 1, .if_icmp .eq 106, .iconst 0, .ireturn],
  [.aload 1, .aload 3, .invokeinterface 298 2, .istore 5, .aload 2, .invokeinterface 267 1, .istore 6, .aload 2, .invokeinterface 161 1, .iload 5, .if_icmp .eq 103, .iconst 0, .ireturn],
  [.iload 5, .ifCond .ne 104, .aload 3, .iconst 0, .laload, .iload 6, .i2l, .lcmp, .ifCond .eq 104, .iconst 0, .ireturn],
  [.goto 106],
  [.aload 1, .invokeinterface 155 1, .aload 2, .invokeinterface 269 1, .lcmp, .ifCond .eq 106, .iconst 0, .ireturn],
  [.iinc 4 6, .goto 1],
  [.iconst 1, .ireturn]]
-- 300 Math.max (II)I
def zb_300 : List (List Instr) := [
  [.iload 0, .iload 1, .if_icmp .lt 1, .iload 0, .goto 2],
  [.iload 1, .goto_w 2],
  [.ireturn]]
-- 301 Math.min (II)I
def zb_301 : List (List Instr) := [
  [.iload 0, .iload 1, .if_icmp .gt 1, .iload 0, .goto 2],
  [.iload 1, .goto_w 2],
  [.ireturn]]
-- 302 Integer.bitCount (I)I
def zb_302 : List (List Instr) := [
  [.iload 0, .iload 0, .iconst 1, .iushr, .iconst 1431655765, .iand, .isub, .istore 0, .iload 0, .iconst 858993459, .iand, .iload 0, .iconst 2, .iushr, .iconst 858993459, .iand, .iadd, .istore 0, .iload 0, .iload 0, .iconst 4, .iushr, .iadd, .iconst 252645135, .iand, .istore 0, .iload 0, .iload 0, .iconst 8, .iushr, .iadd, .istore 0, .iload 0, .iload 0, .iconst 16, .iushr, .iadd, .istore 0, .iload 0, .iconst 63, .iand, .ireturn]]
-- 303 Float.floatToIntBits (F)I
def zb_303 : List (List Instr) := [
  [.fload 0, .invokeinterface 304 1, .ifCond .ne 1, .fload 0, .f2i, .ireturn],
  [.iconst 2143289344, .ireturn]]
-- 304 Float.isNaN (F)Z
def zb_304 : List (List Instr) := [
  [.fload 0, .fload 0, .fcmp .l, .ifCond .eq 1, .iconst 1, .goto 2],
  [.iconst 0, .goto_w 2],
  [.ireturn]]
def zTab : List (List (List Instr)) := [zb_0, zb_1, zb_2, zb_3, zb_4, zb_5, zb_6, zb_7, zb_8, zb_9, zb_10, zb_11, zb_12, zb_13, zb_14, zb_15, zb_16, zb_17, zb_18, zb_19, zb_20, zb_21, zb_22, zb_23, zb_24, zb_25, zb_26, zb_27, zb_28, zb_29, zb_30, zb_31, zb_32, zb_33, zb_34, zb_35, zb_36, zb_37, zb_38, zb_39, zb_40, zb_41, zb_42, zb_43, zb_44, zb_45, zb_46, zb_47, zb_48, zb_49, zb_50, zb_51, zb_52, zb_53, zb_54, zb_55, zb_56, zb_57, zb_58, zb_59, zb_60, zb_61, zb_62, zb_63, zb_64, zb_65, zb_66, zb_67, zb_68, zb_69, zb_70, zb_71, zb_72, zb_73, zb_74, zb_75, zb_76, zb_77, zb_78, zb_79, zb_80, zb_81, zb_82, zb_83, zb_84, zb_85, zb_86, zb_87, zb_88, zb_89, zb_90, zb_91, zb_92, zb_93, zb_94, zb_95, zb_96, zb_97, zb_98, zb_99, zb_100, zb_101, zb_102, zb_103, zb_104, zb_105, zb_106, zb_107, zb_108, zb_109, zb_110, zb_111, zb_112, zb_113, zb_114, zb_115, zb_116, zb_117, zb_118, zb_119, zb_120, zb_121, zb_122, zb_123, zb_124, zb_125, zb_126, zb_127, zb_128, zb_129, zb_130, zb_131, zb_132, zb_133, zb_134, zb_135, zb_136, zb_137, zb_138, zb_139, zb_140, zb_141, zb_142, zb_143, zb_144, zb_145, zb_146, zb_147, zb_148, zb_149, zb_150, zb_151, zb_152, zb_153, zb_154, zb_155, zb_156, zb_157, zb_158, zb_159, zb_160, zb_161, zb_162, zb_163, zb_164, zb_165, zb_166, zb_167, zb_168, zb_169, zb_170, zb_171, zb_172, zb_173, zb_174, zb_175, zb_176, zb_177, zb_178, zb_179, zb_180, zb_181, zb_182, zb_183, zb_184, zb_185, zb_186, zb_187, zb_188, zb_189, zb_190, zb_191, zb_192, zb_193, zb_194, zb_195, zb_196, zb_197, zb_198, zb_199, zb_200, zb_201, zb_202, zb_203, zb_204, zb_205, zb_206, zb_207, zb_208, zb_209, zb_210, zb_211, zb_212, zb_213, zb_214, zb_215, zb_216, zb_217, zb_218, zb_219, zb_220, zb_221, zb_222, zb_223, zb_224, zb_225, zb_226, zb_227, zb_228, zb_229, zb_230, zb_231, zb_232, zb_233, zb_234, zb_235, zb_236, zb_237, zb_238, zb_239, zb_240, zb_241, zb_242, zb_243, zb_244, zb_245, zb_246, zb_247, zb_248, zb_249, zb_250, zb_251, zb_252, zb_253, zb_254, zb_255, zb_256, zb_257, zb_258, zb_259, zb_260, zb_261, zb_262, zb_263, zb_264, zb_265, zb_266, zb_267, zb_268, zb_269, zb_270, zb_271, zb_272, zb_273, zb_274, zb_275, zb_276, zb_277, zb_278, zb_279, zb_280, zb_281, zb_282, zb_283, zb_284, zb_285, zb_286, zb_287, zb_288, zb_289, zb_290, zb_291, zb_292, zb_293, zb_294, zb_295, zb_296, zb_297, zb_298, zb_299, zb_300, zb_301, zb_302, zb_303, zb_304]
def zB (m : Nat) (l : Int) : List Instr := (zTab.getD m []).getD l.toNat []
/-- what a method answers: 0 nothing, 1 int, 2 boolean, 3 long, 4 double -/
def zRkT : List Nat := [0, 1, 0, 1, 0, 0, 0, 0, 3, 0, 2, 2, 1, 1, 4, 0, 1, 0, 0, 0, 1, 1, 1, 0, 1, 0, 1, 1, 1, 1, 1, 0, 0, 0, 1, 1, 0, 1, 1, 1, 1, 1, 1, 1, 1, 1, 0, 2, 1, 1, 0, 0, 1, 1, 1, 1, 1, 0, 1, 1, 2, 1, 1, 1, 1, 0, 0, 1, 1, 1, 1, 1, 1, 1, 1, 1, 1, 1, 1, 1, 1, 1, 1, 1, 2, 2, 2, 1, 1, 2, 2, 2, 1, 1, 1, 0, 1, 1, 0, 1, 0, 0, 0, 1, 1, 1, 1, 1, 1, 1, 1, 1, 1, 1, 0, 0, 1, 1, 1, 1, 1, 1, 1, 1, 1, 2, 1, 1, 2, 1, 1, 1, 1, 1, 1, 1, 1, 1, 1, 1, 1, 1, 1, 1, 1, 1, 2, 1, 1, 1, 1, 1, 1, 1, 1, 3, 0, 1, 2, 1, 0, 1, 2, 1, 1, 0, 0, 1, 1, 0, 1, 1, 1, 2, 2, 2, 2, 1, 1, 1, 0, 0, 2, 1, 1, 2, 1, 1, 1, 0, 1, 1, 1, 1, 1, 1, 1, 1, 1, 1, 1, 1, 1, 1, 1, 2, 1, 0, 1, 0, 0, 2, 0, 1, 1, 0, 0, 2, 2, 1, 1, 1, 1, 0, 0, 1, 1, 1, 1, 1, 2, 1, 1, 1, 1, 1, 1, 1, 1, 1, 1, 1, 1, 1, 1, 1, 1, 1, 1, 2, 0, 1, 2, 1, 1, 1, 4, 1, 1, 1, 1, 2, 1, 2, 2, 1, 1, 1, 0, 3, 1, 1, 1, 1, 1, 1, 1, 1, 1, 1, 1, 1, 1, 1, 1, 1, 1, 1, 1, 1, 1, 1, 1, 1, 1, 1, 1, 1, 1, 2, 1, 1, 1, 1, 2]
def zRk (m : Nat) : Nat := zRkT.getD m 0
/-- handlers: method, exception (1 IndexOutOfBounds, 2 IllegalArgument, 3 IllegalState), label -/
def zEx : List (Nat × Nat × Int) := [(270, 2, 1), (270, 3, 2), (271, 1, 1), (271, 2, 2), (271, 3, 3), (272, 1, 1), (272, 3, 2), (273, 1, 1), (273, 2, 2), (274, 1, 1), (274, 2, 2), (275, 1, 1), (275, 2, 2), (276, 1, 1), (276, 2, 2), (277, 1, 3), (278, 1, 1), (279, 1, 3), (279, 2, 4), (280, 2, 1), (280, 3, 2), (281, 2, 1), (282, 2, 1), (283, 1, 1), (284, 1, 1), (285, 1, 1), (285, 3, 2), (286, 1, 1), (286, 3, 2), (287, 2, 1), (288, 1, 1), (288, 3, 2), (289, 1, 1), (289, 3, 2), (290, 2, 1), (291, 2, 1), (291, 1, 2), (292, 1, 3), (292, 2, 4), (293, 1, 1), (293, 2, 2), (294, 1, 1), (294, 2, 2), (295, 1, 1), (296, 1, 1), (297, 2, 1), (297, 3, 2), (298, 3, 1)]
def zE (m k : Nat) : Option Int := (zEx.find? (fun q => q.1 == m && q.2.1 == k)).map (fun q => q.2.2)
/-- the type of a field: 1 int, 2 boolean, 3 long, 5 a reference -/
def zTyT : List (List Nat) := [[5], [5, 5, 5], [5, 5, 1, 5, 5], [5, 1], [5, 5, 5, 5], [2, 1, 1, 1, 1, 1, 1, 1, 5, 5], [], [1, 1, 5, 5], [5, 1, 5, 5], [5, 5, 5, 5, 5, 5, 5, 5, 5], [5, 5, 5, 1, 5, 1, 1, 5, 5, 1, 5, 5, 5, 5, 5, 5, 5, 5, 5, 5, 1, 1, 1, 1, 1, 1, 1, 1, 5, 5, 5, 5, 5, 2, 2, 5, 1, 5, 5, 5, 1, 1, 5, 3]]
def zTy (n : Nat) : Nat := (zTyT.getD (n / 64) []).getD (n % 64) 0
def zNf (t : Nat) : Nat := (zTyT.getD t []).length
def zDv (ty : Nat) : Value := if ty = 5 then .null else if ty = 3 then .long 0 else .int 0
/-- the fields of a new object -/
def zDf (t : Nat) (k : Int) : Value := zDv ((zTyT.getD t []).getD k.toNat 0)
def zAt : ArrayType → Nat
  | .int => 20 | .long => 21 | .double => 22 | .boolean => 23 | _ => 99
/-- arguments, locals -/
def zNaT : List Nat := [1, 3, 4, 6, 5, 1, 1, 3, 2, 4, 3, 4, 4, 5, 4, 3, 3, 1, 2, 2, 3, 2, 1, 2, 3, 2, 3, 2, 2, 4, 3, 1, 2, 1, 1, 2, 1, 2, 3, 4, 3, 4, 2, 4, 2, 3, 1, 4, 6, 4, 5, 1, 1, 2, 1, 3, 3, 1, 1, 1, 1, 1, 6, 7, 7, 1, 2, 2, 2, 2, 2, 2, 6, 6, 2, 2, 4, 4, 3, 3, 3, 2, 2, 2, 3, 3, 2, 2, 2, 3, 3, 2, 1, 1, 2, 2, 2, 2, 2, 1, 3, 3, 1, 1, 2, 1, 1, 1, 1, 3, 1, 2, 3, 3, 3, 1, 2, 6, 2, 4, 3, 1, 1, 3, 3, 3, 2, 2, 3, 2, 3, 3, 2, 2, 1, 1, 2, 2, 2, 1, 2, 2, 2, 3, 1, 2, 3, 3, 4, 2, 2, 2, 1, 1, 1, 1, 1, 3, 2, 1, 1, 1, 3, 2, 2, 1, 1, 2, 3, 4, 3, 2, 2, 2, 2, 2, 2, 2, 3, 2, 1, 1, 3, 2, 6, 2, 4, 1, 2, 2, 2, 2, 2, 2, 6, 2, 2, 4, 3, 1, 1, 3, 3, 3, 3, 3, 2, 1, 2, 2, 4, 1, 2, 1, 3, 1, 1, 3, 3, 2, 3, 3, 2, 2, 1, 2, 1, 1, 1, 1, 3, 1, 2, 2, 2, 1, 2, 2, 2, 3, 2, 2, 3, 2, 4, 1, 1, 2, 2, 3, 2, 1, 2, 4, 3, 4, 2, 2, 2, 2, 1, 3, 1, 2, 1, 1, 1, 1, 2, 1, 3, 7, 3, 5, 4, 4, 4, 4, 3, 4, 3, 4, 4, 3, 3, 3, 3, 3, 3, 3, 3, 4, 4, 4, 5, 3, 3, 3, 2, 1, 2, 2, 1, 1, 1]
def zNa (m : Nat) : Nat := zNaT.getD m 0
def zMlT : List Nat := [1, 5, 5, 6, 5, 1, 1, 7, 2, 7, 3, 5, 6, 7, 7, 11, 9, 1, 5, 3, 4, 2, 1, 3, 5, 3, 7, 4, 5, 6, 5, 2, 2, 3, 1, 2, 1, 4, 11, 6, 5, 7, 4, 10, 4, 7, 1, 4, 8, 5, 5, 1, 1, 2, 1, 3, 3, 1, 1, 1, 1, 1, 9, 10, 12, 1, 3, 2, 2, 2, 2, 4, 6, 7, 3, 3, 4, 5, 3, 4, 3, 2, 4, 3, 3, 3, 2, 6, 4, 4, 4, 2, 3, 1, 2, 2, 2, 2, 3, 5, 4, 3, 1, 1, 2, 2, 3, 1, 1, 7, 1, 3, 5, 6, 6, 1, 2, 6, 2, 4, 3, 1, 1, 3, 3, 3, 2, 2, 3, 2, 3, 3, 2, 2, 1, 1, 2, 2, 2, 1, 2, 3, 2, 3, 1, 2, 3, 3, 4, 2, 2, 2, 1, 3, 1, 5, 1, 3, 2, 4, 1, 1, 3, 2, 2, 2, 2, 3, 3, 4, 3, 2, 2, 2, 2, 2, 2, 2, 4, 4, 4, 4, 3, 3, 7, 2, 4, 3, 2, 2, 2, 4, 2, 2, 6, 4, 3, 4, 4, 1, 1, 3, 3, 3, 3, 3, 2, 5, 2, 2, 4, 2, 2, 3, 4, 5, 2, 6, 5, 2, 3, 3, 3, 5, 2, 2, 3, 1, 4, 3, 7, 6, 2, 2, 2, 1, 4, 2, 3, 6, 8, 2, 4, 4, 5, 6, 1, 8, 4, 3, 3, 3, 4, 7, 3, 4, 9, 2, 8, 2, 2, 3, 1, 3, 3, 1, 3, 2, 2, 3, 4, 8, 4, 6, 5, 5, 5, 5, 4, 5, 4, 5, 5, 4, 4, 4, 4, 4, 4, 4, 4, 5, 5, 5, 6, 4, 4, 4, 3, 7, 2, 2, 1, 1, 1]
def zMl (m : Nat) : Nat := zMlT.getD m 0
/-- the receiver: its tag (6: one that serves, 0 or 5); 99: none is looked at -/
def zRcT : List Nat := [99, 0, 0, 0, 0, 0, 99, 1, 99, 1, 1, 1, 1, 1, 1, 1, 1, 99, 2, 2, 2, 2, 2, 2, 2, 2, 2, 2, 2, 2, 2, 99, 3, 3, 3, 3, 99, 4, 4, 4, 4, 4, 4, 4, 99, 4, 99, 5, 5, 5, 5, 5, 5, 5, 5, 5, 5, 99, 99, 99, 99, 99, 6, 6, 6, 99, 7, 7, 7, 7, 7, 7, 7, 7, 7, 7, 7, 7, 7, 7, 7, 7, 7, 7, 7, 7, 7, 7, 7, 7, 7, 7, 7, 7, 7, 7, 7, 7, 7, 7, 7, 7, 99, 8, 8, 8, 8, 99, 99, 8, 99, 8, 8, 8, 8, 99, 9, 9, 9, 9, 9, 9, 9, 9, 9, 9, 9, 9, 9, 9, 9, 9, 9, 9, 9, 9, 9, 9, 9, 9, 9, 9, 9, 9, 9, 9, 9, 9, 9, 9, 9, 9, 9, 9, 9, 9, 99, 99, 99, 99, 99, 10, 99, 10, 10, 10, 10, 10, 10, 10, 10, 10, 10, 10, 10, 10, 10, 10, 10, 10, 10, 10, 10, 10, 10, 99, 10, 10, 10, 10, 10, 10, 10, 10, 10, 10, 10, 10, 10, 10, 10, 10, 10, 10, 10, 10, 10, 10, 10, 10, 10, 10, 10, 10, 10, 10, 10, 10, 10, 10, 10, 10, 10, 10, 10, 10, 10, 10, 10, 10, 10, 10, 10, 10, 10, 10, 10, 10, 10, 10, 10, 10, 10, 10, 10, 10, 10, 10, 10, 10, 10, 99, 10, 10, 10, 10, 10, 10, 10, 10, 10, 10, 99, 10, 10, 10, 10, 10, 10, 10, 99, 99, 99, 99, 99, 99, 99, 99, 99, 99, 99, 99, 99, 99, 99, 99, 99, 99, 99, 99, 99, 99, 99, 99, 99, 99, 99, 99, 99, 99, 99, 99, 99, 99, 99]
abbrev zRef : Nat := 156
def zDispT : List (Nat × Nat × Nat) := [(0, 0, 3), (0, 5, 48), (1, 0, 4), (1, 5, 50), (2, 0, 5), (2, 5, 51)]
end
section
/-! ===== BEGIN words of one list among another's, by their places ===== -/
theorem goodIn_r {big : List Cond} (ws : List Cond) (ps : List Nat) (hp : ws = ps.filterMap (fun i => big[i]?)) (h : ws.all goodWord = true) : GoodIn big ws := by
  intro w hw
  have h1 := List.all_eq_true.mp h w hw
  rw [hp] at hw
  obtain ⟨i, -, hi⟩ := List.mem_filterMap.mp hw
  have hm : w ∈ big := by first | exact List.mem_of_getElem? hi | exact List.getElem?_mem hi
  exact ⟨hm, good_of_word h1⟩
theorem goodIn_app {big a b : List Cond} (ha : GoodIn big a) (hb : GoodIn big b) : GoodIn big (a ++ b) := fun w h => (List.mem_append.mp h).elim (ha w) (hb w)
theorem goodIn_ca {big a b : List Cond} {c : Cond} (ha : GoodIn big (c :: a)) (hb : GoodIn big b) : GoodIn big (c :: (a ++ b)) := fun w h => (List.mem_cons.mp h).elim (fun e => ha w (List.mem_cons.mpr (Or.inl e))) (fun h => (List.mem_append.mp h).elim (fun h => ha w (List.mem_cons.mpr (Or.inr h))) (hb w))
theorem goodIn_sub {big ws : List Cond} (hm : ∀ w ∈ ws, w ∈ big) (h : ws.all goodWord = true) : GoodIn big ws := fun w hw => ⟨hm w hw, good_of_word (List.all_eq_true.mp h w hw)⟩
/-! ===== END ===== -/

/-! ===== BEGIN new T[n][m]: the outer array a place, the inner ones among the pooled ===== -/
/-- f, but v at every address of l -/
def vr_up {α : Type} (f : Nat → α) (l : List Nat) (v : α) : Nat → α := fun a => if a ∈ l then v else f a
theorem vr_up_in {α : Type} {f : Nat → α} {l : List Nat} {v : α} {a : Nat} (h : a ∈ l) : vr_up f l v a = v := if_pos h
theorem vr_up_ne {α : Type} {f : Nat → α} {l : List Nat} {v : α} {a : Nat} (h : a ∉ l) : vr_up f l v a = f a := if_neg h
theorem vr_rows {L l : List Nat} {f : Nat → va_E} {e : va_E} (h : ∀ a, a ∈ l → a ∉ L) : va_pl L f ++ l.map (fun a => (a, e)) = va_pl (L ++ l) (vr_up f l e) := by
  unfold va_pl
  rw [List.map_append]
  congr 1
  · apply List.map_congr_left
    intro a ha
    rw [vr_up_ne (fun q => h a q ha)]
  · apply List.map_congr_left
    intro a ha
    rw [vr_up_in ha]
theorem vr_lay {X rows : va_W} {x : Nat × va_E} {pl : va_W} {D : va_G} {cl : List vw_C} {H : Heap} (hP : va_P D cl (((X ++ pl) ++ [x]) ++ rows) H) : va_P D cl ((X ++ [x]) ++ (pl ++ rows)) H := by
  rw [List.append_assoc (X ++ pl)] at hP
  have h := va_P.swap hP
  rw [← List.append_assoc X] at h
  have h2 := va_P.swap h
  rw [List.append_assoc (X ++ [x])] at h2
  exact h2
theorem vr_layD {X rows : va_W} {x : Nat × va_E} {pl : va_W} {A : Nat → Prop} (hD : va_D A (((X ++ pl) ++ [x]) ++ rows)) : va_D A ((X ++ [x]) ++ (pl ++ rows)) := by
  rw [List.append_assoc (X ++ pl)] at hD
  have h := va_D.swap hD
  rw [← List.append_assoc X] at h
  have h2 := va_D.swap h
  rw [List.append_assoc (X ++ [x])] at h2
  exact h2
theorem vr_outer (c : ClassId) (N h0 : Nat) : ∀ i : Nat, Jvm.Free.Multi.outerC c N h0 i = arrV c N (fun j => va_rf (if j < i then some (h0 + 1 + j) else none))
  | 0 => by
    show ({ cls := c, slots := Array.replicate N .null, vm := .none } : Cell) = _
    rw [arrV_new]
    refine congrArg (arrV c N) (funext fun j => ?_)
    simp [va_rf]
  | i + 1 => by
    show (Jvm.Free.Multi.outerC c N h0 i).setSlot i (.ref (h0 + 1 + i)) = _
    rw [vr_outer c N h0 i, arrV_store]
    refine congrArg (arrV c N) (funext fun j => ?_)
    by_cases e : j = i
    · subst e
      simp [updV, va_rf]
    · by_cases h : j < i
      · simp [updV, e, h, Nat.lt_succ_of_lt h]
      · simp [updV, e, h, show ¬ j < i + 1 by omega]
/-! an array of arrays, in the tables: as va_AO of the kit, of an array type (the kit's va_mna speaks of it; the kit has no text of it) -/
def va_AOA (ty : FieldType) (U : State) : Prop := (Cond.arrayOver (.array ty)).before #[] U = true
theorem va_AOA.of {ty : FieldType} {A : Array Value} {U : State} (h : (Cond.arrayOver (.array ty)).before A U = true) : va_AOA ty U := h
theorem va_AOA.use {ty : FieldType} {A : Array Value} {U : State} (h : va_AOA ty U) : (Cond.arrayOver (.array ty)).before A U = true := h
theorem va_AOA.moved {ty : FieldType} {u U : State} (hvm : u.vm.Alike U.vm) (h : va_AOA ty u) : va_AOA ty U :=
  (Cond.arrayOver_setVmC (args := #[]) (s := u) hvm (.array ty)).trans h
section VGM
variable {p : Program} {l : Launch} {e : Env} {R : Room} {s : State} {m : MethodId} {args : Array Value} {below : List Frame} {meth : Method} {c : Code} {H : Heap} {locs : List Loc} {cells slots : Nat} {Q : State → Prop}
variable {cc : ByteArray} {pc : Nat} {ls : Array Slot} {rest : List Value} {D : va_G} {cl : List vw_C} {A : Nat → Prop} {a : Nat} {tys : List (ClassId × FieldType)} {ws : va_W} {H0 : Heap}
theorem va_mna {X : va_W} {L : List Nat} {f : Nat → va_E} {cc : ByteArray} (hexec : p.tables.exec = Jvm.exec) (hb : c.code = cc) {own : String} {index : Nat} {ty : FieldType} {cy : ClassId} (hown : s.vm.findClass own = some m.cls) (hclink : (Cond.classLink own index ("[" ++ (FieldType.array ty).toString)).before args s = true) (hover : va_AOA ty s) (harr : (Cond.arrayClass ty).before args s = true) (hcy : s.vm.findClass (FieldType.array ty).toString = some cy)
    (hK : va_K D cl tys s) (hP : va_P D cl (X ++ va_pl L f) H) (hD : va_D A (X ++ va_pl L f)) (hS : va_S A H0 H locs) (hA : ∀ q, H0.size ≤ q → A q) {n k : Int32} {N' K' : Nat} {z : vp_A} (hn : ¬ n < 0) (hk : ¬ k < 0) (hN : n.toNatClampNeg = N') (hM : k.toNatClampNeg = K')
    (hb1 : N' * 4 ≤ 536870912) (hb2 : K' * componentBytes ty ≤ 536870912) (hb3 : K' ≤ 536870912) (hdf : fits ty (defaultValue ty) = true) (hdd : (defaultValue ty).isDefault = true) (hcells : cells + (1 + N') ≤ R.cells) (hslots : slots + (N' + N' * K') ≤ R.slots) (hz : ∀ c : ClassId, Jvm.Free.Multi.innerC c K' (defaultValue ty) = vp_cell c z) (hdg : decode cc pc = .ok (.multianewarray index 2, 4))
    (kk : ∀ (q : Nat) (r : Nat → Nat) (cA : ClassId) (H1 : Heap), (∀ i j : Nat, i < N' → j < N' → r i = r j → i = j) → (∀ i : Nat, i < N' → r i ∉ L) → va_K D cl (tys ++ [(cA, .array ty)]) s →
      va_P D cl ((X ++ [(q, .inl (cA, N', .inr (.inr (.inr (.inr (fun i => if i < N' then some (r i) else none))))))]) ++ va_pl (L ++ (List.range N').map r) (vr_up f ((List.range N').map r) (.inl (cy, z)))) H1 → va_D A ((X ++ [(q, .inl (cA, N', .inr (.inr (.inr (.inr (fun i => if i < N' then some (r i) else none))))))]) ++ va_pl (L ++ (List.range N').map r) (vr_up f ((List.range N').map r) (.inl (cy, z)))) → va_S A H0 H1 locs →
      W p l e R s m args below meth c H1 locs (cells + 1 + N') (slots + N' + N' * K') Q (F0 m (pc + 4) ls (.ref q :: rest))) : W p l e R s m args below meth c H locs cells slots Q (F0 m pc ls (.int k :: .int n :: rest)) := by
  subst hN
  subst hM
  intro T hT Xs
  obtain ⟨vm₁, cA, comp, -, fA, fC, hO, -, X', step⟩ := Xs.multianewarray2F hexec hown hclink (va_AOA.use hover) harr (g := F0 m pc ls (.int k :: .int n :: rest)) rfl (by rw [hb]; exact hdg) rfl hn hk hb1 hb2 hb3 hdf hdd hcells hslots
  have ec : some cy = some comp := hcy.symm.trans fC
  cases ec
  generalize hF : Jvm.Free.Multi.fill (T.setVm vm₁) cA cy n.toNatClampNeg k.toNatClampNeg (defaultValue ty) n.toNatClampNeg = F at X' step
  have hTh : (T.setVm vm₁).heap = H := hT
  obtain ⟨f1, f2, -, -⟩ := Jvm.Free.Multi.fill_facts (T.setVm vm₁) cA cy n.toNatClampNeg k.toNatClampNeg (defaultValue ty) n.toNatClampNeg
  rw [hF, hTh] at f1 f2
  have hold : ∀ x : Nat, x < H.size → F.heap[x]? = H[x]? := fun x hx => by
    have := Jvm.Free.Multi.fill_old (T.setVm vm₁) cA cy n.toNatClampNeg k.toNatClampNeg (defaultValue ty) (a := x) (by rw [hTh]; exact hx) n.toNatClampNeg
    rw [hF, hTh] at this
    exact this
  have hrow : ∀ j : Nat, j < n.toNatClampNeg → F.heap[H.size + 1 + j]? = some (vp_cell cy z) := fun j hj => by
    have := Jvm.Free.Multi.fill_inner (T.setVm vm₁) cA cy n.toNatClampNeg k.toNatClampNeg (defaultValue ty) n.toNatClampNeg j hj
    rw [hF, hTh, hz] at this
    exact this
  have hout : Jvm.Free.Multi.outerC cA n.toNatClampNeg H.size n.toNatClampNeg = vp_cell cA (n.toNatClampNeg, .inr (.inr (.inr (.inr (fun i => if i < n.toNatClampNeg then some (H.size + 1 + i) else none))))) := by
    rw [vp_cell_q]
    exact vr_outer cA n.toNatClampNeg H.size n.toNatClampNeg
  rw [hout] at f2
  have hlt : ∀ a, a ∈ L → a < H.size := fun a ha => by
    obtain ⟨k9, hk9⟩ := va_pl_get (X := X) (f := f) ha
    exact (hP k9 _ hk9).lt
  have hnl : ∀ i : Nat, i < n.toNatClampNeg → H.size + 1 + i ∉ L := fun i _ h => by
    have := hlt _ h
    omega
  have hnm : ∀ a, a ∈ (List.range n.toNatClampNeg).map (fun i => H.size + 1 + i) → a ∉ L := fun a ha h => by
    obtain ⟨i, -, rfl⟩ := List.mem_map.mp ha
    have := hlt _ h
    omega
  have hP0 : va_P D cl (X ++ va_pl L f) F.heap := hP.kept (fun k9 x hx => hold x.1 ((hP k9 x hx).lt))
  have hP1 : va_P D cl ((X ++ va_pl L f) ++ [(H.size, .inl (cA, n.toNatClampNeg, .inr (.inr (.inr (.inr (fun i => if i < n.toNatClampNeg then some (H.size + 1 + i) else none))))))]) F.heap := hP0.app (fun k9 x hx => by
    have h0 : k9 < 1 := (List.getElem?_eq_some_iff.mp hx).1
    rw [show k9 = 0 by omega] at hx
    cases hx
    exact f2)
  have hP2 : va_P D cl (((X ++ va_pl L f) ++ [(H.size, .inl (cA, n.toNatClampNeg, .inr (.inr (.inr (.inr (fun i => if i < n.toNatClampNeg then some (H.size + 1 + i) else none))))))]) ++ ((List.range n.toNatClampNeg).map (fun i => H.size + 1 + i)).map (fun a => (a, .inl (cy, z)))) F.heap := hP1.app (fun k9 x hx => by
    obtain ⟨a, ha, rfl⟩ := List.mem_map.mp (List.mem_of_getElem? hx)
    obtain ⟨i, hi, rfl⟩ := List.mem_map.mp ha
    exact hrow i (List.mem_range.mp hi))
  have hD2 : va_D A (((X ++ va_pl L f) ++ [(H.size, .inl (cA, n.toNatClampNeg, .inr (.inr (.inr (.inr (fun i => if i < n.toNatClampNeg then some (H.size + 1 + i) else none))))))]) ++ ((List.range n.toNatClampNeg).map (fun i => H.size + 1 + i)).map (fun a => (a, .inl (cy, z)))) := by
    have hD1 := hD.push (e := .inl (cA, n.toNatClampNeg, .inr (.inr (.inr (.inr (fun i => if i < n.toNatClampNeg then some (H.size + 1 + i) else none)))))) hP rfl (hA _ hS.1)
    generalize hW1 : (X ++ va_pl L f) ++ [(H.size, .inl (cA, n.toNatClampNeg, .inr (.inr (.inr (.inr (fun i => if i < n.toNatClampNeg then some (H.size + 1 + i) else none))))))] = W1 at hD1 hP1 ⊢
    have hle : ∀ (k9 : Nat) (x : Nat × va_E), W1[k9]? = some x → x.1 ≤ H.size := fun k9 x hx => by
      rw [← hW1] at hx
      by_cases hl : k9 < (X ++ va_pl L f).length
      · rw [List.getElem?_append_left hl] at hx
        exact Nat.le_of_lt ((hP k9 x hx).lt)
      · rw [List.getElem?_append_right (by omega)] at hx
        have h0 : k9 - (X ++ va_pl L f).length < 1 := (List.getElem?_eq_some_iff.mp hx).1
        rw [show k9 - (X ++ va_pl L f).length = 0 by omega] at hx
        cases hx
        exact Nat.le_refl _
    have hr : ∀ (k9 : Nat) (x : Nat × va_E), (((List.range n.toNatClampNeg).map (fun i => H.size + 1 + i)).map (fun a => ((a, .inl (cy, z)) : Nat × va_E)))[k9]? = some x → x.1 = H.size + 1 + k9 := fun k9 x hx => by
      rw [List.getElem?_map, List.getElem?_map] at hx
      by_cases h9 : k9 < n.toNatClampNeg
      · rw [List.getElem?_range h9] at hx
        cases hx
        rfl
      · have hn0 : (List.range n.toNatClampNeg)[k9]? = none := List.getElem?_eq_none (by rw [List.length_range]; omega)
        rw [hn0] at hx
        cases hx
    refine ⟨fun i j x y hi hj hxy => ?_, fun k9 x hx => ?_⟩
    · by_cases h1 : i < W1.length <;> by_cases h2 : j < W1.length
      · rw [List.getElem?_append_left h1] at hi
        rw [List.getElem?_append_left h2] at hj
        exact hD1.1 i j x y hi hj hxy
      · rw [List.getElem?_append_left h1] at hi
        rw [List.getElem?_append_right (by omega)] at hj
        have := hle _ _ hi
        have := hr _ _ hj
        omega
      · rw [List.getElem?_append_right (by omega)] at hi
        rw [List.getElem?_append_left h2] at hj
        have := hle _ _ hj
        have := hr _ _ hi
        omega
      · rw [List.getElem?_append_right (by omega)] at hi hj
        have := hr _ _ hi
        have := hr _ _ hj
        omega
    · by_cases h1 : k9 < W1.length
      · rw [List.getElem?_append_left h1] at hx
        exact hD1.2 k9 x hx
      · rw [List.getElem?_append_right (by omega)] at hx
        have := hr _ _ hx
        exact hA _ (by have := hS.1; omega)
  have hAr : ArrOfT s cA (.array ty) := fun N9 z9 => by
    obtain ⟨-, k9, hk9, cm9, hkk9⟩ := (hO 0 0 0).1
    exact ⟨(fun q hq => by cases hq), k9, hk9, cm9, hkk9⟩
  have hK2 : va_K D cl (tys ++ [(cA, .array ty)]) s := ⟨hK.1, fun k9 x hx => by
    by_cases hl : k9 < tys.length
    · rw [List.getElem?_append_left hl] at hx
      exact hK.2 k9 x hx
    · rw [List.getElem?_append_right (by omega)] at hx
      have h0 : k9 - tys.length < 1 := (List.getElem?_eq_some_iff.mp hx).1
      rw [show k9 - tys.length = 0 by omega] at hx
      cases hx
      exact ⟨hAr, fA⟩⟩
  obtain ⟨t, a1, b1⟩ := kk H.size (fun i => H.size + 1 + i) cA F.heap (fun i j _ _ h => by have h9 : H.size + 1 + i = H.size + 1 + j := h; omega) hnl hK2 (by rw [← vr_rows hnm]; exact vr_lay hP2) (by rw [← vr_rows hnm]; exact vr_layD hD2) ⟨by rw [f1]; have := hS.1; omega, fun x h1 h2 => (hold x (Nat.lt_of_lt_of_le h1 hS.1)).trans (hS.2.1 x h1 h2), hS.2.2⟩ F rfl X'
  refine ⟨t, step t ?_, b1⟩
  have e : T.heap.size = H.size := by rw [hT]
  rw [e]
  exact a1
end VGM
/-! ===== END ===== -/

/-! ===== BEGIN exceptions that leave a method, and their catching by the caller (launches without stack traces) ===== -/
section VXA
/-! The laws vx_back, vx_callV, vx_callS, vx_callSW, vx_throw0, vx_throwS follow proofs of the library, with one case more: JvmDerived/Free/Laws.lean (Back.of_free), Shelf42/LK1.lean (callV, callS), Shelf/KitTraced.lean (throwNew0V, throwNewS). -/
/-- where a method has thrown q: the class by its name, the cell, what was written, the world -/
def vx_T (XC : String → State → State → Prop) (st : State) (q : Addr) (t : State) (mc ms : Nat) (free : Addr → Prop) : Prop :=
  ∃ (E : String) (ce : Cell) (L : List Loc), XC E st t ∧ t.heap[q]? = some ce ∧ ce.vm = .none ∧ st.vm.findClass E = some ce.cls ∧ st.WarmedH t.vm ∧ st.sameButNew ({ t with vm := st.vm } : State) L mc ms ∧ ∀ z ∈ L, free z.base
def vx_Q (Qc : Array Value → State → Outcome → State → Prop) (XC : String → State → State → Prop) (mc ms : Nat) (free : Addr → Prop) : Array Value → State → Outcome → State → Prop := fun a st o t =>
  (Qc a st o t ∧ ∃ L, FrameEnd st o t L mc ms ∧ ∀ q ∈ L, free q.base) ∨ ∃ q, o = .threw q ∧ vx_T XC st q t mc ms free
/-- a callee that returns or throws -/
def vx_Met (l : Launch) (y : MethodName) (ws : List Cond) (rm : Room) (Pc : Array Value → State → Prop) (Qc : Array Value → State → Outcome → State → Prop) (XC : String → State → State → Prop) (mc ms : Nat) (free : Addr → Prop) : Prop :=
  MetFree l y (headSpec ws rm) Pc (fun _ _ _ _ _ => True) (vx_Q Qc XC mc ms free)
def vx_Post (XC : String → State → State → Prop) (mc ms : Nat) (free : Addr → Prop) : Pt → Array Value → Addr → Pt → Prop := fun A a q B =>
  ∃ (g : JFrame) (mk : MethodId) (t : State) (L : List Loc) (E : String) (ce : Cell), B.U.heap = t.heap ∧ B.U.vm = t.vm ∧ XC E (A.U.calling g mk a) t ∧ t.heap[q]? = some ce ∧ ce.vm = .none ∧ A.U.vm.findClass E = some ce.cls ∧ B.locs = A.locs ++ L ∧ (∀ z ∈ L, free z.base) ∧ B.cells = A.cells + mc ∧ B.slots = A.slots + ms
def vx_Back (l : Launch) (R : Room) (p : Program) (e : Env) (below : List Frame) (s : State) (sargs : Array Value) (y : MethodName) (len W9 : Nat)
    (Pre : Pt → Array Value → Prop) (Post : Pt → Array Value → Option Value → Pt → Prop) (PostX : Pt → Array Value → Addr → Pt → Prop) : Prop :=
  ∀ (m : MethodId) (meth : Method) (c : Code) (A : Pt) (g : JFrame) (ig : Instr) (mk : MethodId) (a : Array Value),
    Stand p l e R s m sargs below meth c A.U A.locs A.cells A.slots → g.method = m → g.locals.size = c.maxLocals → decode c.code g.pc = .ok (ig, len) →
    2 * g.monitorRoom + (g.stack.map fun v => v.category).sum ≤ W9 → A.U.methodNamed? y = some mk → Pre A a →
    (∃ (v : Option Value) (B : Pt), Stand p l e R s m sargs below meth c B.U B.locs B.cells B.slots ∧ Post A a v B ∧
      Steps p.tables e below (doInvoke e (A.U.setTop g) [] mk a).1 (B.U.setTop { g with pc := g.pc + len, stack := v.toList ++ g.stack })) ∨
    (∃ (q : Addr) (B : Pt), Stand p l e R s m sargs below meth c B.U B.locs B.cells B.slots ∧ PostX A a q B ∧
      Steps p.tables e below (doInvoke e (A.U.setTop g) [] mk a).1 ((B.U.setTop g).pushFrame (.throwing q)))
section Payer
variable {l : Launch} {R : Room} {p : Program} {e : Env} {below : List Frame} {s : State} {sargs : Array Value} {y : MethodName} {len W9 : Nat}
theorem vx_back {ws : List Cond} {rm : Room} {Pc : Array Value → State → Prop} {Qc : Array Value → State → Outcome → State → Prop} {XC : String → State → State → Prop} {mc ms : Nat} {free : Addr → Prop} {bytes : ByteArray} {maxL : Nat} {ret : Option FieldType}
    (hM : vx_Met l y ws rm Pc Qc XC mc ms free) (hblind : FrameBlind Pc) (hrc : rm.cells = mc) (hrs : rm.slots = ms)
    (hframes : rm.frames + 1 ≤ R.frames) (hlocals : W9 + (maxL + 11) + rm.locals ≤ R.locals)
    (hws : ∀ w ∈ ws, ∀ a' U, s.WarmedH U.vm → w.before a' U = true) (hcode : Cond.code y bytes maxL ret ∈ ws) (hinit : ∀ a' U, s.WarmedH U.vm → (Cond.initialized y.cls).before a' U = true) :
    vx_Back l R p e below s sargs y len W9 (PreOf R mc ms Pc) (PostOf Qc mc ms free) (vx_Post XC mc ms free) := by
  intro m meth c A g ig mk a X hg hsize hdg hW hn hp
  have h1 : (headSpec ws rm).pre.before a A.U = true := atoms_intro fun w hw => hws w hw _ _ X.warmed
  have h2 : (Cond.code y bytes maxL ret).before a A.U = true := hws _ hcode _ _ X.warmed
  have h3 : (Cond.initialized y.cls).before a A.U = true := hinit _ _ X.warmed
  have h4 : A.cells + (headSpec ws rm).room.cells ≤ R.cells := by rw [show (headSpec ws rm).room.cells = mc from hrc]; exact hp.1
  have h5 : A.slots + (headSpec ws rm).room.slots ≤ R.slots := by rw [show (headSpec ws rm).room.slots = ms from hrs]; exact hp.2.1
  have hPc : Pc a (A.U.calling g mk a) := hblind _ _ _ _ hp.2.2
  obtain ⟨U, Ls, c0, s0⟩ := A
  dsimp only [Pt.U, Pt.locs, Pt.cells, Pt.slots] at h1 h2 h3 h4 h5 X hn hPc ⊢
  obtain ⟨methY, cY, hmY, hcY, -, hlY, -, -, -, -⟩ := Cond.code_spec hn h2
  obtain ⟨kY, hkY, -⟩ := className_of_methodNamed hn
  have hinitY : kY.init = .initialized := Cond.initialized_spec (findClass_of_methodNamed hn) hkY h3
  have h : At U g.method c below := by rw [hg]; exact X.here
  have hlocals9 : W9 + (maxL + 11) + (headSpec ws rm).room.locals ≤ R.locals := hlocals
  have happ : (headSpec ws rm).appliesLoose y e.platform (U.calling g mk a) = true :=
    Spec.appliesLoose_calling (g := g) h hdg hn hkY hinitY
      (X.room_calling (g := g) (R' := (headSpec ws rm).room) hsize hmY hcY hframes (by rw [hlY]; omega) h4 h5) h1
  obtain ⟨mid, hmid⟩ := h.above
  have hfr : (U.setTop g).frames = (.java g :: mid) ++ below := by rw [State.frames_setTop' g h.top, hmid]; rfl
  obtain ⟨o, s₂, hsteps, -, hend, hq⟩ := Steps.callFree hM p X.admits X.cas X.clock (acts := []) hfr happ hPc trivial
  have hq' : vx_Q Qc XC mc ms free a (U.calling g mk a) o s₂ := hq
  rw [State.frames_setTop' g h.top] at hend
  obtain ⟨g₀, hg0⟩ := Option.isSome_iff_exists.mp h.top
  obtain ⟨r, hr⟩ := State.topJava?_eq_some.mp hg0
  have hr' : (({ U with heap := s₂.heap, slotsUsed := s₂.slotsUsed } : State).setVm s₂.vm).frames = .java g₀ :: r := hr
  rcases hq' with ⟨hqc, L, hfe, hL⟩ | ⟨q, rfl, E, ce, L, hx, hce, hcv, hcl, hW₂, hsm, hL⟩
  · obtain ⟨⟨v, rfl⟩, hW₂, e2, q2, q3, q4, q5, q6⟩ := id hfe
    have e3 : s₂ = ({ (U.calling g mk a).setFrames s₂.frames with heap := s₂.heap, slotsUsed := s₂.slotsUsed } : State).setVm s₂.vm := by
      have : s₂ = ({ s₂ with vm := (U.calling g mk a).vm } : State).setVm s₂.vm := rfl
      rw [e2] at this
      exact this
    obtain ⟨c₂, i₂, len₂, hc₂, hd₂, hf₂⟩ := hend
    have hW' : U.WarmedH s₂.vm := hW₂
    have hcc : c₂ = c := by
      have h1 : s₂.code? g.method = U.code? g.method := by
        rw [State.code?_eq, State.code?_eq, hW'.alike.method?]
      exact Option.some.inj (hc₂.symm.trans (h1.trans h.code))
    subst hcc
    have hlen : len₂ = len := by rw [hdg] at hd₂; cases hd₂; rfl
    subst hlen
    have hs₂ : s₂ = (({ U with heap := s₂.heap, slotsUsed := s₂.slotsUsed } : State).setVm s₂.vm).setTop { g with pc := g.pc + len₂, stack := v.toList ++ g.stack } := by
      refine e3.trans ?_
      rw [hf₂, State.calling_eq h.top, State.setFrames_setFrames, State.setTop_of_frames _ hr', hr]
      rfl
    have hsame : U.sameButNew ({ U with heap := s₂.heap, slotsUsed := s₂.slotsUsed } : State) L mc ms := by
      refine ⟨?_, q2, q3, q4, q5, q6⟩
      obtain ⟨t, ht, -⟩ := State.frames_cons hr
      show ({ U with heap := s₂.heap, slotsUsed := s₂.slotsUsed } : State) = { U.setFrames U.frames with heap := s₂.heap, slotsUsed := s₂.slotsUsed }
      rw [State.setFrames_self ht]
    subst hg
    refine Or.inl ⟨v, ⟨(({ U with heap := s₂.heap, slotsUsed := s₂.slotsUsed } : State).setVm s₂.vm), Ls ++ L, c0 + mc, s0 + ms⟩,
      ⟨X.admits, X.cas, X.clock, X.frames, X.room, X.hears, X.method, X.code, (X.here.setHeapUsed s₂.heap s₂.slotsUsed).setVm hW'.alike, X.tail, State.WarmedH.trans X.warmed hW', X.limits, X.bytes, X.same.trans (hsame.setVm s.vm)⟩,
      ⟨g, mk, s₂, L, rfl, rfl, hqc, rfl, hL, rfl, rfl⟩, ?_⟩
    show Steps p.tables e below _ ((({ U with heap := s₂.heap, slotsUsed := s₂.slotsUsed } : State).setVm s₂.vm).setTop { g with pc := g.pc + len₂, stack := v.toList ++ g.stack })
    rw [← hs₂]
    exact hsteps
  · obtain ⟨e2, q2, q3, q4, q5, q6⟩ := id hsm
    have e3 : s₂ = ({ (U.calling g mk a).setFrames s₂.frames with heap := s₂.heap, slotsUsed := s₂.slotsUsed } : State).setVm s₂.vm := by
      have : s₂ = ({ s₂ with vm := (U.calling g mk a).vm } : State).setVm s₂.vm := rfl
      rw [e2] at this
      exact this
    have hf₂ : s₂.frames = .throwing q :: .java g :: U.frames.tail := hend
    have hW' : U.WarmedH s₂.vm := hW₂
    have hs₂ : s₂ = ((({ U with heap := s₂.heap, slotsUsed := s₂.slotsUsed } : State).setVm s₂.vm).setTop g).pushFrame (.throwing q) := by
      refine e3.trans ?_
      rw [hf₂, State.calling_eq h.top, State.setFrames_setFrames, State.pushFrame, State.frames_setTop _ hr', State.setTop_of_frames _ hr', State.setFrames_setFrames, hr]
      rfl
    have hsame : U.sameButNew ({ U with heap := s₂.heap, slotsUsed := s₂.slotsUsed } : State) L mc ms := by
      refine ⟨?_, q2, q3, q4, q5, q6⟩
      obtain ⟨t, ht, -⟩ := State.frames_cons hr
      show ({ U with heap := s₂.heap, slotsUsed := s₂.slotsUsed } : State) = { U.setFrames U.frames with heap := s₂.heap, slotsUsed := s₂.slotsUsed }
      rw [State.setFrames_self ht]
    subst hg
    refine Or.inr ⟨q, ⟨(({ U with heap := s₂.heap, slotsUsed := s₂.slotsUsed } : State).setVm s₂.vm), Ls ++ L, c0 + mc, s0 + ms⟩,
      ⟨X.admits, X.cas, X.clock, X.frames, X.room, X.hears, X.method, X.code, (X.here.setHeapUsed s₂.heap s₂.slotsUsed).setVm hW'.alike, X.tail, State.WarmedH.trans X.warmed hW', X.limits, X.bytes, X.same.trans (hsame.setVm s.vm)⟩,
      ⟨g, mk, s₂, L, E, ce, rfl, rfl, hx, hce, hcv, hcl, rfl, hL, rfl, rfl⟩, ?_⟩
    show Steps p.tables e below _ (((({ U with heap := s₂.heap, slotsUsed := s₂.slotsUsed } : State).setVm s₂.vm).setTop g).pushFrame (.throwing q))
    rw [← hs₂]
    exact hsteps
end Payer
section Calls
variable {p : Program} {l : Launch} {e : Env} {R : Room} {s : State} {m : MethodId} {args : Array Value} {below : List Frame} {meth : Method} {c : Code} {T : State} {locs : List Loc} {cells slots : Nat}
theorem vx_callV (X : Stand p l e R s m args below meth c T locs cells slots) (hexec : p.tables.exec = Jvm.exec) {own C : String} {index : Nat} {y : MethodName} {bytes : ByteArray} {maxL : Nat} {ret : Option FieldType}
    (hown : s.vm.findClass own = some m.cls) (hlink : (Cond.methodLink own index y).before args s = true) (hinst : (Cond.instanceMethod y).before args s = true) (hsel : (Cond.selects C y y).before args s = true)
    (hcode : (Cond.code y bytes maxL ret).before args s = true) (hy : y.cls ≠ "java/lang/invoke/MethodHandle" ∧ y.cls ≠ "java/lang/invoke/VarHandle")
    {W9 : Nat} {Pre : Pt → Array Value → Prop} {Post : Pt → Array Value → Option Value → Pt → Prop} {PostX : Pt → Array Value → Addr → Pt → Prop} (hK : vx_Back l R p e below s args y 3 W9 Pre Post PostX)
    {b : Addr} {cellB : Cell} (hcell : T.heap[b]? = some cellB) (hobj : cellB.vm.isStatics = false) (hcls : s.vm.findClass C = some cellB.cls)
    {g : JFrame} (hg : g.method = m) (hsize : g.locals.size = c.maxLocals) {argsL rest : List Value} (hlen : ∀ sig, parseMethodDescriptor y.desc = some sig → argsL.length = sig.parameters.length)
    (hstack : g.stack = argsL.reverse ++ .ref b :: rest) (hW : 2 * g.monitorRoom + (rest.map fun v => v.category).sum ≤ W9) (hdg : decode c.code g.pc = .ok (.invokevirtual index, 3))
    (hpre : ∀ vm₁, s.WarmedH vm₁ → Pre ⟨T.setVm vm₁, locs, cells, slots⟩ (Value.ref b :: argsL).toArray) :
    (∃ (v : Option Value) (vm₁ : Vm) (B : Pt), s.WarmedH vm₁ ∧ Stand p l e R s m args below meth c B.U B.locs B.cells B.slots ∧ Post ⟨T.setVm vm₁, locs, cells, slots⟩ (Value.ref b :: argsL).toArray v B ∧
      ∀ target, Steps p.tables e below (B.U.setTop { g with pc := g.pc + 3, stack := v.toList ++ rest }) target → Steps p.tables e below (T.setTop g) target) ∨
    (∃ (q : Addr) (vm₁ : Vm) (B : Pt), s.WarmedH vm₁ ∧ Stand p l e R s m args below meth c B.U B.locs B.cells B.slots ∧ PostX ⟨T.setVm vm₁, locs, cells, slots⟩ (Value.ref b :: argsL).toArray q B ∧
      Steps p.tables e below (T.setTop g) ((B.U.setTop { g with stack := rest }).pushFrame (.throwing q))) := by
  obtain ⟨mk, methM, hnamed, hmethM, hstM, habM⟩ := Cond.instanceMethod_spec hinst
  obtain ⟨methM', cM, hmethM', -, -, -, -, -, -, hsigM⟩ := Cond.code_spec hnamed hcode
  cases hmethM.symm.trans hmethM'
  obtain ⟨c2, r2, m2, q1, q2, q3, q4, kP, hkP, hkPi⟩ := Cond.selects_spec hsel
  cases hcls.symm.trans q1
  cases (State.methodFound?_of_named hnamed hy).symm.trans q2
  cases hnamed.symm.trans q3
  have hselP : selectMethod e.platform s.vm cellB.cls mk = .method mk := by rw [Launch.admits_selectMethod X.admits]; exact q4
  obtain ⟨vm₁, X₁, hstep₁⟩ := X.invokevirtual hexec hown hlink hnamed hmethM hstM hkP hkPi hy (a := b) (cell := cellB) hcell
    (fun z h => by rw [h] at hobj; cases hobj) hselP hmethM habM hkP hkPi (g := g) hg (argsL := argsL) (rest := rest) (hlen _ hsigM) hstack hdg
  rcases hK m meth c ⟨T.setVm vm₁, locs, cells, slots⟩ { g with stack := rest } (.invokevirtual index) mk (Value.ref b :: argsL).toArray X₁ hg hsize hdg hW (X₁.named hnamed) (hpre vm₁ X₁.warmed) with ⟨v, B, X', hpost, hsteps⟩ | ⟨q, B, X', hpost, hsteps⟩
  · exact Or.inl ⟨v, vm₁, B, X₁.warmed, X', hpost, fun target h => hstep₁ _ fun acts => by rw [doInvoke_state]; exact hsteps.trans h⟩
  · exact Or.inr ⟨q, vm₁, B, X₁.warmed, X', hpost, hstep₁ _ fun acts => by rw [doInvoke_state]; exact hsteps⟩
theorem vx_callS (X : Stand p l e R s m args below meth c T locs cells slots) (hexec : p.tables.exec = Jvm.exec) {own : String} {index : Nat} {y : MethodName} {bytes : ByteArray} {maxL : Nat} {ret : Option FieldType}
    (hown : s.vm.findClass own = some m.cls) (hlink : (Cond.methodLink own index y).before args s = true) (hstat : (Cond.static y).before args s = true) (hinit : (Cond.initialized y.cls).before args s = true)
    (hcode : (Cond.code y bytes maxL ret).before args s = true) (hy : y.cls ≠ "java/lang/invoke/MethodHandle" ∧ y.cls ≠ "java/lang/invoke/VarHandle")
    {W9 : Nat} {Pre : Pt → Array Value → Prop} {Post : Pt → Array Value → Option Value → Pt → Prop} {PostX : Pt → Array Value → Addr → Pt → Prop} (hK : vx_Back l R p e below s args y 3 W9 Pre Post PostX)
    {g : JFrame} (hg : g.method = m) (hsize : g.locals.size = c.maxLocals) {argsL rest : List Value} (hlen : ∀ sig, parseMethodDescriptor y.desc = some sig → argsL.length = sig.parameters.length)
    (hstack : g.stack = argsL.reverse ++ rest) (hW : 2 * g.monitorRoom + (rest.map fun v => v.category).sum ≤ W9) (hdg : decode c.code g.pc = .ok (.invokestatic index, 3))
    (hpre : ∀ vm₁, s.WarmedH vm₁ → Pre ⟨T.setVm vm₁, locs, cells, slots⟩ argsL.toArray) :
    (∃ (v : Option Value) (vm₁ : Vm) (B : Pt), s.WarmedH vm₁ ∧ Stand p l e R s m args below meth c B.U B.locs B.cells B.slots ∧ Post ⟨T.setVm vm₁, locs, cells, slots⟩ argsL.toArray v B ∧
      ∀ target, Steps p.tables e below (B.U.setTop { g with pc := g.pc + 3, stack := v.toList ++ rest }) target → Steps p.tables e below (T.setTop g) target) ∨
    (∃ (q : Addr) (vm₁ : Vm) (B : Pt), s.WarmedH vm₁ ∧ Stand p l e R s m args below meth c B.U B.locs B.cells B.slots ∧ PostX ⟨T.setVm vm₁, locs, cells, slots⟩ argsL.toArray q B ∧
      Steps p.tables e below (T.setTop g) ((B.U.setTop { g with stack := rest }).pushFrame (.throwing q))) := by
  obtain ⟨mk, hnamed⟩ := Cond.code_named hcode
  obtain ⟨methM, cM, hmethM, -, -, -, -, -, -, hsigM⟩ := Cond.code_spec hnamed hcode
  have hstatic : methM.isStatic = true := Cond.static_spec hnamed hmethM hstat
  obtain ⟨kP, hkP, -⟩ := className_of_methodNamed hnamed
  have hinitP : kP.init = .initialized := Cond.initialized_spec (findClass_of_methodNamed hnamed) hkP hinit
  obtain ⟨vm₁, X₁, hstep₁⟩ := X.invokestatic hexec hown hlink hnamed hmethM hstatic hkP hinitP hy (g := g) hg (argsL := argsL) (rest := rest) (hlen _ hsigM) hstack hdg
  rcases hK m meth c ⟨T.setVm vm₁, locs, cells, slots⟩ { g with stack := rest } (.invokestatic index) mk argsL.toArray X₁ hg hsize hdg hW (X₁.named hnamed) (hpre vm₁ X₁.warmed) with ⟨v, B, X', hpost, hsteps⟩ | ⟨q, B, X', hpost, hsteps⟩
  · exact Or.inl ⟨v, vm₁, B, X₁.warmed, X', hpost, fun target h => hstep₁ _ fun acts => by rw [doInvoke_state]; exact hsteps.trans h⟩
  · exact Or.inr ⟨q, vm₁, B, X₁.warmed, X', hpost, hstep₁ _ fun acts => by rw [doInvoke_state]; exact hsteps⟩
end Calls
theorem vx_cls {s : State} {T : State} {vm₁ : Vm} {E : String} {k : ClassId} (hW : s.WarmedH vm₁) (h : (T.setVm vm₁).vm.findClass E = some k) : s.vm.findClass E = some k := by
  have h1 : vm₁.findClass E = some k := h
  rw [hW.alike.findClass] at h1
  exact h1
/-- the method's frame g, with q thrown over it -/
def vx_W (p : Program) (l : Launch) (e : Env) (R : Room) (s : State) (m : MethodId) (args : Array Value) (below : List Frame) (meth : Method) (c : Code) (H : Heap) (locs : List Loc) (cells slots : Nat) (Q : State → Prop) (g : JFrame) (q : Addr) : Prop :=
  ∀ T : State, T.heap = H → Stand p l e R s m args below meth c T locs cells slots → ∃ t, Steps p.tables e below ((T.setTop g).pushFrame (.throwing q)) t ∧ Q t
def vx_Run (p : Program) (l : Launch) (e : Env) (R : Room) (s : State) (m : MethodId) (args : Array Value) (below : List Frame) (meth : Method) (c : Code) (H : Heap) (locs : List Loc) (cells slots mc ms : Nat) (g : JFrame) (rest : List Value) (Qa : State → Outcome → State → Prop) (XC : String → State → State → Prop) (free : Addr → Prop) : Prop :=
  ∀ T : State, T.heap = H → Stand p l e R s m args below meth c T locs cells slots →
    (∃ (v : Option Value) (st₀ t T' : State) (L : List Loc), st₀.heap = H ∧ Stand p l e R s m args below meth c T' (locs ++ L) (cells + mc) (slots + ms) ∧ (∀ q ∈ L, free q.base) ∧ T'.heap = t.heap ∧ T'.vm = t.vm ∧ Qa st₀ (.returned v) t ∧
      Goes p e below T g T' { g with pc := g.pc + 3, stack := v.toList ++ rest }) ∨
    (∃ (q : Addr) (st₀ t T' : State) (L : List Loc) (E : String) (ce : Cell), st₀.heap = H ∧ Stand p l e R s m args below meth c T' (locs ++ L) (cells + mc) (slots + ms) ∧ (∀ z ∈ L, free z.base) ∧ T'.heap = t.heap ∧ T'.vm = t.vm ∧ XC E st₀ t ∧ t.heap[q]? = some ce ∧ ce.vm = .none ∧ s.vm.findClass E = some ce.cls ∧
      Steps p.tables e below (T.setTop g) ((T'.setTop { g with stack := rest }).pushFrame (.throwing q)))
def vx_X {S : Type} (px : S → Prop) (B : String → S → State → Prop) (A : Nat → Prop) : String → State → State → Prop := fun E st t => ∃ u : S, px u ∧ B E u t ∧ va_F A st t
section Runs
variable {p : Program} {l : Launch} {e : Env} {R : Room} {s : State} {m : MethodId} {args : Array Value} {below : List Frame} {meth : Method} {c : Code} {H : Heap} {locs : List Loc} {cells slots : Nat}
variable {y : MethodName} {bytes cc : ByteArray} {maxL nL mc ms n index : Nat} {ret : Option FieldType} {ws : List Cond} {rm : Room} {Pc : Array Value → State → Prop} {Qc : Array Value → State → Outcome → State → Prop} {XC : String → State → State → Prop} {free : Addr → Prop} {Ts : List Cond} {own C : String} {b : Addr} {As rest : List Value} {g : JFrame}
theorem vx_callBack (cb : CallB R s args own index y bytes maxL ret ws rm mc ms n) (hM : vx_Met l y ws rm Pc Qc XC mc ms free) (hbl : FrameBlind Pc) : vx_Back l R p e below s args y 3 8 (PreOf R mc ms Pc) (PostOf Qc mc ms free) (vx_Post XC mc ms free) := by
  obtain ⟨hrc, hrs, hfr, hlo, hws, hcw, -, hini, -⟩ := cb
  exact vx_back (bytes := bytes) (maxL := maxL) (ret := ret) hM hbl hrc hrs hfr hlo hws hcw (fun a' U hW => word_at hW (Or.inl (by first | rfl | simp [Cond.onTables, Cond.keeps, Cond.steady])) hini)
theorem vx_runV (S : CallFix p m c cc nL s args Ts own) (hM : vx_Met l y ws rm Pc Qc XC mc ms free) (cw : CallW R s args own C index y bytes maxL ret ws rm mc ms n) (hp : PreV s H C b Pc As)
    (hg : g.method = m) (hn : As.length = n) (hsize : g.locals.size = nL) (hstack : g.stack = As.reverse ++ .ref b :: rest) (hW : 2 * g.monitorRoom + (rest.map fun v => v.category).sum ≤ 8) (hdg : decode cc g.pc = .ok (.invokevirtual index, 3)) (hf : cells + mc ≤ R.cells ∧ slots + ms ≤ R.slots) :
    vx_Run p l e R s m args below meth c H locs cells slots mc ms g rest (Qc (Value.ref b :: As).toArray) XC free := by
  have hK : vx_Back l R p e below s args y 3 8 (PreOf R mc ms Pc) (PostOf Qc mc ms free) (vx_Post XC mc ms free) := vx_callBack cw.1 hM hp.1
  obtain ⟨⟨-, -, -, -, -, -, hcode, -, hy, hlen, hl⟩, hin, hse⟩ := cw
  obtain ⟨hx, hb, hml, ho, -⟩ := S
  obtain ⟨-, ⟨cellB, hcB, hoB, hclB⟩, hPc⟩ := hp
  intro T hT X
  rcases vx_callV X hx (C := C) (bytes := bytes) (maxL := maxL) (ret := ret) ho hl hin hse hcode hy hK (by rw [hT]; exact hcB) hoB hclB hg (hsize.trans hml.symm) (argsL := As) (rest := rest) (fun sig h => hn.trans (hlen sig h)) hstack hW (by rw [hb]; exact hdg)
    (fun vm₁ hW₁ => ⟨hf.1, hf.2, hPc (T.setVm vm₁) hT hW₁⟩) with ⟨v, vm₁, ⟨U', l2, c2, s2⟩, hW₁, X', ⟨g', mk, t, L, e1, e2, hq, h1, hL, h2, h3⟩, st⟩ | ⟨q, vm₁, ⟨U', l2, c2, s2⟩, hW₁, X', ⟨g', mk, t, L, E, ce, e1, e2, hq, hce, hcv, hcl, h1, hL, h2, h3⟩, st⟩
  · dsimp only [Pt.U, Pt.locs, Pt.cells, Pt.slots] at X' e1 e2 h1 h2 h3 st
    subst h1; subst h2; subst h3
    exact Or.inl ⟨v, (T.setVm vm₁).calling g' mk (Value.ref b :: As).toArray, t, U', L, hT, X', hL, e1, e2, hq, st⟩
  · dsimp only [Pt.U, Pt.locs, Pt.cells, Pt.slots] at X' e1 e2 h1 h2 h3 st hcl
    subst h1; subst h2; subst h3
    exact Or.inr ⟨q, (T.setVm vm₁).calling g' mk (Value.ref b :: As).toArray, t, U', L, E, ce, hT, X', hL, e1, e2, hq, hce, hcv, vx_cls hW₁ hcl, st⟩
theorem vx_runS (S : CallFix p m c cc nL s args Ts own) (hM : vx_Met l y ws rm Pc Qc XC mc ms free) (cw : CallB R s args own index y bytes maxL ret ws rm mc ms n ∧ (Cond.static y).before args s = true) (hp : PreS s H Pc As)
    (hg : g.method = m) (hn : As.length = n) (hsize : g.locals.size = nL) (hstack : g.stack = As.reverse ++ rest) (hW : 2 * g.monitorRoom + (rest.map fun v => v.category).sum ≤ 8) (hdg : decode cc g.pc = .ok (.invokestatic index, 3)) (hf : cells + mc ≤ R.cells ∧ slots + ms ≤ R.slots) :
    vx_Run p l e R s m args below meth c H locs cells slots mc ms g rest (Qc As.toArray) XC free := by
  have hK : vx_Back l R p e below s args y 3 8 (PreOf R mc ms Pc) (PostOf Qc mc ms free) (vx_Post XC mc ms free) := vx_callBack cw.1 hM hp.1
  obtain ⟨⟨-, -, -, -, -, -, hcode, hini, hy, hlen, hl⟩, hstt⟩ := cw
  obtain ⟨hx, hb, hml, ho, -⟩ := S
  intro T hT X
  rcases vx_callS X hx (bytes := bytes) (maxL := maxL) (ret := ret) ho hl hstt hini hcode hy hK hg (hsize.trans hml.symm) (argsL := As) (rest := rest) (fun sig h => hn.trans (hlen sig h)) hstack hW (by rw [hb]; exact hdg)
    (fun vm₁ hW₁ => ⟨hf.1, hf.2, hp.2 (T.setVm vm₁) hT hW₁⟩) with ⟨v, vm₁, ⟨U', l2, c2, s2⟩, hW₁, X', ⟨g', mk, t, L, e1, e2, hq, h1, hL, h2, h3⟩, st⟩ | ⟨q, vm₁, ⟨U', l2, c2, s2⟩, hW₁, X', ⟨g', mk, t, L, E, ce, e1, e2, hq, hce, hcv, hcl, h1, hL, h2, h3⟩, st⟩
  · dsimp only [Pt.U, Pt.locs, Pt.cells, Pt.slots] at X' e1 e2 h1 h2 h3 st
    subst h1; subst h2; subst h3
    exact Or.inl ⟨v, (T.setVm vm₁).calling g' mk As.toArray, t, U', L, hT, X', hL, e1, e2, hq, st⟩
  · dsimp only [Pt.U, Pt.locs, Pt.cells, Pt.slots] at X' e1 e2 h1 h2 h3 st hcl
    subst h1; subst h2; subst h3
    exact Or.inr ⟨q, (T.setVm vm₁).calling g' mk As.toArray, t, U', L, E, ce, hT, X', hL, e1, e2, hq, hce, hcv, vx_cls hW₁ hcl, st⟩
end Runs
section Rows
variable {p : Program} {l : Launch} {e : Env} {R : Room} {s : State} {m : MethodId} {args : Array Value} {below : List Frame} {meth : Method} {c : Code} {H : Heap} {locs : List Loc} {cells slots : Nat} {Q : State → Prop}
variable {mc ms : Nat} {free : Addr → Prop} {A0 A1 : Nat → Prop} {H0 : Heap} {a : Array Value} {pc : Nat} {ls : Array Slot} {st0 rest : List Value}
theorem vx_keep {st₀ t T' : State} {L : List Loc} (h0 : st₀.heap = H) (e1 : T'.heap = t.heap) (hS : va_S A0 H0 H locs) (hA : ∀ q, q < H.size → A1 q → A0 q) (hf : ∀ q, free q → A0 q) (hL : ∀ q ∈ L, free q.base) (hF : va_F A1 st₀ t) :
    H.size ≤ T'.heap.size ∧ (∀ q : Nat, q < H.size → ¬ A1 q → T'.heap[q]? = H[q]?) ∧ va_S A0 H0 T'.heap (locs ++ L) := by
  obtain ⟨hz, hk⟩ := hF
  rw [h0] at hz hk
  exact ⟨by rw [e1]; exact hz, fun q h1 h2 => by rw [e1]; exact hk q h1 h2,
    ⟨Nat.le_trans hS.1 (by rw [e1]; exact hz), fun q h1 h2 => by rw [e1, hk q (Nat.lt_of_lt_of_le h1 hS.1) (fun z => h2 (hA q (Nat.lt_of_lt_of_le h1 hS.1) z))]; exact hS.2.1 q h1 h2, fun q hq => by
      rcases List.mem_append.mp hq with h | h
      · exact hS.2.2 q h
      · exact hf _ (hL q h)⟩⟩
theorem vx_calli {S SX : Type} {post : Int32 → S → Prop} {px : SX → Prop} {B : S → State → Prop} {BX : String → SX → State → Prop} {AX : Nat → Prop} (hr : vx_Run p l e R s m args below meth c H locs cells slots mc ms (F0 m pc ls st0) rest (va_Qi post B A1 a) (vx_X px BX AX) free) (hS : va_S A0 H0 H locs) (hA : ∀ q, q < H.size → A1 q → A0 q) (hf : ∀ q, free q → A0 q) (hAX : ∀ q, q < H.size → AX q → A0 q)
    (kx : ∀ (E : String) (ce : Cell) (q9 : Addr) (u : SX) (t : State) (H1 : Heap) (locs1 : List Loc), t.heap = H1 → s.vm.Alike t.vm → px u → BX E u t → H.size ≤ H1.size → (∀ q : Nat, q < H.size → ¬ AX q → H1[q]? = H[q]?) → va_S A0 H0 H1 locs1 → H1[q9]? = some ce → ce.vm = .none → s.vm.findClass E = some ce.cls → vx_W p l e R s m args below meth c H1 locs1 (cells + mc) (slots + ms) Q (F0 m pc ls rest) q9)
    (kk : ∀ (r : Int32) (u : S) (t : State) (H1 : Heap) (locs1 : List Loc), t.heap = H1 → s.vm.Alike t.vm → post r u → B u t → H.size ≤ H1.size → (∀ q : Nat, q < H.size → ¬ A1 q → H1[q]? = H[q]?) → va_S A0 H0 H1 locs1 → W p l e R s m args below meth c H1 locs1 (cells + mc) (slots + ms) Q (F0 m (pc + 3) ls (.int r :: rest))) : W p l e R s m args below meth c H locs cells slots Q (F0 m pc ls st0) := by
  intro T hT X
  rcases hr T hT X with ⟨v, st₀, t, T', L, h0, X', hL, e1, e2, ⟨⟨r, u, hv, hp, hb⟩, hF⟩, st⟩ | ⟨q, st₀, t, T', L, E, ce, h0, X', hL, e1, e2, ⟨u, hp, hb, hF⟩, hce, hcv, hcl, st⟩
  · cases hv
    obtain ⟨k1, k2, k3⟩ := vx_keep h0 e1 hS hA hf hL hF
    obtain ⟨t2, a1, b1⟩ := kk r u t T'.heap (locs ++ L) e1.symm (by rw [← e2]; exact X'.warmed.alike) hp hb k1 k2 k3 T' rfl X'
    exact ⟨t2, st t2 a1, b1⟩
  · obtain ⟨k1, k2, k3⟩ := vx_keep h0 e1 hS hAX hf hL hF
    obtain ⟨t2, a1, b1⟩ := kx E ce q u t T'.heap (locs ++ L) e1.symm (by rw [← e2]; exact X'.warmed.alike) hp hb k1 k2 k3 (by rw [e1]; exact hce) hcv hcl T' rfl X'
    exact ⟨t2, st.trans a1, b1⟩
theorem vx_calll {S SX : Type} {post : Int64 → S → Prop} {px : SX → Prop} {B : S → State → Prop} {BX : String → SX → State → Prop} {AX : Nat → Prop} (hr : vx_Run p l e R s m args below meth c H locs cells slots mc ms (F0 m pc ls st0) rest (va_Ql post B A1 a) (vx_X px BX AX) free) (hS : va_S A0 H0 H locs) (hA : ∀ q, q < H.size → A1 q → A0 q) (hf : ∀ q, free q → A0 q) (hAX : ∀ q, q < H.size → AX q → A0 q)
    (kx : ∀ (E : String) (ce : Cell) (q9 : Addr) (u : SX) (t : State) (H1 : Heap) (locs1 : List Loc), t.heap = H1 → s.vm.Alike t.vm → px u → BX E u t → H.size ≤ H1.size → (∀ q : Nat, q < H.size → ¬ AX q → H1[q]? = H[q]?) → va_S A0 H0 H1 locs1 → H1[q9]? = some ce → ce.vm = .none → s.vm.findClass E = some ce.cls → vx_W p l e R s m args below meth c H1 locs1 (cells + mc) (slots + ms) Q (F0 m pc ls rest) q9)
    (kk : ∀ (r : Int64) (u : S) (t : State) (H1 : Heap) (locs1 : List Loc), t.heap = H1 → s.vm.Alike t.vm → post r u → B u t → H.size ≤ H1.size → (∀ q : Nat, q < H.size → ¬ A1 q → H1[q]? = H[q]?) → va_S A0 H0 H1 locs1 → W p l e R s m args below meth c H1 locs1 (cells + mc) (slots + ms) Q (F0 m (pc + 3) ls (.long r :: rest))) : W p l e R s m args below meth c H locs cells slots Q (F0 m pc ls st0) := by
  intro T hT X
  rcases hr T hT X with ⟨v, st₀, t, T', L, h0, X', hL, e1, e2, ⟨⟨r, u, hv, hp, hb⟩, hF⟩, st⟩ | ⟨q, st₀, t, T', L, E, ce, h0, X', hL, e1, e2, ⟨u, hp, hb, hF⟩, hce, hcv, hcl, st⟩
  · cases hv
    obtain ⟨k1, k2, k3⟩ := vx_keep h0 e1 hS hA hf hL hF
    obtain ⟨t2, a1, b1⟩ := kk r u t T'.heap (locs ++ L) e1.symm (by rw [← e2]; exact X'.warmed.alike) hp hb k1 k2 k3 T' rfl X'
    exact ⟨t2, st t2 a1, b1⟩
  · obtain ⟨k1, k2, k3⟩ := vx_keep h0 e1 hS hAX hf hL hF
    obtain ⟨t2, a1, b1⟩ := kx E ce q u t T'.heap (locs ++ L) e1.symm (by rw [← e2]; exact X'.warmed.alike) hp hb k1 k2 k3 (by rw [e1]; exact hce) hcv hcl T' rfl X'
    exact ⟨t2, st.trans a1, b1⟩
theorem vx_callf {S SX : Type} {post : UInt32 → S → Prop} {px : SX → Prop} {B : S → State → Prop} {BX : String → SX → State → Prop} {AX : Nat → Prop} (hr : vx_Run p l e R s m args below meth c H locs cells slots mc ms (F0 m pc ls st0) rest (va_Qf post B A1 a) (vx_X px BX AX) free) (hS : va_S A0 H0 H locs) (hA : ∀ q, q < H.size → A1 q → A0 q) (hf : ∀ q, free q → A0 q) (hAX : ∀ q, q < H.size → AX q → A0 q)
    (kx : ∀ (E : String) (ce : Cell) (q9 : Addr) (u : SX) (t : State) (H1 : Heap) (locs1 : List Loc), t.heap = H1 → s.vm.Alike t.vm → px u → BX E u t → H.size ≤ H1.size → (∀ q : Nat, q < H.size → ¬ AX q → H1[q]? = H[q]?) → va_S A0 H0 H1 locs1 → H1[q9]? = some ce → ce.vm = .none → s.vm.findClass E = some ce.cls → vx_W p l e R s m args below meth c H1 locs1 (cells + mc) (slots + ms) Q (F0 m pc ls rest) q9)
    (kk : ∀ (r : UInt32) (u : S) (t : State) (H1 : Heap) (locs1 : List Loc), t.heap = H1 → s.vm.Alike t.vm → post r u → B u t → H.size ≤ H1.size → (∀ q : Nat, q < H.size → ¬ A1 q → H1[q]? = H[q]?) → va_S A0 H0 H1 locs1 → W p l e R s m args below meth c H1 locs1 (cells + mc) (slots + ms) Q (F0 m (pc + 3) ls (.float r :: rest))) : W p l e R s m args below meth c H locs cells slots Q (F0 m pc ls st0) := by
  intro T hT X
  rcases hr T hT X with ⟨v, st₀, t, T', L, h0, X', hL, e1, e2, ⟨⟨r, u, hv, hp, hb⟩, hF⟩, st⟩ | ⟨q, st₀, t, T', L, E, ce, h0, X', hL, e1, e2, ⟨u, hp, hb, hF⟩, hce, hcv, hcl, st⟩
  · cases hv
    obtain ⟨k1, k2, k3⟩ := vx_keep h0 e1 hS hA hf hL hF
    obtain ⟨t2, a1, b1⟩ := kk r u t T'.heap (locs ++ L) e1.symm (by rw [← e2]; exact X'.warmed.alike) hp hb k1 k2 k3 T' rfl X'
    exact ⟨t2, st t2 a1, b1⟩
  · obtain ⟨k1, k2, k3⟩ := vx_keep h0 e1 hS hAX hf hL hF
    obtain ⟨t2, a1, b1⟩ := kx E ce q u t T'.heap (locs ++ L) e1.symm (by rw [← e2]; exact X'.warmed.alike) hp hb k1 k2 k3 (by rw [e1]; exact hce) hcv hcl T' rfl X'
    exact ⟨t2, st.trans a1, b1⟩
theorem vx_calld {S SX : Type} {post : UInt64 → S → Prop} {px : SX → Prop} {B : S → State → Prop} {BX : String → SX → State → Prop} {AX : Nat → Prop} (hr : vx_Run p l e R s m args below meth c H locs cells slots mc ms (F0 m pc ls st0) rest (va_Qd post B A1 a) (vx_X px BX AX) free) (hS : va_S A0 H0 H locs) (hA : ∀ q, q < H.size → A1 q → A0 q) (hf : ∀ q, free q → A0 q) (hAX : ∀ q, q < H.size → AX q → A0 q)
    (kx : ∀ (E : String) (ce : Cell) (q9 : Addr) (u : SX) (t : State) (H1 : Heap) (locs1 : List Loc), t.heap = H1 → s.vm.Alike t.vm → px u → BX E u t → H.size ≤ H1.size → (∀ q : Nat, q < H.size → ¬ AX q → H1[q]? = H[q]?) → va_S A0 H0 H1 locs1 → H1[q9]? = some ce → ce.vm = .none → s.vm.findClass E = some ce.cls → vx_W p l e R s m args below meth c H1 locs1 (cells + mc) (slots + ms) Q (F0 m pc ls rest) q9)
    (kk : ∀ (r : UInt64) (u : S) (t : State) (H1 : Heap) (locs1 : List Loc), t.heap = H1 → s.vm.Alike t.vm → post r u → B u t → H.size ≤ H1.size → (∀ q : Nat, q < H.size → ¬ A1 q → H1[q]? = H[q]?) → va_S A0 H0 H1 locs1 → W p l e R s m args below meth c H1 locs1 (cells + mc) (slots + ms) Q (F0 m (pc + 3) ls (.double r :: rest))) : W p l e R s m args below meth c H locs cells slots Q (F0 m pc ls st0) := by
  intro T hT X
  rcases hr T hT X with ⟨v, st₀, t, T', L, h0, X', hL, e1, e2, ⟨⟨r, u, hv, hp, hb⟩, hF⟩, st⟩ | ⟨q, st₀, t, T', L, E, ce, h0, X', hL, e1, e2, ⟨u, hp, hb, hF⟩, hce, hcv, hcl, st⟩
  · cases hv
    obtain ⟨k1, k2, k3⟩ := vx_keep h0 e1 hS hA hf hL hF
    obtain ⟨t2, a1, b1⟩ := kk r u t T'.heap (locs ++ L) e1.symm (by rw [← e2]; exact X'.warmed.alike) hp hb k1 k2 k3 T' rfl X'
    exact ⟨t2, st t2 a1, b1⟩
  · obtain ⟨k1, k2, k3⟩ := vx_keep h0 e1 hS hAX hf hL hF
    obtain ⟨t2, a1, b1⟩ := kx E ce q u t T'.heap (locs ++ L) e1.symm (by rw [← e2]; exact X'.warmed.alike) hp hb k1 k2 k3 (by rw [e1]; exact hce) hcv hcl T' rfl X'
    exact ⟨t2, st.trans a1, b1⟩
theorem vx_callv {S SX : Type} {post : S → Prop} {px : SX → Prop} {B : S → State → Prop} {BX : String → SX → State → Prop} {AX : Nat → Prop} (hr : vx_Run p l e R s m args below meth c H locs cells slots mc ms (F0 m pc ls st0) rest (va_Qv post B A1 a) (vx_X px BX AX) free) (hS : va_S A0 H0 H locs) (hA : ∀ q, q < H.size → A1 q → A0 q) (hf : ∀ q, free q → A0 q) (hAX : ∀ q, q < H.size → AX q → A0 q)
    (kx : ∀ (E : String) (ce : Cell) (q9 : Addr) (u : SX) (t : State) (H1 : Heap) (locs1 : List Loc), t.heap = H1 → s.vm.Alike t.vm → px u → BX E u t → H.size ≤ H1.size → (∀ q : Nat, q < H.size → ¬ AX q → H1[q]? = H[q]?) → va_S A0 H0 H1 locs1 → H1[q9]? = some ce → ce.vm = .none → s.vm.findClass E = some ce.cls → vx_W p l e R s m args below meth c H1 locs1 (cells + mc) (slots + ms) Q (F0 m pc ls rest) q9)
    (kk : ∀ (u : S) (t : State) (H1 : Heap) (locs1 : List Loc), t.heap = H1 → s.vm.Alike t.vm → post u → B u t → H.size ≤ H1.size → (∀ q : Nat, q < H.size → ¬ A1 q → H1[q]? = H[q]?) → va_S A0 H0 H1 locs1 → W p l e R s m args below meth c H1 locs1 (cells + mc) (slots + ms) Q (F0 m (pc + 3) ls (rest))) : W p l e R s m args below meth c H locs cells slots Q (F0 m pc ls st0) := by
  intro T hT X
  rcases hr T hT X with ⟨v, st₀, t, T', L, h0, X', hL, e1, e2, ⟨⟨u, hv, hp, hb⟩, hF⟩, st⟩ | ⟨q, st₀, t, T', L, E, ce, h0, X', hL, e1, e2, ⟨u, hp, hb, hF⟩, hce, hcv, hcl, st⟩
  · cases hv
    obtain ⟨k1, k2, k3⟩ := vx_keep h0 e1 hS hA hf hL hF
    obtain ⟨t2, a1, b1⟩ := kk u t T'.heap (locs ++ L) e1.symm (by rw [← e2]; exact X'.warmed.alike) hp hb k1 k2 k3 T' rfl X'
    exact ⟨t2, st t2 a1, b1⟩
  · obtain ⟨k1, k2, k3⟩ := vx_keep h0 e1 hS hAX hf hL hF
    obtain ⟨t2, a1, b1⟩ := kx E ce q u t T'.heap (locs ++ L) e1.symm (by rw [← e2]; exact X'.warmed.alike) hp hb k1 k2 k3 (by rw [e1]; exact hce) hcv hcl T' rfl X'
    exact ⟨t2, st.trans a1, b1⟩
/-- caught by the row x of this method's table; the rows ahead don't take it -/
theorem vx_catch {own name : String} {E : String} {ce : Cell} {q : Addr} (hown : s.vm.findClass own = some m.cls) (pre : List ExceptionTableEntry) (x : ExceptionTableEntry) (suf : List ExceptionTableEntry) (hsplit : c.exceptionTable.toList = pre ++ x :: suf)
    (hpass : ∀ z ∈ pre, covers z pc = false ∨ (z.catchType ≠ 0 ∧ ∃ nm : String, (Cond.classLink own z.catchType nm).before args s = true ∧ va_Nc E nm s)) (hx : covers x pc = true) (h0 : x.catchType ≠ 0)
    (hlink : (Cond.classLink own x.catchType name).before args s = true) (hcast : (Cond.castable E name).before args s = true) (hcell : H[q]? = some ce) (hv : ce.vm = .none) (hcl : s.vm.findClass E = some ce.cls)
    (kk : W p l e R s m args below meth c H locs cells slots Q (F0 m x.handlerPc ls [.ref q])) : vx_W p l e R s m args below meth c H locs cells slots Q (F0 m pc ls rest) q := by
  intro T hT X
  have hpl : e.platform.magicAccessors = ({} : Platform).magicAccessors := by rw [X.admits.platform]
  obtain ⟨c3, c4, hc3, hc4, hasg⟩ := Cond.castable_spec hcast
  cases Option.some.inj (hc3.symm.trans hcl)
  obtain ⟨c5, hc5, hcl5⟩ := Cond.classLink_spec hown hlink e.platform hpl
  cases Option.some.inj (hc4.symm.trans hc5)
  obtain ⟨vm', X', st⟩ := X.thenCaughtThrough q (g := F0 m pc ls rest) rfl (Steps.refl _) (by rw [hT]; exact hcell) (by rw [hv]; rfl) (by obtain ⟨k9, h9, -⟩ := Vm.findClass_spec hcl; exact ⟨k9, h9⟩) pre x suf hsplit
    (fun z hz => by
      rcases hpass z hz with h | ⟨hz0, nm, hl1, hn1⟩
      · exact Or.inl h
      · obtain ⟨c6, hc6, hcl6⟩ := Cond.classLink_spec hown hl1 e.platform hpl
        obtain ⟨a8, b8, h1, h2, h3⟩ := hn1
        cases Option.some.inj (h1.symm.trans hcl)
        cases Option.some.inj (h2.symm.trans hc6)
        exact Or.inr ⟨hz0, _, hcl6, h3⟩) hx (Or.inr ⟨h0, c4, hcl5, hasg⟩)
  obtain ⟨t, a1, b1⟩ := kk (T.setVm vm') hT X'
  exact ⟨t, st.trans a1, b1⟩
end Rows
section Ends
variable {p : Program} {l : Launch} {e : Env} {R : Room} {s : State} {m : MethodId} {args : Array Value} {below : List Frame} {meth : Method} {c : Code} {H : Heap} {locs : List Loc} {cells slots : Nat} {Q : State → Prop}
variable {mc ms : Nat} {free : Addr → Prop} {A0 A1 : Nat → Prop} {H0 : Heap} {a : Array Value} {ls : Array Slot} {st0 rest : List Value}
variable {Qc : Array Value → State → Outcome → State → Prop} {XC : String → State → State → Prop}
/-- what a body that may throw owes at its end -/
def vx_MQ (below : List Frame) (Qc : Array Value → State → Outcome → State → Prop) (XC : String → State → State → Prop) (a : Array Value) (s : State) (mc ms : Nat) (free : Addr → Prop) : State → Prop := fun t =>
  ∃ o, t.status = .running ∧ Ended t below o ∧ vx_Q Qc XC mc ms free a s o t
theorem vx_ret {g : JFrame} {mc ms : Nat} (k : W p l e R s m args below meth c H locs cells slots (MQ below Qc args s mc ms free) g) : W p l e R s m args below meth c H locs cells slots (vx_MQ below Qc XC args s mc ms free) g := by
  intro T hT X
  obtain ⟨t, a1, o, b1, b2, b3, b4⟩ := k T hT X
  exact ⟨t, a1, o, b1, b2, Or.inl ⟨b3, b4⟩⟩
/-- not caught here: it goes on to the caller -/
theorem vx_widen {g : JFrame} {q : Addr} {k n : Nat} (h1 : cells ≤ k) (h2 : slots ≤ n) (kk : vx_W p l e R s m args below meth c H locs k n Q g q) : vx_W p l e R s m args below meth c H locs cells slots Q g q := fun T hT X => kk T hT (stand_widen X h1 h2)
theorem vx_out {pc : Nat} {E : String} {ce : Cell} {q : Addr} {mc ms : Nat} (hout : ∀ x ∈ c.exceptionTable.toList, covers x pc = false) (hlocks : meth.locks = false) (hcell : H[q]? = some ce) (hv : ce.vm = .none) (hcl : s.vm.findClass E = some ce.cls)
    (hx : ∀ t : State, t.heap = H → s.vm.Alike t.vm → XC E s t) (hf : ∀ z ∈ locs, free z.base) (hc : cells ≤ mc) (hs : slots ≤ ms) :
    vx_W p l e R s m args below meth c H locs cells slots (vx_MQ below Qc XC args s mc ms free) (F0 m pc ls rest) q := by
  intro T hT X
  obtain ⟨st1, hrun, hend, hW, hsm⟩ := X.leaveThrown q (g := F0 m pc ls rest) rfl rfl rfl hout hlocks
  have hcell9 : (T.setFrames (.throwing q :: below)).heap[q]? = some ce := by
    show T.heap[q]? = some ce
    rw [hT]; exact hcell
  exact ⟨_, st1, .threw q, hrun, hend, Or.inr ⟨q, rfl, E, ce, locs, hx _ hT hW.alike, hcell9, hv, hcl, hW, hsm.mono hc hs, hf⟩⟩
theorem vx_frame {U : State} {k n : Nat} (h : s.sameButNew ({ U with vm := s.vm } : State) locs k n) : s.heap.size ≤ U.heap.size ∧ ∀ q : Nat, q < s.heap.size → (∀ z ∈ locs, z.base ≠ q) → U.heap[q]? = s.heap[q]? := by
  obtain ⟨-, h2, -, -, -, h6⟩ := h
  refine ⟨h2, fun q hq hz => ?_⟩
  obtain ⟨c9, e1, e2, e3, e4⟩ := h6 q _ (Array.getElem?_eq_getElem hq)
  have hs : c9.slots = (s.heap[q]).slots := Array.ext_getElem? fun i => e4 i fun hm => hz _ hm rfl
  have h9 : c9 = s.heap[q] := by
    rw [hs] at e2
    exact e2
  have e5 : U.heap[q]? = some c9 := e1
  rw [e5, h9, Array.getElem?_eq_getElem hq]
/-- the words of a throw but the four that speak of the heap -/
def vx_no (w : Cond) : Bool := decide (w ≠ .isRef (.static Bundle.tN "UNASSIGNED_STACK" Bundle.steD)) && decide (w ≠ .isRef (.static Bundle.tN "SUPPRESSED_SENTINEL" Bundle.listD)) && decide (w ≠ .laysStatic Bundle.tN "UNASSIGNED_STACK" Bundle.steD) && decide (w ≠ .laysStatic Bundle.tN "SUPPRESSED_SENTINEL" Bundle.listD)
def vx_at0 (own : String) (ic : Nat) (X : String) (names : List String) : List Cond := (Bundle.ownAtoms0 own ic X names).filter vx_no
def vx_atS (own : String) (ic : Nat) (X : String) (names : List String) : List Cond := (Bundle.ownAtoms own ic X names).filter vx_no
/-- a word that the tables alone decide, or a good one -/
def vx_ot (w : Cond) : Bool := w.onTables || goodWord w
theorem vx_ot_at {args a' : Array Value} {s U : State} {w : Cond} (hW : s.WarmedH U.vm) (hvm : s.vm = U.vm) (hg : vx_ot w = true) (h : w.before args s = true) : w.before a' U = true := by
  simp only [vx_ot, Bool.or_eq_true] at hg
  rcases hg with hg | hg
  · exact va_tabs hg hvm h
  · exact word_at hW (good_of_word hg) h
/-- a list's words: the good ones out of the method's own list, the others by premises of their own -/
theorem vx_hat {args : Array Value} {s : State} {L B : List Cond} (h1 : ∀ w ∈ L.filter goodWord, w.before args s = true) (h2 : ∀ w ∈ L.filter (fun w => !goodWord w), w ∈ B) (h3 : ∀ w ∈ B, w.before args s = true) : ∀ w ∈ L, w.before args s = true := by
  intro w hw
  by_cases g : goodWord w = true
  · exact h1 w (List.mem_filter.mpr ⟨hw, g⟩)
  · refine h3 w (h2 w (List.mem_filter.mpr ⟨hw, ?_⟩))
    show (!goodWord w) = true
    cases hgw : goodWord w
    · rfl
    · exact absurd hgw g
theorem vx_c {args : Array Value} {s : State} {w : Cond} {B : List Cond} (h : w.before args s = true) (t : ∀ w ∈ B, w.before args s = true) : ∀ w' ∈ w :: B, w'.before args s = true := fun w' h' => (List.mem_cons.mp h').elim (fun e => by rw [e]; exact h) (t w')
theorem vx_n {args : Array Value} {s : State} : ∀ w ∈ ([] : List Cond), w.before args s = true := fun _ h => nomatch h
theorem vx_own {args : Array Value} {s : State} {L : List Cond} (h1 : ∀ w ∈ L.filter vx_no, w.before args s = true)
    (hU : (Cond.isRef (.static Bundle.tN "UNASSIGNED_STACK" Bundle.steD)).before args s = true) (hN : (Cond.isRef (.static Bundle.tN "SUPPRESSED_SENTINEL" Bundle.listD)).before args s = true)
    (lU : (Cond.laysStatic Bundle.tN "UNASSIGNED_STACK" Bundle.steD).before args s = true) (lN : (Cond.laysStatic Bundle.tN "SUPPRESSED_SENTINEL" Bundle.listD).before args s = true) : ∀ w ∈ L, w.before args s = true := by
  intro w hw
  by_cases e1 : w = .isRef (.static Bundle.tN "UNASSIGNED_STACK" Bundle.steD)
  · rw [e1]; exact hU
  · by_cases e2 : w = .isRef (.static Bundle.tN "SUPPRESSED_SENTINEL" Bundle.listD)
    · rw [e2]; exact hN
    · by_cases e3 : w = .laysStatic Bundle.tN "UNASSIGNED_STACK" Bundle.steD
      · rw [e3]; exact lU
      · by_cases e4 : w = .laysStatic Bundle.tN "SUPPRESSED_SENTINEL" Bundle.listD
        · rw [e4]; exact lN
        · exact h1 w (List.mem_filter.mpr ⟨hw, by unfold vx_no; rw [decide_eq_true e1, decide_eq_true e2, decide_eq_true e3, decide_eq_true e4]; rfl⟩)
/-- where a static field lies, its class's statics cell in H -/
def vx_L (C n d : String) (A : Nat → Prop) (U : State) (H : Heap) : Prop := ∃ (c : ClassId) (k : Class) (i : Nat) (f : Field) (a : Nat) (cell : Cell), U.vm.findClass C = some c ∧ U.fieldFound? C n d = some (c, k, i, f) ∧ f.isStatic = true ∧ k.statics = some a ∧ H[a]? = some cell ∧ cell.vm.isStatics = true ∧ cell.cls = c ∧ f.slot < cell.slots.size ∧ k.staticTypes[f.slot]? = some f.type ∧ ¬ A a
theorem vx_L.moved {C n d : String} {A : Nat → Prop} {u U : State} {H : Heap} (hvm : u.vm.Alike U.vm) (h : vx_L C n d A u H) : vx_L C n d A U H := by
  obtain ⟨c, k, i, f, a, cell, h1, h2, h3, h4, h5, h6, h7, h8, h9, h10⟩ := h
  obtain ⟨k', hi', he⟩ := State.fieldFound?_setVm hvm h2
  exact ⟨c, k', i, f, a, cell, by rw [hvm.findClass]; exact h1, hi', h3, by rw [he]; exact h4, h5, h6, h7, h8, by rw [he]; exact h9, h10⟩
theorem vx_L.kept {C n d : String} {A : Nat → Prop} {U : State} {H H1 : Heap} (h : vx_L C n d A U H) (hq : ∀ a : Nat, a < H.size → ¬ A a → H1[a]? = H[a]?) : vx_L C n d A U H1 := by
  obtain ⟨c, k, i, f, a, cell, h1, h2, h3, h4, h5, h6, h7, h8, h9, h10⟩ := h
  exact ⟨c, k, i, f, a, cell, h1, h2, h3, h4, by rw [hq a (Array.getElem?_eq_some_iff.mp h5).1 h10]; exact h5, h6, h7, h8, h9, h10⟩
theorem vx_L.narrow {C n d : String} {A B : Nat → Prop} {U : State} {H : Heap} (h : vx_L C n d A U H) (hAB : ∀ q, B q → A q) : vx_L C n d B U H := by
  obtain ⟨c, k, i, f, a, cell, h1, h2, h3, h4, h5, h6, h7, h8, h9, h10⟩ := h
  exact ⟨c, k, i, f, a, cell, h1, h2, h3, h4, h5, h6, h7, h8, h9, fun z => h10 (hAB _ z)⟩
theorem vx_L.word {C n d : String} {A : Nat → Prop} {s : State} {args : Array Value} (h : vx_L C n d A s s.heap) : (Cond.laysStatic C n d).before args s = true := by
  obtain ⟨c, k, i, f, a, cell, h1, h2, h3, h4, h5, h6, h7, h8, h9, -⟩ := h
  show (Cond.laysStatic C n d).holds args s none s [] = true
  exact Cond.laysStatic_of h1 h2 h3 h4 h5 h6 h7 h8 h9
/-- .. and what it holds: null or some reference -/
def vx_Zq (C n d : String) (A : Nat → Prop) (U : State) (H : Heap) : Prop := va_Zq C n d A U H ∧ vx_L C n d A U H
theorem vx_Zq.moved {C n d : String} {A : Nat → Prop} {u U : State} {H : Heap} (hvm : u.vm.Alike U.vm) (h : vx_Zq C n d A u H) : vx_Zq C n d A U H := ⟨va_Zq.moved hvm h.1, vx_L.moved hvm h.2⟩
theorem vx_Zq.kept {C n d : String} {A : Nat → Prop} {U : State} {H H1 : Heap} (h : vx_Zq C n d A U H) (hq : ∀ a : Nat, a < H.size → ¬ A a → H1[a]? = H[a]?) : vx_Zq C n d A U H1 := ⟨va_Zq.kept h.1 hq, vx_L.kept h.2 hq⟩
theorem vx_Zq.narrow {C n d : String} {A B : Nat → Prop} {U : State} {H : Heap} (h : vx_Zq C n d A U H) (hAB : ∀ q, B q → A q) : vx_Zq C n d B U H := ⟨va_Zq.narrow h.1 hAB, vx_L.narrow h.2 hAB⟩
theorem vx_Zqof {args : Array Value} {s : State} {C n d : String} {A : Nat → Prop} (hl : (Cond.laysStatic C n d).before args s = true) (hini : (Cond.initialized C).before args s = true) (h : (Cond.isRef (.static C n d)).before args s = true) (hA : ∀ a : Nat, a < s.heap.size → ¬ A a) : vx_Zq C n d A s s.heap := by
  refine ⟨va_Zqof hl hini h hA, ?_⟩
  obtain ⟨c, k, i, f, a, cell, h1, h2, h3, h4, h5, h6, h7, h8, h9⟩ := Cond.laysStatic_spec hl
  exact ⟨c, k, i, f, a, cell, h1, h2, h3, h4, h5, h6, h7, h8, h9, hA a (Array.getElem?_eq_some_iff.mp h5).1⟩
theorem vx_isRef {C n d : String} {v : Value} {A : Nat → Prop} {s : State} {args : Array Value} (h : va_Z C n d v A s s.heap) (hv : v.isRef = true) : (Cond.isRef (.static C n d)).before args s = true := by
  obtain ⟨cf, kf, fi, f, a, cell, h1, h2, h3, h4, h5, h6, h7, -⟩ := h
  have he : (Term.static C n d).eval args s none [] s = some v := by
    simp [Term.eval, State.fieldNamed?, h1, h2, h4, h5, h6, h7]
  simp only [Cond.before, Cond.holds, Cond.value, he]
  cases v <;> simp_all [Value.isRef]
theorem vx_isRefq {C n d : String} {A : Nat → Prop} {s : State} {args : Array Value} (h : va_Zq C n d A s s.heap) : (Cond.isRef (.static C n d)).before args s = true := by
  rcases h with h | ⟨t, h⟩
  · exact vx_isRef h rfl
  · exact vx_isRef h rfl
/-- the same frame, seen from here: as if the method were called anew in this heap -/
theorem vx_rebase {T : State} (X : Stand p l e R s m args below meth c T locs cells slots) {R' : Room} (hf : R'.frames ≤ R.frames) (hl : R'.locals ≤ R.locals) (hc : cells + R'.cells ≤ R.cells) (hs : slots + R'.slots ≤ R.slots) :
    Stand p l e R' ((T.setVm s.vm).setFrames (.invoking m args :: below)) m args below meth c T [] 0 0 := by
  have htop : (T.setVm s.vm).topJava?.isSome := X.here.top
  have hF : ((T.setVm s.vm).setFrames (.invoking m args :: below)).frames = .invoking m args :: below := State.frames_setFrames _ (State.cur_lt_of_top htop)
  obtain ⟨g₀, hg0⟩ := Option.isSome_iff_exists.mp htop
  obtain ⟨r, hr⟩ := State.topJava?_eq_some.mp hg0
  have hl9 : e.platform.stackLimits (T.setVm s.vm).me = e.platform.stackLimits s.me := X.limits
  have hb9 : (T.setVm s.vm).me.stackBytes = s.me.stackBytes := X.bytes
  refine ⟨X.admits, X.cas, X.clock, hF, ?_, X.hears, X.method, X.code, X.here, X.tail, X.warmed, ?_, ?_, ?_⟩
  · have h := X.room
    have hU : ((T.setVm s.vm).setFrames (.invoking m args :: below)).localsInUse = s.localsInUse := by
      rw [State.localsInUse_invoking hF (meth := meth) (c := c) X.method X.code, State.localsInUse_invoking X.frames X.method X.code]
    simp only [State.hasRoom, Bool.and_eq_true, decide_eq_true_eq] at h ⊢
    obtain ⟨⟨⟨⟨h1, h2, h3, h4, h5, h6⟩, h7⟩, h8⟩, h9⟩ := h
    rw [X.frames, List.length_cons] at h2 h3
    have q1 := X.heapSize
    have q2 := X.used
    simp only [hF, hU, List.length_cons, State.stackLimits_setFrames, State.stackBytes_setFrames, hl9, hb9]
    refine ⟨⟨⟨⟨by omega, by omega, by omega, by omega, by omega, h6⟩, ?_⟩, ?_⟩, X.book⟩
    · show T.heap.size + R'.cells ≤ e.platform.maxCells
      omega
    · show T.slotsUsed + R'.slots ≤ e.platform.maxSlots
      omega
  · rw [State.stackLimits_setFrames]; rfl
  · rw [State.stackBytes_setFrames]; rfl
  · refine ⟨?_, Nat.le_refl _, Nat.le_refl _, ?_, ?_, fun a c9 h9 => ⟨c9, h9, rfl, rfl, fun _ _ => rfl⟩⟩
    · obtain ⟨t, ht, -⟩ := State.frames_cons hr
      show T.setVm s.vm = { ((T.setVm s.vm).setFrames (.invoking m args :: below)).setFrames (T.setVm s.vm).frames with heap := T.heap, slotsUsed := T.slotsUsed }
      rw [State.setFrames_setFrames, State.setFrames_self ht]
      rfl
    · show T.slotsUsed = T.slotsUsed + ((T.heap.toList.drop T.heap.size).map (·.slots.size)).sum
      rw [List.drop_eq_nil_of_le (Nat.le_of_eq Array.length_toList)]
      rfl
    · show ((T.heap.toList.drop T.heap.size).map (·.slots.size)).sum ≤ 0
      rw [List.drop_eq_nil_of_le (Nat.le_of_eq Array.length_toList)]
      exact Nat.le_refl _
/-- 'throw new E()': new; dup; invokespecial; athrow -/
theorem vx_throw0 {cc : ByteArray} {pc : Nat} (hexec : p.tables.exec = Jvm.exec) (hb : c.code = cc) (hl : l.stackTraces = false) {own cls : String} {names : List String} {ik ic mc ms : Nat} {A : Nat → Prop}
    (hown : s.vm.findClass own = some m.cls) (hcls : Bundle.fit cls = true) (hnames : ∀ n ∈ names, Bundle.fit n = true)
    (hk : (Cond.classLink own ik cls).before args s = true) (hini : (Cond.initialized cls).before args s = true) (hat : ∀ w ∈ vx_at0 own ic cls names, w.before args s = true)
    (hgood : ∀ w ∈ Cond.classLink own ik cls :: Cond.initialized cls :: vx_at0 own ic cls names, vx_ot w = true)
    (hU : vx_Zq Bundle.tN "UNASSIGNED_STACK" Bundle.steD A s s.heap) (hN : vx_Zq Bundle.tN "SUPPRESSED_SENTINEL" Bundle.listD A s s.heap) (hS : va_S A s.heap H locs) (hsize : ls.size = c.maxLocals)
    (d0 : decode cc pc = .ok (.new ik, 3)) (d3 : decode cc (pc + 3) = .ok (.dup, 1)) (d4 : decode cc (pc + 4) = .ok (.invokespecial ic, 3)) (d7 : decode cc (pc + 7) = .ok (.athrow, 1))
    (hout : ∀ x ∈ c.exceptionTable.toList, covers x (pc + 7) = false)
    (hRframes : names.length + 3 < R.frames) (hRlocals : (rest.map fun v => v.category).sum + (13 * (names.length + 1) + 42) ≤ R.locals) (hRcells : cells + 1 ≤ R.cells) (hRslots : slots + 6 ≤ R.slots) (hlocks : meth.locks = false)
    (hx : ∀ t : State, s.vm.Alike t.vm → H.size ≤ t.heap.size → (∀ q : Nat, q < H.size → t.heap[q]? = H[q]?) → XC cls s t)
    (hf : ∀ z ∈ locs, free z.base) (hc : cells + 1 ≤ mc) (hs : slots + 6 ≤ ms) :
    W p l e R s m args below meth c H locs cells slots (vx_MQ below Qc XC args s mc ms free) (F0 m pc ls rest) := by
  intro T hT X
  have htr : e.platform.stackTraces = false := (show e.platform.stackTraces = l.stackTraces by rw [X.admits.platform]).trans hl
  have Y := vx_rebase X (R' := { frames := R.frames, locals := R.locals, cells := 1, slots := 6 }) (Nat.le_refl _) (Nat.le_refl _) hRcells hRslots
  obtain ⟨s', hA⟩ : ∃ z, z = (T.setVm s.vm).setFrames (.invoking m args :: below) := ⟨_, rfl⟩
  rw [← hA] at Y
  have hvm : s'.vm = s.vm := by rw [hA]; rfl
  have hhp : s'.heap = H := by rw [hA]; exact hT
  have hW0 : s.WarmedH s'.vm := by rw [hvm]; exact State.WarmedH.refl s
  have hat' : ∀ w ∈ vx_at0 own ic cls names, w.before args s' = true := fun w hw => vx_ot_at hW0 hvm.symm (hgood w (List.mem_cons_of_mem _ (List.mem_cons_of_mem _ hw))) (hat w hw)
  have hk' : (Cond.classLink own ik cls).before args s' = true := vx_ot_at hW0 hvm.symm (hgood _ List.mem_cons_self) hk
  have hini' : (Cond.initialized cls).before args s' = true := vx_ot_at hW0 hvm.symm (hgood _ (List.mem_cons_of_mem _ List.mem_cons_self)) hini
  have hU' : vx_Zq Bundle.tN "UNASSIGNED_STACK" Bundle.steD A s' s'.heap := by rw [hhp]; exact vx_Zq.moved hW0.alike (hU.kept hS.2.1)
  have hN' : vx_Zq Bundle.tN "SUPPRESSED_SENTINEL" Bundle.listD A s' s'.heap := by rw [hhp]; exact vx_Zq.moved hW0.alike (hN.kept hS.2.1)
  have h : ∀ w ∈ Bundle.ownAtoms0 own ic cls names, w.before args s' = true := vx_own hat' (vx_isRefq hU'.1) (vx_isRefq hN'.1) hU'.2.word hN'.2.word
  have hown' : s'.vm.findClass own = some m.cls := by rw [hvm]; exact hown
  have hins : (Cond.instantiable cls 6).before args s' = true := h _ (by simp [Bundle.ownAtoms0])
  obtain ⟨vm₁, cX, kX, hfX, hkX, -, -, X₁, st1⟩ := Y.newCold hexec (own := own) (C := cls) (index := ik) (n := 6) hown' hk' hins hini'
    (g := F0 m pc ls rest) rfl (by rw [hb]; exact d0) (Nat.le_refl _) (Nat.le_refl _)
  generalize hT1 : (T.setVm vm₁).pushCell { cls := cX, slots := kX.instanceTypes.map defaultValue, vm := .none } = T1 at X₁ st1
  have hcat : (Value.ref T.heap.size).category = 1 := rfl
  have hcellA : T1.heap[T.heap.size]? = some (freshCell cX kX) := by rw [← hT1]; exact State.heap_pushCell_size _ _
  have d3' : decode c.code (pc + 3) = .ok (.dup, 1) := by rw [hb]; exact d3
  obtain ⟨U, hsteps, hrun, hend, hW, hsame, ce, hce, hO⟩ := X₁.ctorThrow0 hexec htr (own := own) (cls := cls) (names := names) (ic := ic) hown' hcls hnames h (fun x hx => nomatch hx) hfX hkX hcellA (by rw [hhp, hT]; exact Nat.le_refl _)
    (g := { method := m, pc := pc + 4, locals := ls, stack := .ref T.heap.size :: .ref T.heap.size :: rest, locked := none }) rfl hsize rfl rfl (rest := rest) rfl
    (by rw [hb]; exact d4) (by rw [hb]; exact d7) hout hRframes (by simp only [List.map_cons, List.sum_cons, hcat]; omega) hlocks
  obtain ⟨f1, f2⟩ := vx_frame hsame
  rw [hhp] at f1 f2
  have hWs : s.WarmedH U.vm := State.WarmedH.trans hW0 hW
  have hcl : s.vm.findClass cls = some ce.cls := by
    have h9 := hO.cls
    rw [hvm] at h9
    exact h9
  have hall : s.sameButNew ({ U with vm := s.vm } : State) locs mc ms := by
    subst hA
    obtain ⟨e1, e2⟩ := hsame
    rw [State.setFrames_setFrames] at e1
    have h2 : (T.setVm s.vm).sameButNew ({ U with vm := s.vm } : State) [] (0 + 1) (0 + 6) := ⟨e1, e2⟩
    have h3 := X.same.trans h2
    rw [List.append_nil] at h3
    exact h3.mono hc hs
  refine ⟨U, ?_, .threw T.heap.size, hrun, hend, Or.inr ⟨T.heap.size, rfl, cls, ce, locs, hx U hWs.alike f1 (fun q hq => f2 q hq (fun z hz => nomatch hz)), hce, hO.vm, hcl, hWs, hall, hf⟩⟩
  refine st1 _ ?_
  show Steps p.tables e below (T1.setTop { method := m, pc := pc + 3, locals := ls, stack := .ref T.heap.size :: rest, locked := none }) _
  jvm_step X₁.here [X₁.here.top, hexec, d3', Value.category]
  exact hsteps
/-- 'throw new E("text")': new; dup; ldc; invokespecial; athrow -/
theorem vx_throwS {cc : ByteArray} {pc : Nat} (hexec : p.tables.exec = Jvm.exec) (hb : c.code = cc) (hl : l.stackTraces = false) {own cls text : String} {names : List String} {ik is ic mc ms sa : Nat} {A : Nat → Prop}
    (hown : s.vm.findClass own = some m.cls) (hcls : Bundle.fit cls = true) (hnames : ∀ n ∈ names, Bundle.fit n = true)
    (hk : (Cond.classLink own ik cls).before args s = true) (hini : (Cond.initialized cls).before args s = true) (hstr : vk_R own is text sa s) (hat : ∀ w ∈ vx_atS own ic cls names, w.before args s = true)
    (hgood : ∀ w ∈ Cond.classLink own ik cls :: Cond.initialized cls :: vx_atS own ic cls names, vx_ot w = true)
    (hU : vx_Zq Bundle.tN "UNASSIGNED_STACK" Bundle.steD A s s.heap) (hN : vx_Zq Bundle.tN "SUPPRESSED_SENTINEL" Bundle.listD A s s.heap) (hS : va_S A s.heap H locs) (hsize : ls.size = c.maxLocals)
    (d0 : decode cc pc = .ok (.new ik, 3)) (d3 : decode cc (pc + 3) = .ok (.dup, 1)) (d4 : decode cc (pc + 4) = .ok (.ldc is, 2)) (d6 : decode cc (pc + 6) = .ok (.invokespecial ic, 3)) (d9 : decode cc (pc + 9) = .ok (.athrow, 1))
    (hout : ∀ x ∈ c.exceptionTable.toList, covers x (pc + 9) = false)
    (hRframes : names.length + 3 < R.frames) (hRlocals : (rest.map fun v => v.category).sum + (13 * (names.length + 1) + 43) ≤ R.locals) (hRcells : cells + 1 ≤ R.cells) (hRslots : slots + 6 ≤ R.slots) (hlocks : meth.locks = false)
    (hx : ∀ t : State, s.vm.Alike t.vm → H.size ≤ t.heap.size → (∀ q : Nat, q < H.size → t.heap[q]? = H[q]?) → XC cls s t)
    (hf : ∀ z ∈ locs, free z.base) (hc : cells + 1 ≤ mc) (hs : slots + 6 ≤ ms) :
    W p l e R s m args below meth c H locs cells slots (vx_MQ below Qc XC args s mc ms free) (F0 m pc ls rest) := by
  intro T hT X
  have htr : e.platform.stackTraces = false := (show e.platform.stackTraces = l.stackTraces by rw [X.admits.platform]).trans hl
  have Y := vx_rebase X (R' := { frames := R.frames, locals := R.locals, cells := 1, slots := 6 }) (Nat.le_refl _) (Nat.le_refl _) hRcells hRslots
  obtain ⟨s', hA⟩ : ∃ z, z = (T.setVm s.vm).setFrames (.invoking m args :: below) := ⟨_, rfl⟩
  rw [← hA] at Y
  have hvm : s'.vm = s.vm := by rw [hA]; rfl
  have hhp : s'.heap = H := by rw [hA]; exact hT
  have hW0 : s.WarmedH s'.vm := by rw [hvm]; exact State.WarmedH.refl s
  have hat' : ∀ w ∈ vx_atS own ic cls names, w.before args s' = true := fun w hw => vx_ot_at hW0 hvm.symm (hgood w (List.mem_cons_of_mem _ (List.mem_cons_of_mem _ hw))) (hat w hw)
  have hk' : (Cond.classLink own ik cls).before args s' = true := vx_ot_at hW0 hvm.symm (hgood _ List.mem_cons_self) hk
  have hini' : (Cond.initialized cls).before args s' = true := vx_ot_at hW0 hvm.symm (hgood _ (List.mem_cons_of_mem _ List.mem_cons_self)) hini
  have hU' : vx_Zq Bundle.tN "UNASSIGNED_STACK" Bundle.steD A s' s'.heap := by rw [hhp]; exact vx_Zq.moved hW0.alike (hU.kept hS.2.1)
  have hN' : vx_Zq Bundle.tN "SUPPRESSED_SENTINEL" Bundle.listD A s' s'.heap := by rw [hhp]; exact vx_Zq.moved hW0.alike (hN.kept hS.2.1)
  have h : ∀ w ∈ Bundle.ownAtoms own ic cls names, w.before args s' = true := vx_own hat' (vx_isRefq hU'.1) (vx_isRefq hN'.1) hU'.2.word hN'.2.word
  have hown' : s'.vm.findClass own = some m.cls := by rw [hvm]; exact hown
  have hins : (Cond.instantiable cls 6).before args s' = true := h _ (by simp [Bundle.ownAtoms])
  obtain ⟨vm₁, cX, kX, hfX, hkX, -, -, X₁, st1⟩ := Y.newCold hexec (own := own) (C := cls) (index := ik) (n := 6) hown' hk' hins hini'
    (g := F0 m pc ls rest) rfl (by rw [hb]; exact d0) (Nat.le_refl _) (Nat.le_refl _)
  generalize hT1 : (T.setVm vm₁).pushCell { cls := cX, slots := kX.instanceTypes.map defaultValue, vm := .none } = T1 at X₁ st1
  have hcat : (Value.ref T.heap.size).category = 1 := rfl
  have hcellA : T1.heap[T.heap.size]? = some (freshCell cX kX) := by rw [← hT1]; exact State.heap_pushCell_size _ _
  have d3' : decode c.code (pc + 3) = .ok (.dup, 1) := by rw [hb]; exact d3
  have d4' : decode c.code (pc + 4) = .ok (.ldc is, 2) := by rw [hb]; exact d4
  have hstr' : vk_R own is text sa s' := vk_R.warm hW0 hstr
  obtain ⟨U, hsteps, hrun, hend, hW, hsame, ce, hce, hO⟩ := X₁.ctorThrowS hexec htr (own := own) (cls := cls) (names := names) (ic := ic) hown' hcls hnames h (fun x hx => nomatch hx) hfX hkX hcellA (by rw [hhp, hT]; exact Nat.le_refl _) (msg := .ref sa) rfl
    (g := { method := m, pc := pc + 6, locals := ls, stack := .ref sa :: .ref T.heap.size :: .ref T.heap.size :: rest, locked := none }) rfl hsize rfl rfl (rest := rest) rfl
    (by rw [hb]; exact d6) (by rw [hb]; exact d9) hout hRframes (by simp only [List.map_cons, List.sum_cons, hcat]; omega) hlocks
  obtain ⟨f1, f2⟩ := vx_frame hsame
  rw [hhp] at f1 f2
  have hWs : s.WarmedH U.vm := State.WarmedH.trans hW0 hW
  have hcl : s.vm.findClass cls = some ce.cls := by
    have h9 := hO.cls
    rw [hvm] at h9
    exact h9
  have hall : s.sameButNew ({ U with vm := s.vm } : State) locs mc ms := by
    subst hA
    obtain ⟨e1, e2⟩ := hsame
    rw [State.setFrames_setFrames] at e1
    have h2 : (T.setVm s.vm).sameButNew ({ U with vm := s.vm } : State) [] (0 + 1) (0 + 6) := ⟨e1, e2⟩
    have h3 := X.same.trans h2
    rw [List.append_nil] at h3
    exact h3.mono hc hs
  refine ⟨U, ?_, .threw T.heap.size, hrun, hend, Or.inr ⟨T.heap.size, rfl, cls, ce, locs, hx U hWs.alike f1 (fun q hq => f2 q hq (fun z hz => nomatch hz)), hce, hO.vm, hcl, hWs, hall, hf⟩⟩
  refine st1 _ ?_
  show Steps p.tables e below (T1.setTop { method := m, pc := pc + 3, locals := ls, stack := .ref T.heap.size :: rest, locked := none }) _
  jvm_step X₁.here [X₁.here.top, hexec, d3', Value.category]
  exact X₁.ldcString hexec (own := own) (text := text) (index := is) (a := sa) hown' hstr'.1 hstr'.2
    (g := { method := m, pc := pc + 4, locals := ls, stack := .ref T.heap.size :: .ref T.heap.size :: rest, locked := none }) rfl d4' _ hsteps
/-- 'throw new E("text")', the text by a wide index -/
theorem vx_throwSW {cc : ByteArray} {pc : Nat} (hexec : p.tables.exec = Jvm.exec) (hb : c.code = cc) (hl : l.stackTraces = false) {own cls text : String} {names : List String} {ik is ic mc ms sa : Nat} {A : Nat → Prop}
    (hown : s.vm.findClass own = some m.cls) (hcls : Bundle.fit cls = true) (hnames : ∀ n ∈ names, Bundle.fit n = true)
    (hk : (Cond.classLink own ik cls).before args s = true) (hini : (Cond.initialized cls).before args s = true) (hstr : vk_R own is text sa s) (hat : ∀ w ∈ vx_atS own ic cls names, w.before args s = true)
    (hgood : ∀ w ∈ Cond.classLink own ik cls :: Cond.initialized cls :: vx_atS own ic cls names, vx_ot w = true)
    (hU : vx_Zq Bundle.tN "UNASSIGNED_STACK" Bundle.steD A s s.heap) (hN : vx_Zq Bundle.tN "SUPPRESSED_SENTINEL" Bundle.listD A s s.heap) (hS : va_S A s.heap H locs) (hsize : ls.size = c.maxLocals)
    (d0 : decode cc pc = .ok (.new ik, 3)) (d3 : decode cc (pc + 3) = .ok (.dup, 1)) (d4 : decode cc (pc + 4) = .ok (.ldc_w is, 3)) (d7 : decode cc (pc + 7) = .ok (.invokespecial ic, 3)) (d10 : decode cc (pc + 10) = .ok (.athrow, 1))
    (hout : ∀ x ∈ c.exceptionTable.toList, covers x (pc + 10) = false)
    (hRframes : names.length + 3 < R.frames) (hRlocals : (rest.map fun v => v.category).sum + (13 * (names.length + 1) + 43) ≤ R.locals) (hRcells : cells + 1 ≤ R.cells) (hRslots : slots + 6 ≤ R.slots) (hlocks : meth.locks = false)
    (hx : ∀ t : State, s.vm.Alike t.vm → H.size ≤ t.heap.size → (∀ q : Nat, q < H.size → t.heap[q]? = H[q]?) → XC cls s t)
    (hf : ∀ z ∈ locs, free z.base) (hc : cells + 1 ≤ mc) (hs : slots + 6 ≤ ms) :
    W p l e R s m args below meth c H locs cells slots (vx_MQ below Qc XC args s mc ms free) (F0 m pc ls rest) := by
  intro T hT X
  have htr : e.platform.stackTraces = false := (show e.platform.stackTraces = l.stackTraces by rw [X.admits.platform]).trans hl
  have Y := vx_rebase X (R' := { frames := R.frames, locals := R.locals, cells := 1, slots := 6 }) (Nat.le_refl _) (Nat.le_refl _) hRcells hRslots
  obtain ⟨s', hA⟩ : ∃ z, z = (T.setVm s.vm).setFrames (.invoking m args :: below) := ⟨_, rfl⟩
  rw [← hA] at Y
  have hvm : s'.vm = s.vm := by rw [hA]; rfl
  have hhp : s'.heap = H := by rw [hA]; exact hT
  have hW0 : s.WarmedH s'.vm := by rw [hvm]; exact State.WarmedH.refl s
  have hat' : ∀ w ∈ vx_atS own ic cls names, w.before args s' = true := fun w hw => vx_ot_at hW0 hvm.symm (hgood w (List.mem_cons_of_mem _ (List.mem_cons_of_mem _ hw))) (hat w hw)
  have hk' : (Cond.classLink own ik cls).before args s' = true := vx_ot_at hW0 hvm.symm (hgood _ List.mem_cons_self) hk
  have hini' : (Cond.initialized cls).before args s' = true := vx_ot_at hW0 hvm.symm (hgood _ (List.mem_cons_of_mem _ List.mem_cons_self)) hini
  have hU' : vx_Zq Bundle.tN "UNASSIGNED_STACK" Bundle.steD A s' s'.heap := by rw [hhp]; exact vx_Zq.moved hW0.alike (hU.kept hS.2.1)
  have hN' : vx_Zq Bundle.tN "SUPPRESSED_SENTINEL" Bundle.listD A s' s'.heap := by rw [hhp]; exact vx_Zq.moved hW0.alike (hN.kept hS.2.1)
  have h : ∀ w ∈ Bundle.ownAtoms own ic cls names, w.before args s' = true := vx_own hat' (vx_isRefq hU'.1) (vx_isRefq hN'.1) hU'.2.word hN'.2.word
  have hown' : s'.vm.findClass own = some m.cls := by rw [hvm]; exact hown
  have hins : (Cond.instantiable cls 6).before args s' = true := h _ (by simp [Bundle.ownAtoms])
  obtain ⟨vm₁, cX, kX, hfX, hkX, -, -, X₁, st1⟩ := Y.newCold hexec (own := own) (C := cls) (index := ik) (n := 6) hown' hk' hins hini'
    (g := F0 m pc ls rest) rfl (by rw [hb]; exact d0) (Nat.le_refl _) (Nat.le_refl _)
  generalize hT1 : (T.setVm vm₁).pushCell { cls := cX, slots := kX.instanceTypes.map defaultValue, vm := .none } = T1 at X₁ st1
  have hcat : (Value.ref T.heap.size).category = 1 := rfl
  have hcellA : T1.heap[T.heap.size]? = some (freshCell cX kX) := by rw [← hT1]; exact State.heap_pushCell_size _ _
  have d3' : decode c.code (pc + 3) = .ok (.dup, 1) := by rw [hb]; exact d3
  have d4' : decode c.code (pc + 4) = .ok (.ldc_w is, 3) := by rw [hb]; exact d4
  have hstr' : vk_R own is text sa s' := vk_R.warm hW0 hstr
  obtain ⟨U, hsteps, hrun, hend, hW, hsame, ce, hce, hO⟩ := X₁.ctorThrowS hexec htr (own := own) (cls := cls) (names := names) (ic := ic) hown' hcls hnames h (fun x hx => nomatch hx) hfX hkX hcellA (by rw [hhp, hT]; exact Nat.le_refl _) (msg := .ref sa) rfl
    (g := { method := m, pc := pc + 7, locals := ls, stack := .ref sa :: .ref T.heap.size :: .ref T.heap.size :: rest, locked := none }) rfl hsize rfl rfl (rest := rest) rfl
    (by rw [hb]; exact d7) (by rw [hb]; exact d10) hout hRframes (by simp only [List.map_cons, List.sum_cons, hcat]; omega) hlocks
  obtain ⟨f1, f2⟩ := vx_frame hsame
  rw [hhp] at f1 f2
  have hWs : s.WarmedH U.vm := State.WarmedH.trans hW0 hW
  have hcl : s.vm.findClass cls = some ce.cls := by
    have h9 := hO.cls
    rw [hvm] at h9
    exact h9
  have hall : s.sameButNew ({ U with vm := s.vm } : State) locs mc ms := by
    subst hA
    obtain ⟨e1, e2⟩ := hsame
    rw [State.setFrames_setFrames] at e1
    have h2 : (T.setVm s.vm).sameButNew ({ U with vm := s.vm } : State) [] (0 + 1) (0 + 6) := ⟨e1, e2⟩
    have h3 := X.same.trans h2
    rw [List.append_nil] at h3
    exact h3.mono hc hs
  refine ⟨U, ?_, .threw T.heap.size, hrun, hend, Or.inr ⟨T.heap.size, rfl, cls, ce, locs, hx U hWs.alike f1 (fun q hq => f2 q hq (fun z hz => nomatch hz)), hce, hO.vm, hcl, hWs, hall, hf⟩⟩
  refine st1 _ ?_
  show Steps p.tables e below (T1.setTop { method := m, pc := pc + 3, locals := ls, stack := .ref T.heap.size :: rest, locked := none }) _
  jvm_step X₁.here [X₁.here.top, hexec, d3', Value.category]
  exact X₁.ldcStringW hexec (own := own) (text := text) (index := is) (a := sa) hown' hstr'.1 hstr'.2
    (g := { method := m, pc := pc + 4, locals := ls, stack := .ref T.heap.size :: .ref T.heap.size :: rest, locked := none }) rfl d4' _ hsteps
end Ends
section Bodies
variable {l : Launch}
theorem vx_ofW {y : MethodName} {ws ws' : List Cond} {rm : Room} {Pc : Array Value → State → Prop} {Qc : Array Value → State → Outcome → State → Prop} {XC : String → State → State → Prop} {mc ms : Nat} {free : Addr → Prop} {cc : ByteArray} {maxL : Nat} {ret : Option FieldType}
    (hy : plainName y.cls = true) (hw : ws = Cond.code y cc maxL ret :: ws')
    (body : ∀ p e s m args below meth c s₁, BodyLoose p l y (headSpec ws rm) cc maxL ret e s m args below meth c s₁ → c.maxLocals = maxL → (∀ x ∈ c.exceptionTable.toList, False) → Pc args s →
      W p l e (headSpec ws rm).room s m args below meth c s.heap [] 0 0 (vx_MQ below Qc XC args s mc ms free) (entryFrame m args maxL)) : vx_Met l y ws rm Pc Qc XC mc ms free := by
  refine MetFree.of_bodyS (code := cc) (maxLocals := maxL) (ret := ret) hy ?_ ?_
  · intro args s m h hn
    obtain ⟨meth, c, h1, h2, h3, h4, h5, h6, -, -⟩ := Cond.code_spec hn (atoms_spec (ws := ws) h _ (by rw [hw]; exact List.mem_cons_self))
    exact ⟨meth, c, h1, h2, h3, h4, h5, h6⟩
  · intro p e s m args below meth c s₁ B hml hP _
    have hh0 : s₁.heap = s.heap := by rw [B.state]; rfl
    have ht : ∀ x ∈ c.exceptionTable.toList, False := by
      obtain ⟨meth9, c9, h1, h2, -, -, -, -, h7, -⟩ := Cond.code_spec B.named (atoms_spec (ws := ws) B.pre _ (by rw [hw]; exact List.mem_cons_self))
      cases Option.some.inj (h1.symm.trans B.method)
      cases Option.some.inj (h2.symm.trans (Stand.of_body B).code)
      intro x hx
      rw [Array.isEmpty_iff.mp h7] at hx
      cases hx
    obtain ⟨t, a1, o, b1, b2, b3⟩ := body p e s m args below meth c s₁ B hml ht hP s₁ hh0 (Stand.of_body B)
    exact ⟨t, o, a1, b1, b2, b3⟩
/-- the table of a body with handlers -/
theorem vx_table {p : Program} {x y : MethodName} {S : Spec} {cc bytes : ByteArray} {maxL maxL' : Nat} {ret ret' : Option FieldType} {e : Env} {s s₁ : State} {m : MethodId} {args : Array Value} {below : List Frame} {meth : Method} {c : Code} {hh : List (Nat × Nat × Nat × Nat)}
    (B : BodyLoose p l y S cc maxL ret e s m args below meth c s₁) (h : (Cond.codeWith y bytes maxL' ret' hh).before args s = true) : c.exceptionTable.toList = tableOf hh := by
  obtain ⟨m9, meth9, c9, hn9, h1, h2, -, -, h6, -⟩ := Cond.codeWith_spec h
  cases Option.some.inj (hn9.symm.trans B.named)
  cases Option.some.inj (h1.symm.trans B.method)
  cases Option.some.inj (h2.symm.trans (Stand.of_body B).code)
  rw [← h6, table_eq]
end Bodies
end VXA
/-! ===== END ===== -/
/-! ===== BEGIN a static call of a method with an exception table ===== -/
section VXS
variable {p : Program} {l : Launch} {e : Env} {R : Room} {s : State} {m : MethodId} {args : Array Value} {below : List Frame} {meth : Method} {c : Code} {T : State} {H : Heap} {locs : List Loc} {cells slots : Nat}
abbrev vx_CSW (R : Room) (s : State) (args : Array Value) (own : String) (index : Nat) (y : MethodName) (bytes : ByteArray) (maxL : Nat) (ret : Option FieldType) (hh : List (Nat × Nat × Nat × Nat)) (ws : List Cond) (rm : Room) (mc ms n : Nat) : Prop :=
  (rm.cells = mc ∧ rm.slots = ms ∧ rm.frames + 1 ≤ R.frames ∧ 8 + (maxL + 11) + rm.locals ≤ R.locals ∧ (∀ w ∈ ws, ∀ (a' : Array Value) (U : State), s.WarmedH U.vm → w.before a' U = true) ∧ Cond.codeWith y bytes maxL ret hh ∈ ws) ∧
  (Cond.codeWith y bytes maxL ret hh).before args s = true ∧ (Cond.initialized y.cls).before args s = true ∧ (y.cls ≠ "java/lang/invoke/MethodHandle" ∧ y.cls ≠ "java/lang/invoke/VarHandle") ∧
  (∀ sig, parseMethodDescriptor y.desc = some sig → n = sig.parameters.length) ∧ (Cond.methodLink own index y).before args s = true ∧ (Cond.static y).before args s = true
theorem vx_cwSW {own : String} {index maxL mc ms : Nat} {y : MethodName} {bytes : ByteArray} {ret : Option FieldType} {hh : List (Nat × Nat × Nat × Nat)} {Ts ws ws' : List Cond} {rm : Room} (n : Nat) (ht : ∀ w ∈ Ts, w.before args s = true) (hT : GoodIn Ts (va_wsS own index y ws)) (hw : ws = Cond.codeWith y bytes maxL ret hh :: ws') (hrc : rm.cells = mc) (hrs : rm.slots = ms)
    (hd : y.cls ≠ "java/lang/invoke/MethodHandle" ∧ y.cls ≠ "java/lang/invoke/VarHandle" ∧ (parseMethodDescriptor y.desc).map (fun d => d.parameters.length) = some n) (hR : rm.frames + 1 ≤ R.frames ∧ 8 + (maxL + 11) + rm.locals ≤ R.locals) :
    vx_CSW R s args own index y bytes maxL ret hh ws rm mc ms n := by
  have ok : ∀ w ∈ va_wsS own index y ws, w.before args s = true := fun w h => ht w (hT w h).1
  have hG : GoodIn Ts ws := fun w h => hT w (by unfold va_wsS; exact List.mem_append_right _ h)
  have hc : Cond.codeWith y bytes maxL ret hh ∈ ws := by rw [hw]; exact List.mem_cons_self
  refine ⟨⟨hrc, hrs, hR.1, hR.2, pay_in ht hG, hc⟩, ht _ (hG _ hc).1, ok _ (by simp [va_wsS]), ⟨hd.1, hd.2.1⟩, fun sig h => ?_, ok _ (by simp [va_wsS]), ok _ (by simp [va_wsS])⟩
  have h2 := hd.2.2
  rw [h] at h2
  exact (Option.some.inj h2).symm
theorem vx_callSW (X : Stand p l e R s m args below meth c T locs cells slots) (hexec : p.tables.exec = Jvm.exec) {own : String} {index : Nat} {y : MethodName} {bytes : ByteArray} {maxL : Nat} {ret : Option FieldType} {hh : List (Nat × Nat × Nat × Nat)}
    (hown : s.vm.findClass own = some m.cls) (hlink : (Cond.methodLink own index y).before args s = true) (hstat : (Cond.static y).before args s = true) (hinit : (Cond.initialized y.cls).before args s = true)
    (hcode : (Cond.codeWith y bytes maxL ret hh).before args s = true) (hy : y.cls ≠ "java/lang/invoke/MethodHandle" ∧ y.cls ≠ "java/lang/invoke/VarHandle")
    {W9 : Nat} {Pre : Pt → Array Value → Prop} {Post : Pt → Array Value → Option Value → Pt → Prop} (hK : Back l R p e below s args y 3 W9 Pre Post)
    {g : JFrame} (hg : g.method = m) (hsize : g.locals.size = c.maxLocals) {argsL rest : List Value} (hlen : ∀ sig, parseMethodDescriptor y.desc = some sig → argsL.length = sig.parameters.length)
    (hstack : g.stack = argsL.reverse ++ rest) (hW : 2 * g.monitorRoom + (rest.map fun v => v.category).sum ≤ W9) (hdg : decode c.code g.pc = .ok (.invokestatic index, 3))
    (hpre : ∀ vm₁, s.WarmedH vm₁ → Pre ⟨T.setVm vm₁, locs, cells, slots⟩ argsL.toArray) :
    ∃ (v : Option Value) (vm₁ : Vm) (B : Pt), s.WarmedH vm₁ ∧ Stand p l e R s m args below meth c B.U B.locs B.cells B.slots ∧ Post ⟨T.setVm vm₁, locs, cells, slots⟩ argsL.toArray v B ∧
      ∀ target, Steps p.tables e below (B.U.setTop { g with pc := g.pc + 3, stack := v.toList ++ rest }) target → Steps p.tables e below (T.setTop g) target := by
  obtain ⟨mk, methM, cM, hnamed, hmethM, -, -, -, -, -, -, hsigM⟩ := Cond.codeWith_spec hcode
  have hstatic : methM.isStatic = true := Cond.static_spec hnamed hmethM hstat
  obtain ⟨kP, hkP, -⟩ := className_of_methodNamed hnamed
  have hinitP : kP.init = .initialized := Cond.initialized_spec (findClass_of_methodNamed hnamed) hkP hinit
  obtain ⟨vm₁, X₁, hstep₁⟩ := X.invokestatic hexec hown hlink hnamed hmethM hstatic hkP hinitP hy (g := g) hg (argsL := argsL) (rest := rest) (hlen _ hsigM) hstack hdg
  obtain ⟨v, B, X', hpost, hsteps⟩ := hK m meth c ⟨T.setVm vm₁, locs, cells, slots⟩ { g with stack := rest } (.invokestatic index) mk argsL.toArray X₁ hg hsize hdg hW (X₁.named hnamed) (hpre vm₁ X₁.warmed)
  exact ⟨v, vm₁, B, X₁.warmed, X', hpost, fun target h => hstep₁ _ fun acts => by rw [doInvoke_state]; exact hsteps.trans h⟩
theorem vx_runSW {y : MethodName} {bytes cc : ByteArray} {maxL nL mc ms n index : Nat} {ret : Option FieldType} {hh : List (Nat × Nat × Nat × Nat)} {ws : List Cond} {rm : Room} {Pc : Array Value → State → Prop} {Qc : Array Value → State → Outcome → State → Prop} {free : Addr → Prop} {Ts : List Cond} {own : String} {As rest : List Value} {g : JFrame}
    (S : CallFix p m c cc nL s args Ts own) (hM : Met l y ws rm Pc Qc mc ms free) (cw : vx_CSW R s args own index y bytes maxL ret hh ws rm mc ms n) (hp : PreS s H Pc As)
    (hg : g.method = m) (hn : As.length = n) (hsize : g.locals.size = nL) (hstack : g.stack = As.reverse ++ rest) (hW : 2 * g.monitorRoom + (rest.map fun v => v.category).sum ≤ 8) (hdg : decode cc g.pc = .ok (.invokestatic index, 3)) (hf : cells + mc ≤ R.cells ∧ slots + ms ≤ R.slots) :
    va_Run p l e R s m args below meth c H locs cells slots mc ms g rest (Qc As.toArray) (free) := by
  obtain ⟨⟨hrc, hrs, hfr, hlo, hws, hcw⟩, hcode, hini, hy, hlen, hl, hstt⟩ := cw
  have hK : Back l R p e below s args y 3 8 (PreOf R mc ms Pc) (PostOf Qc mc ms free) := va_backW (hh := hh) (bytes := bytes) (maxL := maxL) (ret := ret) hM hp.1 hrc hrs hfr hlo hws hcw (fun a' U hW => word_at hW (Or.inl (by first | rfl | simp [Cond.onTables, Cond.keeps, Cond.steady])) hini)
  obtain ⟨hx, hb, hml, ho, -⟩ := S
  intro T hT X
  obtain ⟨v, vm₁, ⟨U', l2, c2, s2⟩, hW₁, X', ⟨g', mk, t, L, e1, e2, hq, h1, hL, h2, h3⟩, st⟩ := vx_callSW X hx (hh := hh) (bytes := bytes) (maxL := maxL) (ret := ret) ho hl hstt hini hcode hy hK hg (hsize.trans hml.symm) (argsL := As) (rest := rest) (fun sig h => hn.trans (hlen sig h)) hstack hW (by rw [hb]; exact hdg)
    (fun vm₁ hW₁ => ⟨hf.1, hf.2, hp.2 (T.setVm vm₁) hT hW₁⟩)
  dsimp only [Pt.U, Pt.locs, Pt.cells, Pt.slots] at X' e1 e2 h1 h2 h3 st
  subst h1; subst h2; subst h3
  exact ⟨v, (T.setVm vm₁).calling g' mk As.toArray, t, U', L, hT, X', hL, e1, e2, hq, st⟩
/-- not caught here, past rows that name other classes: it goes on to the caller -/
theorem vx_outP {p : Program} {l : Launch} {e : Env} {R : Room} {s : State} {m : MethodId} {args : Array Value} {below : List Frame} {meth : Method} {c : Code} {H : Heap} {locs : List Loc} {cells slots : Nat} {free : Addr → Prop} {ls : Array Slot} {rest : List Value} {Qc : Array Value → State → Outcome → State → Prop} {XC : String → State → State → Prop}
    {pc : Nat} {own E : String} {ce : Cell} {q : Addr} {mc ms : Nat} (hown : s.vm.findClass own = some m.cls) (hlocks : meth.locks = false)
    (hpass : ∀ z ∈ c.exceptionTable.toList, covers z pc = false ∨ (z.catchType ≠ 0 ∧ ∃ nm : String, (Cond.classLink own z.catchType nm).before args s = true ∧ va_Nc E nm s)) (hcell : H[q]? = some ce) (hv : ce.vm = .none) (hcl : s.vm.findClass E = some ce.cls)
    (hx : ∀ t : State, t.heap = H → s.vm.Alike t.vm → XC E s t) (hf : ∀ z ∈ locs, free z.base) (hc : cells ≤ mc) (hs : slots ≤ ms) :
    vx_W p l e R s m args below meth c H locs cells slots (vx_MQ below Qc XC args s mc ms free) (F0 m pc ls rest) q := by
  intro T hT X
  have hpl : e.platform.magicAccessors = ({} : Platform).magicAccessors := by rw [X.admits.platform]
  obtain ⟨vm', hW', X', st⟩ := X.outThrough hlocks q (g := F0 m pc ls rest) rfl rfl rfl (cell := ce) (by rw [hT]; exact hcell) (by rw [hv]; rfl)
    (by obtain ⟨k9, h9, -⟩ := Vm.findClass_spec hcl; exact ⟨k9, h9⟩) (fun z hz => by
      rcases hpass z hz with h | ⟨hz0, nm, hl1, hn1⟩
      · exact Or.inl h
      · obtain ⟨c6, hc6, hcl6⟩ := Cond.classLink_spec hown hl1 e.platform hpl
        obtain ⟨a8, b8, h1, h2, h3⟩ := hn1
        cases Option.some.inj (h1.symm.trans hcl)
        cases Option.some.inj (h2.symm.trans hc6)
        exact Or.inr ⟨hz0, _, hcl6, h3⟩)
  obtain ⟨g₀, hfr⟩ := X'.frames_eq
  have hcell9 : ((T.setVm vm').setFrames (.throwing q :: below)).heap[q]? = some ce := by
    show T.heap[q]? = some ce
    rw [hT]; exact hcell
  have hend : Ended ((T.setVm vm').setFrames (.throwing q :: below)) below (.threw q) := State.frames_setFrames _ (State.cur_lt_of_frames hfr)
  refine ⟨(T.setVm vm').setFrames (.throwing q :: below), ?_, .threw q, X'.here.running, hend, Or.inr ⟨q, rfl, E, ce, locs, hx _ hT (X'.ends _).1.alike, hcell9, hv, hcl, (X'.ends _).1, (X'.ends _).2.mono hc hs, hf⟩⟩
  rw [X.pushThrowing_eq]
  exact st
/-- a thing of a world lies in the heap -/
theorem vx_lt {D : va_G} {cl : List vw_C} {ws : va_W} {H1 : Heap} (h : va_P D cl ws H1) {k : Nat} {q : Nat × va_E} (hk : ws[k]? = some q) : q.1 < H1.size := (h k q hk).lt
end VXS
/-! ===== END ===== -/
/-! ===== BEGIN methods with a table of their own: called by a name, returning or throwing ===== -/
section VXH
/-! vx_backW, vx_callVX, vx_callSX, vx_callVW, vx_runVW, vx_runVX, vx_runSX, vx_ofWH follow the same proofs as their sisters above (Free/Laws.lean, Shelf42/LK1.lean); vx_outP calls Shelf42/NT130.lean (outThrough). -/
section
variable {l : Launch} {R : Room} {p : Program} {e : Env} {below : List Frame} {s : State} {sargs : Array Value} {y : MethodName} {len W9 : Nat}
theorem vx_backW {ws : List Cond} {rm : Room} {Pc : Array Value → State → Prop} {Qc : Array Value → State → Outcome → State → Prop} {XC : String → State → State → Prop} {mc ms : Nat} {free : Addr → Prop} {bytes : ByteArray} {maxL : Nat} {ret : Option FieldType} {hh : List (Nat × Nat × Nat × Nat)}
    (hM : vx_Met l y ws rm Pc Qc XC mc ms free) (hblind : FrameBlind Pc) (hrc : rm.cells = mc) (hrs : rm.slots = ms)
    (hframes : rm.frames + 1 ≤ R.frames) (hlocals : W9 + (maxL + 11) + rm.locals ≤ R.locals)
    (hws : ∀ w ∈ ws, ∀ a' U, s.WarmedH U.vm → w.before a' U = true) (hcode : Cond.codeWith y bytes maxL ret hh ∈ ws) (hinit : ∀ a' U, s.WarmedH U.vm → (Cond.initialized y.cls).before a' U = true) :
    vx_Back l R p e below s sargs y len W9 (PreOf R mc ms Pc) (PostOf Qc mc ms free) (vx_Post XC mc ms free) := by
  intro m meth c A g ig mk a X hg hsize hdg hW hn hp
  have h1 : (headSpec ws rm).pre.before a A.U = true := atoms_intro fun w hw => hws w hw _ _ X.warmed
  have h2 : (Cond.codeWith y bytes maxL ret hh).before a A.U = true := hws _ hcode _ _ X.warmed
  have h3 : (Cond.initialized y.cls).before a A.U = true := hinit _ _ X.warmed
  have h4 : A.cells + (headSpec ws rm).room.cells ≤ R.cells := by rw [show (headSpec ws rm).room.cells = mc from hrc]; exact hp.1
  have h5 : A.slots + (headSpec ws rm).room.slots ≤ R.slots := by rw [show (headSpec ws rm).room.slots = ms from hrs]; exact hp.2.1
  have hPc : Pc a (A.U.calling g mk a) := hblind _ _ _ _ hp.2.2
  obtain ⟨U, Ls, c0, s0⟩ := A
  dsimp only [Pt.U, Pt.locs, Pt.cells, Pt.slots] at h1 h2 h3 h4 h5 X hn hPc ⊢
  obtain ⟨m9, methY, cY, hn9, hmY, hcY, -, hlY, -⟩ := Cond.codeWith_spec h2
  cases Option.some.inj (hn9.symm.trans hn)
  obtain ⟨kY, hkY, -⟩ := className_of_methodNamed hn
  have hinitY : kY.init = .initialized := Cond.initialized_spec (findClass_of_methodNamed hn) hkY h3
  have h : At U g.method c below := by rw [hg]; exact X.here
  have hlocals9 : W9 + (maxL + 11) + (headSpec ws rm).room.locals ≤ R.locals := hlocals
  have happ : (headSpec ws rm).appliesLoose y e.platform (U.calling g mk a) = true :=
    Spec.appliesLoose_calling (g := g) h hdg hn hkY hinitY
      (X.room_calling (g := g) (R' := (headSpec ws rm).room) hsize hmY hcY hframes (by rw [hlY]; omega) h4 h5) h1
  obtain ⟨mid, hmid⟩ := h.above
  have hfr : (U.setTop g).frames = (.java g :: mid) ++ below := by rw [State.frames_setTop' g h.top, hmid]; rfl
  obtain ⟨o, s₂, hsteps, -, hend, hq⟩ := Steps.callFree hM p X.admits X.cas X.clock (acts := []) hfr happ hPc trivial
  have hq' : vx_Q Qc XC mc ms free a (U.calling g mk a) o s₂ := hq
  rw [State.frames_setTop' g h.top] at hend
  obtain ⟨g₀, hg0⟩ := Option.isSome_iff_exists.mp h.top
  obtain ⟨r, hr⟩ := State.topJava?_eq_some.mp hg0
  have hr' : (({ U with heap := s₂.heap, slotsUsed := s₂.slotsUsed } : State).setVm s₂.vm).frames = .java g₀ :: r := hr
  rcases hq' with ⟨hqc, L, hfe, hL⟩ | ⟨q, rfl, E, ce, L, hx, hce, hcv, hcl, hW₂, hsm, hL⟩
  · obtain ⟨⟨v, rfl⟩, hW₂, e2, q2, q3, q4, q5, q6⟩ := id hfe
    have e3 : s₂ = ({ (U.calling g mk a).setFrames s₂.frames with heap := s₂.heap, slotsUsed := s₂.slotsUsed } : State).setVm s₂.vm := by
      have : s₂ = ({ s₂ with vm := (U.calling g mk a).vm } : State).setVm s₂.vm := rfl
      rw [e2] at this
      exact this
    obtain ⟨c₂, i₂, len₂, hc₂, hd₂, hf₂⟩ := hend
    have hW' : U.WarmedH s₂.vm := hW₂
    have hcc : c₂ = c := by
      have h1 : s₂.code? g.method = U.code? g.method := by
        rw [State.code?_eq, State.code?_eq, hW'.alike.method?]
      exact Option.some.inj (hc₂.symm.trans (h1.trans h.code))
    subst hcc
    have hlen : len₂ = len := by rw [hdg] at hd₂; cases hd₂; rfl
    subst hlen
    have hs₂ : s₂ = (({ U with heap := s₂.heap, slotsUsed := s₂.slotsUsed } : State).setVm s₂.vm).setTop { g with pc := g.pc + len₂, stack := v.toList ++ g.stack } := by
      refine e3.trans ?_
      rw [hf₂, State.calling_eq h.top, State.setFrames_setFrames, State.setTop_of_frames _ hr', hr]
      rfl
    have hsame : U.sameButNew ({ U with heap := s₂.heap, slotsUsed := s₂.slotsUsed } : State) L mc ms := by
      refine ⟨?_, q2, q3, q4, q5, q6⟩
      obtain ⟨t, ht, -⟩ := State.frames_cons hr
      show ({ U with heap := s₂.heap, slotsUsed := s₂.slotsUsed } : State) = { U.setFrames U.frames with heap := s₂.heap, slotsUsed := s₂.slotsUsed }
      rw [State.setFrames_self ht]
    subst hg
    refine Or.inl ⟨v, ⟨(({ U with heap := s₂.heap, slotsUsed := s₂.slotsUsed } : State).setVm s₂.vm), Ls ++ L, c0 + mc, s0 + ms⟩,
      ⟨X.admits, X.cas, X.clock, X.frames, X.room, X.hears, X.method, X.code, (X.here.setHeapUsed s₂.heap s₂.slotsUsed).setVm hW'.alike, X.tail, State.WarmedH.trans X.warmed hW', X.limits, X.bytes, X.same.trans (hsame.setVm s.vm)⟩,
      ⟨g, mk, s₂, L, rfl, rfl, hqc, rfl, hL, rfl, rfl⟩, ?_⟩
    show Steps p.tables e below _ ((({ U with heap := s₂.heap, slotsUsed := s₂.slotsUsed } : State).setVm s₂.vm).setTop { g with pc := g.pc + len₂, stack := v.toList ++ g.stack })
    rw [← hs₂]
    exact hsteps
  · obtain ⟨e2, q2, q3, q4, q5, q6⟩ := id hsm
    have e3 : s₂ = ({ (U.calling g mk a).setFrames s₂.frames with heap := s₂.heap, slotsUsed := s₂.slotsUsed } : State).setVm s₂.vm := by
      have : s₂ = ({ s₂ with vm := (U.calling g mk a).vm } : State).setVm s₂.vm := rfl
      rw [e2] at this
      exact this
    have hf₂ : s₂.frames = .throwing q :: .java g :: U.frames.tail := hend
    have hW' : U.WarmedH s₂.vm := hW₂
    have hs₂ : s₂ = ((({ U with heap := s₂.heap, slotsUsed := s₂.slotsUsed } : State).setVm s₂.vm).setTop g).pushFrame (.throwing q) := by
      refine e3.trans ?_
      rw [hf₂, State.calling_eq h.top, State.setFrames_setFrames, State.pushFrame, State.frames_setTop _ hr', State.setTop_of_frames _ hr', State.setFrames_setFrames, hr]
      rfl
    have hsame : U.sameButNew ({ U with heap := s₂.heap, slotsUsed := s₂.slotsUsed } : State) L mc ms := by
      refine ⟨?_, q2, q3, q4, q5, q6⟩
      obtain ⟨t, ht, -⟩ := State.frames_cons hr
      show ({ U with heap := s₂.heap, slotsUsed := s₂.slotsUsed } : State) = { U.setFrames U.frames with heap := s₂.heap, slotsUsed := s₂.slotsUsed }
      rw [State.setFrames_self ht]
    subst hg
    refine Or.inr ⟨q, ⟨(({ U with heap := s₂.heap, slotsUsed := s₂.slotsUsed } : State).setVm s₂.vm), Ls ++ L, c0 + mc, s0 + ms⟩,
      ⟨X.admits, X.cas, X.clock, X.frames, X.room, X.hears, X.method, X.code, (X.here.setHeapUsed s₂.heap s₂.slotsUsed).setVm hW'.alike, X.tail, State.WarmedH.trans X.warmed hW', X.limits, X.bytes, X.same.trans (hsame.setVm s.vm)⟩,
      ⟨g, mk, s₂, L, E, ce, rfl, rfl, hx, hce, hcv, hcl, rfl, hL, rfl, rfl⟩, ?_⟩
    show Steps p.tables e below _ (((({ U with heap := s₂.heap, slotsUsed := s₂.slotsUsed } : State).setVm s₂.vm).setTop g).pushFrame (.throwing q))
    rw [← hs₂]
    exact hsteps
end
variable {p : Program} {l : Launch} {e : Env} {R : Room} {s : State} {m : MethodId} {args : Array Value} {below : List Frame} {meth : Method} {c : Code} {T : State} {H : Heap} {locs : List Loc} {cells slots : Nat}
theorem vx_callVX (X : Stand p l e R s m args below meth c T locs cells slots) (hexec : p.tables.exec = Jvm.exec) {own C : String} {index : Nat} {y : MethodName} {bytes : ByteArray} {maxL : Nat} {ret : Option FieldType} {hh : List (Nat × Nat × Nat × Nat)}
    (hown : s.vm.findClass own = some m.cls) (hlink : (Cond.methodLink own index y).before args s = true) (hinst : (Cond.instanceMethod y).before args s = true) (hsel : (Cond.selects C y y).before args s = true)
    (hcode : (Cond.codeWith y bytes maxL ret hh).before args s = true) (hy : y.cls ≠ "java/lang/invoke/MethodHandle" ∧ y.cls ≠ "java/lang/invoke/VarHandle")
    {W9 : Nat} {Pre : Pt → Array Value → Prop} {Post : Pt → Array Value → Option Value → Pt → Prop} {PostX : Pt → Array Value → Addr → Pt → Prop} (hK : vx_Back l R p e below s args y 3 W9 Pre Post PostX)
    {b : Addr} {cellB : Cell} (hcell : T.heap[b]? = some cellB) (hobj : cellB.vm.isStatics = false) (hcls : s.vm.findClass C = some cellB.cls)
    {g : JFrame} (hg : g.method = m) (hsize : g.locals.size = c.maxLocals) {argsL rest : List Value} (hlen : ∀ sig, parseMethodDescriptor y.desc = some sig → argsL.length = sig.parameters.length)
    (hstack : g.stack = argsL.reverse ++ .ref b :: rest) (hW : 2 * g.monitorRoom + (rest.map fun v => v.category).sum ≤ W9) (hdg : decode c.code g.pc = .ok (.invokevirtual index, 3))
    (hpre : ∀ vm₁, s.WarmedH vm₁ → Pre ⟨T.setVm vm₁, locs, cells, slots⟩ (Value.ref b :: argsL).toArray) :
    (∃ (v : Option Value) (vm₁ : Vm) (B : Pt), s.WarmedH vm₁ ∧ Stand p l e R s m args below meth c B.U B.locs B.cells B.slots ∧ Post ⟨T.setVm vm₁, locs, cells, slots⟩ (Value.ref b :: argsL).toArray v B ∧
      ∀ target, Steps p.tables e below (B.U.setTop { g with pc := g.pc + 3, stack := v.toList ++ rest }) target → Steps p.tables e below (T.setTop g) target) ∨
    (∃ (q : Addr) (vm₁ : Vm) (B : Pt), s.WarmedH vm₁ ∧ Stand p l e R s m args below meth c B.U B.locs B.cells B.slots ∧ PostX ⟨T.setVm vm₁, locs, cells, slots⟩ (Value.ref b :: argsL).toArray q B ∧
      Steps p.tables e below (T.setTop g) ((B.U.setTop { g with stack := rest }).pushFrame (.throwing q))) := by
  obtain ⟨mk, methM, hnamed, hmethM, hstM, habM⟩ := Cond.instanceMethod_spec hinst
  obtain ⟨m8, methM', cM, hn8, hmethM', -, -, -, -, -, -, hsigM⟩ := Cond.codeWith_spec hcode
  cases Option.some.inj (hn8.symm.trans hnamed)
  cases hmethM.symm.trans hmethM'
  obtain ⟨c2, r2, m2, q1, q2, q3, q4, kP, hkP, hkPi⟩ := Cond.selects_spec hsel
  cases hcls.symm.trans q1
  cases (State.methodFound?_of_named hnamed hy).symm.trans q2
  cases hnamed.symm.trans q3
  have hselP : selectMethod e.platform s.vm cellB.cls mk = .method mk := by rw [Launch.admits_selectMethod X.admits]; exact q4
  obtain ⟨vm₁, X₁, hstep₁⟩ := X.invokevirtual hexec hown hlink hnamed hmethM hstM hkP hkPi hy (a := b) (cell := cellB) hcell
    (fun z h => by rw [h] at hobj; cases hobj) hselP hmethM habM hkP hkPi (g := g) hg (argsL := argsL) (rest := rest) (hlen _ hsigM) hstack hdg
  rcases hK m meth c ⟨T.setVm vm₁, locs, cells, slots⟩ { g with stack := rest } (.invokevirtual index) mk (Value.ref b :: argsL).toArray X₁ hg hsize hdg hW (X₁.named hnamed) (hpre vm₁ X₁.warmed) with ⟨v, B, X', hpost, hsteps⟩ | ⟨q, B, X', hpost, hsteps⟩
  · exact Or.inl ⟨v, vm₁, B, X₁.warmed, X', hpost, fun target h => hstep₁ _ fun acts => by rw [doInvoke_state]; exact hsteps.trans h⟩
  · exact Or.inr ⟨q, vm₁, B, X₁.warmed, X', hpost, hstep₁ _ fun acts => by rw [doInvoke_state]; exact hsteps⟩
theorem vx_callSX (X : Stand p l e R s m args below meth c T locs cells slots) (hexec : p.tables.exec = Jvm.exec) {own : String} {index : Nat} {y : MethodName} {bytes : ByteArray} {maxL : Nat} {ret : Option FieldType} {hh : List (Nat × Nat × Nat × Nat)}
    (hown : s.vm.findClass own = some m.cls) (hlink : (Cond.methodLink own index y).before args s = true) (hstat : (Cond.static y).before args s = true) (hinit : (Cond.initialized y.cls).before args s = true)
    (hcode : (Cond.codeWith y bytes maxL ret hh).before args s = true) (hy : y.cls ≠ "java/lang/invoke/MethodHandle" ∧ y.cls ≠ "java/lang/invoke/VarHandle")
    {W9 : Nat} {Pre : Pt → Array Value → Prop} {Post : Pt → Array Value → Option Value → Pt → Prop} {PostX : Pt → Array Value → Addr → Pt → Prop} (hK : vx_Back l R p e below s args y 3 W9 Pre Post PostX)
    {g : JFrame} (hg : g.method = m) (hsize : g.locals.size = c.maxLocals) {argsL rest : List Value} (hlen : ∀ sig, parseMethodDescriptor y.desc = some sig → argsL.length = sig.parameters.length)
    (hstack : g.stack = argsL.reverse ++ rest) (hW : 2 * g.monitorRoom + (rest.map fun v => v.category).sum ≤ W9) (hdg : decode c.code g.pc = .ok (.invokestatic index, 3))
    (hpre : ∀ vm₁, s.WarmedH vm₁ → Pre ⟨T.setVm vm₁, locs, cells, slots⟩ argsL.toArray) :
    (∃ (v : Option Value) (vm₁ : Vm) (B : Pt), s.WarmedH vm₁ ∧ Stand p l e R s m args below meth c B.U B.locs B.cells B.slots ∧ Post ⟨T.setVm vm₁, locs, cells, slots⟩ argsL.toArray v B ∧
      ∀ target, Steps p.tables e below (B.U.setTop { g with pc := g.pc + 3, stack := v.toList ++ rest }) target → Steps p.tables e below (T.setTop g) target) ∨
    (∃ (q : Addr) (vm₁ : Vm) (B : Pt), s.WarmedH vm₁ ∧ Stand p l e R s m args below meth c B.U B.locs B.cells B.slots ∧ PostX ⟨T.setVm vm₁, locs, cells, slots⟩ argsL.toArray q B ∧
      Steps p.tables e below (T.setTop g) ((B.U.setTop { g with stack := rest }).pushFrame (.throwing q))) := by
  obtain ⟨mk, methM, cM, hnamed, hmethM, -, -, -, -, -, -, hsigM⟩ := Cond.codeWith_spec hcode
  have hstatic : methM.isStatic = true := Cond.static_spec hnamed hmethM hstat
  obtain ⟨kP, hkP, -⟩ := className_of_methodNamed hnamed
  have hinitP : kP.init = .initialized := Cond.initialized_spec (findClass_of_methodNamed hnamed) hkP hinit
  obtain ⟨vm₁, X₁, hstep₁⟩ := X.invokestatic hexec hown hlink hnamed hmethM hstatic hkP hinitP hy (g := g) hg (argsL := argsL) (rest := rest) (hlen _ hsigM) hstack hdg
  rcases hK m meth c ⟨T.setVm vm₁, locs, cells, slots⟩ { g with stack := rest } (.invokestatic index) mk argsL.toArray X₁ hg hsize hdg hW (X₁.named hnamed) (hpre vm₁ X₁.warmed) with ⟨v, B, X', hpost, hsteps⟩ | ⟨q, B, X', hpost, hsteps⟩
  · exact Or.inl ⟨v, vm₁, B, X₁.warmed, X', hpost, fun target h => hstep₁ _ fun acts => by rw [doInvoke_state]; exact hsteps.trans h⟩
  · exact Or.inr ⟨q, vm₁, B, X₁.warmed, X', hpost, hstep₁ _ fun acts => by rw [doInvoke_state]; exact hsteps⟩
theorem vx_callVW (X : Stand p l e R s m args below meth c T locs cells slots) (hexec : p.tables.exec = Jvm.exec) {own C : String} {index : Nat} {y : MethodName} {bytes : ByteArray} {maxL : Nat} {ret : Option FieldType} {hh : List (Nat × Nat × Nat × Nat)}
    (hown : s.vm.findClass own = some m.cls) (hlink : (Cond.methodLink own index y).before args s = true) (hinst : (Cond.instanceMethod y).before args s = true) (hsel : (Cond.selects C y y).before args s = true)
    (hcode : (Cond.codeWith y bytes maxL ret hh).before args s = true) (hy : y.cls ≠ "java/lang/invoke/MethodHandle" ∧ y.cls ≠ "java/lang/invoke/VarHandle")
    {W9 : Nat} {Pre : Pt → Array Value → Prop} {Post : Pt → Array Value → Option Value → Pt → Prop} (hK : Back l R p e below s args y 3 W9 Pre Post)
    {b : Addr} {cellB : Cell} (hcell : T.heap[b]? = some cellB) (hobj : cellB.vm.isStatics = false) (hcls : s.vm.findClass C = some cellB.cls)
    {g : JFrame} (hg : g.method = m) (hsize : g.locals.size = c.maxLocals) {argsL rest : List Value} (hlen : ∀ sig, parseMethodDescriptor y.desc = some sig → argsL.length = sig.parameters.length)
    (hstack : g.stack = argsL.reverse ++ .ref b :: rest) (hW : 2 * g.monitorRoom + (rest.map fun v => v.category).sum ≤ W9) (hdg : decode c.code g.pc = .ok (.invokevirtual index, 3))
    (hpre : ∀ vm₁, s.WarmedH vm₁ → Pre ⟨T.setVm vm₁, locs, cells, slots⟩ (Value.ref b :: argsL).toArray) :
    ∃ (v : Option Value) (vm₁ : Vm) (B : Pt), s.WarmedH vm₁ ∧ Stand p l e R s m args below meth c B.U B.locs B.cells B.slots ∧ Post ⟨T.setVm vm₁, locs, cells, slots⟩ (Value.ref b :: argsL).toArray v B ∧
      ∀ target, Steps p.tables e below (B.U.setTop { g with pc := g.pc + 3, stack := v.toList ++ rest }) target → Steps p.tables e below (T.setTop g) target := by
  obtain ⟨mk, methM, hnamed, hmethM, hstM, habM⟩ := Cond.instanceMethod_spec hinst
  obtain ⟨m8, methM', cM, hn8, hmethM', -, -, -, -, -, -, hsigM⟩ := Cond.codeWith_spec hcode
  cases Option.some.inj (hn8.symm.trans hnamed)
  cases hmethM.symm.trans hmethM'
  obtain ⟨c2, r2, m2, q1, q2, q3, q4, kP, hkP, hkPi⟩ := Cond.selects_spec hsel
  cases hcls.symm.trans q1
  cases (State.methodFound?_of_named hnamed hy).symm.trans q2
  cases hnamed.symm.trans q3
  have hselP : selectMethod e.platform s.vm cellB.cls mk = .method mk := by rw [Launch.admits_selectMethod X.admits]; exact q4
  obtain ⟨vm₁, X₁, hstep₁⟩ := X.invokevirtual hexec hown hlink hnamed hmethM hstM hkP hkPi hy (a := b) (cell := cellB) hcell
    (fun z h => by rw [h] at hobj; cases hobj) hselP hmethM habM hkP hkPi (g := g) hg (argsL := argsL) (rest := rest) (hlen _ hsigM) hstack hdg
  obtain ⟨v, B, X', hpost, hsteps⟩ := hK m meth c ⟨T.setVm vm₁, locs, cells, slots⟩ { g with stack := rest } (.invokevirtual index) mk (Value.ref b :: argsL).toArray X₁ hg hsize hdg hW (X₁.named hnamed) (hpre vm₁ X₁.warmed)
  exact ⟨v, vm₁, B, X₁.warmed, X', hpost, fun target h => hstep₁ _ fun acts => by rw [doInvoke_state]; exact hsteps.trans h⟩
abbrev vx_CVW (R : Room) (s : State) (args : Array Value) (own C : String) (index : Nat) (y : MethodName) (bytes : ByteArray) (maxL : Nat) (ret : Option FieldType) (hh : List (Nat × Nat × Nat × Nat)) (ws : List Cond) (rm : Room) (mc ms n : Nat) : Prop :=
  (rm.cells = mc ∧ rm.slots = ms ∧ rm.frames + 1 ≤ R.frames ∧ 8 + (maxL + 11) + rm.locals ≤ R.locals ∧ (∀ w ∈ ws, ∀ (a' : Array Value) (U : State), s.WarmedH U.vm → w.before a' U = true) ∧ Cond.codeWith y bytes maxL ret hh ∈ ws) ∧
  (Cond.codeWith y bytes maxL ret hh).before args s = true ∧ (Cond.initialized y.cls).before args s = true ∧ (y.cls ≠ "java/lang/invoke/MethodHandle" ∧ y.cls ≠ "java/lang/invoke/VarHandle") ∧
  (∀ sig, parseMethodDescriptor y.desc = some sig → n = sig.parameters.length) ∧ (Cond.methodLink own index y).before args s = true ∧ (Cond.instanceMethod y).before args s = true ∧ (Cond.selects C y y).before args s = true
theorem vx_cwVW {own C : String} {index maxL mc ms : Nat} {y : MethodName} {bytes : ByteArray} {ret : Option FieldType} {hh : List (Nat × Nat × Nat × Nat)} {Ts ws ws' : List Cond} {rm : Room} (n : Nat) (ht : ∀ w ∈ Ts, w.before args s = true) (hT : GoodIn Ts (wsV own index C y ws)) (hw : ws = Cond.codeWith y bytes maxL ret hh :: ws') (hrc : rm.cells = mc) (hrs : rm.slots = ms)
    (hd : y.cls = C ∧ y.cls ≠ "java/lang/invoke/MethodHandle" ∧ y.cls ≠ "java/lang/invoke/VarHandle" ∧ (parseMethodDescriptor y.desc).map (fun d => d.parameters.length) = some n) (hR : rm.frames + 1 ≤ R.frames ∧ 8 + (maxL + 11) + rm.locals ≤ R.locals) :
    vx_CVW R s args own C index y bytes maxL ret hh ws rm mc ms n := by
  obtain ⟨hC, hd⟩ := hd
  subst hC
  have ok : ∀ w ∈ wsV own index y.cls y ws, w.before args s = true := fun w h => ht w (hT w h).1
  have hG : GoodIn Ts ws := fun w h => hT w (by unfold wsV; exact List.mem_append_right _ h)
  have hc : Cond.codeWith y bytes maxL ret hh ∈ ws := by rw [hw]; exact List.mem_cons_self
  refine ⟨⟨hrc, hrs, hR.1, hR.2, pay_in ht hG, hc⟩, ht _ (hG _ hc).1, ok _ (by simp [wsV]), ⟨hd.1, hd.2.1⟩, fun sig h => ?_, ok _ (by simp [wsV]), ok _ (by simp [wsV]), ok _ (by simp [wsV])⟩
  have h2 := hd.2.2
  rw [h] at h2
  exact (Option.some.inj h2).symm
theorem vx_runVW {y : MethodName} {bytes cc : ByteArray} {maxL nL mc ms n index : Nat} {ret : Option FieldType} {hh : List (Nat × Nat × Nat × Nat)} {ws : List Cond} {rm : Room} {Pc : Array Value → State → Prop} {Qc : Array Value → State → Outcome → State → Prop} {free : Addr → Prop} {Ts : List Cond} {own C : String} {b : Addr} {As rest : List Value} {g : JFrame}
    (S : CallFix p m c cc nL s args Ts own) (hM : Met l y ws rm Pc Qc mc ms free) (cw : vx_CVW R s args own C index y bytes maxL ret hh ws rm mc ms n) (hp : PreV s H C b Pc As)
    (hg : g.method = m) (hn : As.length = n) (hsize : g.locals.size = nL) (hstack : g.stack = As.reverse ++ .ref b :: rest) (hW : 2 * g.monitorRoom + (rest.map fun v => v.category).sum ≤ 8) (hdg : decode cc g.pc = .ok (.invokevirtual index, 3)) (hf : cells + mc ≤ R.cells ∧ slots + ms ≤ R.slots) :
    va_Run p l e R s m args below meth c H locs cells slots mc ms g rest (Qc (Value.ref b :: As).toArray) free := by
  obtain ⟨⟨hrc, hrs, hfr, hlo, hws, hcw⟩, hcode, hini, hy, hlen, hl, hin, hse⟩ := cw
  have hK : Back l R p e below s args y 3 8 (PreOf R mc ms Pc) (PostOf Qc mc ms free) := va_backW (hh := hh) (bytes := bytes) (maxL := maxL) (ret := ret) hM hp.1 hrc hrs hfr hlo hws hcw (fun a' U hW => word_at hW (Or.inl (by first | rfl | simp [Cond.onTables, Cond.keeps, Cond.steady])) hini)
  obtain ⟨hx, hb, hml, ho, -⟩ := S
  obtain ⟨-, ⟨cellB, hcB, hoB, hclB⟩, hPc⟩ := hp
  intro T hT X
  obtain ⟨v, vm₁, ⟨U', l2, c2, s2⟩, hW₁, X', ⟨g', mk, t, L, e1, e2, hq, h1, hL, h2, h3⟩, st⟩ := vx_callVW X hx (C := C) (hh := hh) (bytes := bytes) (maxL := maxL) (ret := ret) ho hl hin hse hcode hy hK (by rw [hT]; exact hcB) hoB hclB hg (hsize.trans hml.symm) (argsL := As) (rest := rest) (fun sig h => hn.trans (hlen sig h)) hstack hW (by rw [hb]; exact hdg)
    (fun vm₁ hW₁ => ⟨hf.1, hf.2, hPc (T.setVm vm₁) hT hW₁⟩)
  dsimp only [Pt.U, Pt.locs, Pt.cells, Pt.slots] at X' e1 e2 h1 h2 h3 st
  subst h1; subst h2; subst h3
  exact ⟨v, (T.setVm vm₁).calling g' mk (Value.ref b :: As).toArray, t, U', L, hT, X', hL, e1, e2, hq, st⟩
section
variable {y : MethodName} {bytes cc : ByteArray} {maxL nL mc ms n index : Nat} {ret : Option FieldType} {ws : List Cond} {rm : Room} {Pc : Array Value → State → Prop} {Qc : Array Value → State → Outcome → State → Prop} {XC : String → State → State → Prop} {free : Addr → Prop} {Ts : List Cond} {own C : String} {b : Addr} {As rest : List Value} {g : JFrame}
theorem vx_runVX {hh : List (Nat × Nat × Nat × Nat)} (S : CallFix p m c cc nL s args Ts own) (hM : vx_Met l y ws rm Pc Qc XC mc ms free) (cw : vx_CVW R s args own C index y bytes maxL ret hh ws rm mc ms n) (hp : PreV s H C b Pc As)
    (hg : g.method = m) (hn : As.length = n) (hsize : g.locals.size = nL) (hstack : g.stack = As.reverse ++ .ref b :: rest) (hW : 2 * g.monitorRoom + (rest.map fun v => v.category).sum ≤ 8) (hdg : decode cc g.pc = .ok (.invokevirtual index, 3)) (hf : cells + mc ≤ R.cells ∧ slots + ms ≤ R.slots) :
    vx_Run p l e R s m args below meth c H locs cells slots mc ms g rest (Qc (Value.ref b :: As).toArray) XC free := by
  obtain ⟨⟨hrc, hrs, hfr, hlo, hws, hcw⟩, hcode, hini, hy, hlen, hl, hin, hse⟩ := cw
  have hK : vx_Back l R p e below s args y 3 8 (PreOf R mc ms Pc) (PostOf Qc mc ms free) (vx_Post XC mc ms free) := vx_backW (hh := hh) (bytes := bytes) (maxL := maxL) (ret := ret) hM hp.1 hrc hrs hfr hlo hws hcw (fun a' U hW => word_at hW (Or.inl (by first | rfl | simp [Cond.onTables, Cond.keeps, Cond.steady])) hini)
  obtain ⟨hx, hb, hml, ho, -⟩ := S
  obtain ⟨-, ⟨cellB, hcB, hoB, hclB⟩, hPc⟩ := hp
  intro T hT X
  rcases vx_callVX X hx (C := C) (hh := hh) (bytes := bytes) (maxL := maxL) (ret := ret) ho hl hin hse hcode hy hK (by rw [hT]; exact hcB) hoB hclB hg (hsize.trans hml.symm) (argsL := As) (rest := rest) (fun sig h => hn.trans (hlen sig h)) hstack hW (by rw [hb]; exact hdg)
    (fun vm₁ hW₁ => ⟨hf.1, hf.2, hPc (T.setVm vm₁) hT hW₁⟩) with ⟨v, vm₁, ⟨U', l2, c2, s2⟩, hW₁, X', ⟨g', mk, t, L, e1, e2, hq, h1, hL, h2, h3⟩, st⟩ | ⟨q, vm₁, ⟨U', l2, c2, s2⟩, hW₁, X', ⟨g', mk, t, L, E, ce, e1, e2, hq, hce, hcv, hcl, h1, hL, h2, h3⟩, st⟩
  · dsimp only [Pt.U, Pt.locs, Pt.cells, Pt.slots] at X' e1 e2 h1 h2 h3 st
    subst h1; subst h2; subst h3
    exact Or.inl ⟨v, (T.setVm vm₁).calling g' mk (Value.ref b :: As).toArray, t, U', L, hT, X', hL, e1, e2, hq, st⟩
  · dsimp only [Pt.U, Pt.locs, Pt.cells, Pt.slots] at X' e1 e2 h1 h2 h3 st hcl
    subst h1; subst h2; subst h3
    exact Or.inr ⟨q, (T.setVm vm₁).calling g' mk (Value.ref b :: As).toArray, t, U', L, E, ce, hT, X', hL, e1, e2, hq, hce, hcv, vx_cls hW₁ hcl, st⟩
theorem vx_runSX {hh : List (Nat × Nat × Nat × Nat)} (S : CallFix p m c cc nL s args Ts own) (hM : vx_Met l y ws rm Pc Qc XC mc ms free) (cw : vx_CSW R s args own index y bytes maxL ret hh ws rm mc ms n) (hp : PreS s H Pc As)
    (hg : g.method = m) (hn : As.length = n) (hsize : g.locals.size = nL) (hstack : g.stack = As.reverse ++ rest) (hW : 2 * g.monitorRoom + (rest.map fun v => v.category).sum ≤ 8) (hdg : decode cc g.pc = .ok (.invokestatic index, 3)) (hf : cells + mc ≤ R.cells ∧ slots + ms ≤ R.slots) :
    vx_Run p l e R s m args below meth c H locs cells slots mc ms g rest (Qc As.toArray) XC free := by
  obtain ⟨⟨hrc, hrs, hfr, hlo, hws, hcw⟩, hcode, hini, hy, hlen, hl, hstt⟩ := cw
  have hK : vx_Back l R p e below s args y 3 8 (PreOf R mc ms Pc) (PostOf Qc mc ms free) (vx_Post XC mc ms free) := vx_backW (hh := hh) (bytes := bytes) (maxL := maxL) (ret := ret) hM hp.1 hrc hrs hfr hlo hws hcw (fun a' U hW => word_at hW (Or.inl (by first | rfl | simp [Cond.onTables, Cond.keeps, Cond.steady])) hini)
  obtain ⟨hx, hb, hml, ho, -⟩ := S
  intro T hT X
  rcases vx_callSX X hx (hh := hh) (bytes := bytes) (maxL := maxL) (ret := ret) ho hl hstt hini hcode hy hK hg (hsize.trans hml.symm) (argsL := As) (rest := rest) (fun sig h => hn.trans (hlen sig h)) hstack hW (by rw [hb]; exact hdg)
    (fun vm₁ hW₁ => ⟨hf.1, hf.2, hp.2 (T.setVm vm₁) hT hW₁⟩) with ⟨v, vm₁, ⟨U', l2, c2, s2⟩, hW₁, X', ⟨g', mk, t, L, e1, e2, hq, h1, hL, h2, h3⟩, st⟩ | ⟨q, vm₁, ⟨U', l2, c2, s2⟩, hW₁, X', ⟨g', mk, t, L, E, ce, e1, e2, hq, hce, hcv, hcl, h1, hL, h2, h3⟩, st⟩
  · dsimp only [Pt.U, Pt.locs, Pt.cells, Pt.slots] at X' e1 e2 h1 h2 h3 st
    subst h1; subst h2; subst h3
    exact Or.inl ⟨v, (T.setVm vm₁).calling g' mk As.toArray, t, U', L, hT, X', hL, e1, e2, hq, st⟩
  · dsimp only [Pt.U, Pt.locs, Pt.cells, Pt.slots] at X' e1 e2 h1 h2 h3 st hcl
    subst h1; subst h2; subst h3
    exact Or.inr ⟨q, (T.setVm vm₁).calling g' mk As.toArray, t, U', L, E, ce, hT, X', hL, e1, e2, hq, hce, hcv, vx_cls hW₁ hcl, st⟩
end
end VXH
theorem vx_ofWH {l : Launch} {y : MethodName} {ws ws' : List Cond} {rm : Room} {Pc : Array Value → State → Prop} {Qc : Array Value → State → Outcome → State → Prop} {XC : String → State → State → Prop} {mc ms : Nat} {free : Addr → Prop} {cc : ByteArray} {maxL : Nat} {ret : Option FieldType} {hh : List (Nat × Nat × Nat × Nat)}
    (hy : plainName y.cls = true) (hw : ws = Cond.codeWith y cc maxL ret hh :: ws')
    (body : ∀ p e s m args below meth c s₁, BodyLoose p l y (headSpec ws rm) cc maxL ret e s m args below meth c s₁ → c.maxLocals = maxL → Pc args s →
      W p l e (headSpec ws rm).room s m args below meth c s.heap [] 0 0 (vx_MQ below Qc XC args s mc ms free) (entryFrame m args maxL)) : vx_Met l y ws rm Pc Qc XC mc ms free := by
  refine MetFree.of_bodyS (code := cc) (maxLocals := maxL) (ret := ret) hy ?_ ?_
  · intro args s m h hn
    obtain ⟨m9, meth, c, hn9, h1, h2, h3, h4, -, h5, h6, -⟩ := Cond.codeWith_spec (atoms_spec (ws := ws) h _ (by rw [hw]; exact List.mem_cons_self))
    cases hn.symm.trans hn9
    exact ⟨meth, c, h1, h2, h3, h4, h5, h6⟩
  · intro p e s m args below meth c s₁ B hml hP _
    have hh0 : s₁.heap = s.heap := by rw [B.state]; rfl
    obtain ⟨t, a1, o, b1, b2, b3⟩ := body p e s m args below meth c s₁ B hml hP s₁ hh0 (Stand.of_body B)
    exact ⟨t, o, a1, b1, b2, b3⟩
/-! ===== END ===== -/
end
section
-- ===== PART A: goes FIRST, ahead of the names: the tables' words, and 'selects' of the private methods out of them =====
/-- a private method of a class that the tables say can be made, by its rows of tables_1 -/
def lw_okq (q : MethodName × Nat) : Prop := (q.1.cls ≠ "java/lang/invoke/MethodHandle" ∧ q.1.cls ≠ "java/lang/invoke/VarHandle") ∧ Cond.instantiable q.1.cls q.2 ∈ tables_1 ∧ Cond.privateMethod q.1 ∈ tables_1 ∧ Cond.instanceMethod q.1 ∈ tables_1
theorem lw_p0 : lw_okq (⟨"ServiceBudgets$Graph", "fillDirect", "(LServiceBudgets$State;)V"⟩, 5) := ⟨⟨by decide +kernel, by decide +kernel⟩, List.mem_of_getElem? (i := 87) (by decide +kernel), List.mem_of_getElem? (i := 267) (by decide +kernel), List.mem_of_getElem? (i := 268) (by decide +kernel)⟩
theorem lw_p1 : lw_okq (⟨"ServiceBudgets$Graph", "lowestNext", "(LServiceBudgets$State;I)I"⟩, 5) := ⟨⟨by decide +kernel, by decide +kernel⟩, List.mem_of_getElem? (i := 87) (by decide +kernel), List.mem_of_getElem? (i := 271) (by decide +kernel), List.mem_of_getElem? (i := 272) (by decide +kernel)⟩
theorem lw_p2 : lw_okq (⟨"ServiceBudgets$Graph", "boundOf", "(LServiceBudgets$State;I)I"⟩, 5) := ⟨⟨by decide +kernel, by decide +kernel⟩, List.mem_of_getElem? (i := 87) (by decide +kernel), List.mem_of_getElem? (i := 291) (by decide +kernel), List.mem_of_getElem? (i := 292) (by decide +kernel)⟩
theorem lw_p3 : lw_okq (⟨"ServiceBudgets$History", "dropOldest", "()V"⟩, 2) := ⟨⟨by decide +kernel, by decide +kernel⟩, List.mem_of_getElem? (i := 70) (by decide +kernel), List.mem_of_getElem? (i := 315) (by decide +kernel), List.mem_of_getElem? (i := 316) (by decide +kernel)⟩
theorem lw_p4 : lw_okq (⟨"ServiceBudgets$Graph", "limitCallsTo", "(LServiceBudgets$State;II)I"⟩, 5) := ⟨⟨by decide +kernel, by decide +kernel⟩, List.mem_of_getElem? (i := 87) (by decide +kernel), List.mem_of_getElem? (i := 330) (by decide +kernel), List.mem_of_getElem? (i := 331) (by decide +kernel)⟩
theorem lw_p5 : lw_okq (⟨"ServiceBudgets$Recovery", "fillBefore", "(LServiceBudgets$State;)I"⟩, 4) := ⟨⟨by decide +kernel, by decide +kernel⟩, List.mem_of_getElem? (i := 162) (by decide +kernel), List.mem_of_getElem? (i := 358) (by decide +kernel), List.mem_of_getElem? (i := 359) (by decide +kernel)⟩
theorem lw_p6 : lw_okq (⟨"ServiceBudgets$State", "calleesOf", "(I)I"⟩, 4) := ⟨⟨by decide +kernel, by decide +kernel⟩, List.mem_of_getElem? (i := 31) (by decide +kernel), List.mem_of_getElem? (i := 368) (by decide +kernel), List.mem_of_getElem? (i := 369) (by decide +kernel)⟩
theorem lw_p7 : lw_okq (⟨"ServiceBudgets$Recovery", "settle", "(LServiceBudgets$State;II)I"⟩, 4) := ⟨⟨by decide +kernel, by decide +kernel⟩, List.mem_of_getElem? (i := 162) (by decide +kernel), List.mem_of_getElem? (i := 373) (by decide +kernel), List.mem_of_getElem? (i := 374) (by decide +kernel)⟩
theorem lw_p8 : lw_okq (⟨"ServiceBudgets$Text", "parseCommand", "(II)I"⟩, 4) := ⟨⟨by decide +kernel, by decide +kernel⟩, List.mem_of_getElem? (i := 202) (by decide +kernel), List.mem_of_getElem? (i := 411) (by decide +kernel), List.mem_of_getElem? (i := 412) (by decide +kernel)⟩
theorem lw_p9 : lw_okq (⟨"ServiceBudgets$Text", "endOfDigits", "(I)I"⟩, 4) := ⟨⟨by decide +kernel, by decide +kernel⟩, List.mem_of_getElem? (i := 202) (by decide +kernel), List.mem_of_getElem? (i := 421) (by decide +kernel), List.mem_of_getElem? (i := 422) (by decide +kernel)⟩
theorem lw_p10 : lw_okq (⟨"ServiceBudgets$Text", "valueOf", "(II)I"⟩, 4) := ⟨⟨by decide +kernel, by decide +kernel⟩, List.mem_of_getElem? (i := 202) (by decide +kernel), List.mem_of_getElem? (i := 425) (by decide +kernel), List.mem_of_getElem? (i := 426) (by decide +kernel)⟩
theorem lw_p11 : lw_okq (⟨"ServiceBudgets$State", "lastHeadOf", "(I)I"⟩, 4) := ⟨⟨by decide +kernel, by decide +kernel⟩, List.mem_of_getElem? (i := 31) (by decide +kernel), List.mem_of_getElem? (i := 457) (by decide +kernel), List.mem_of_getElem? (i := 458) (by decide +kernel)⟩
theorem lw_p12 : lw_okq (⟨"ServiceBudgets$State", "isGroupWithin", "(II)Z"⟩, 4) := ⟨⟨by decide +kernel, by decide +kernel⟩, List.mem_of_getElem? (i := 31) (by decide +kernel), List.mem_of_getElem? (i := 517) (by decide +kernel), List.mem_of_getElem? (i := 518) (by decide +kernel)⟩
theorem lw_p13 : lw_okq (⟨"ServiceBudgets$State", "mend", "(IZ)V"⟩, 4) := ⟨⟨by decide +kernel, by decide +kernel⟩, List.mem_of_getElem? (i := 31) (by decide +kernel), List.mem_of_getElem? (i := 525) (by decide +kernel), List.mem_of_getElem? (i := 526) (by decide +kernel)⟩
theorem lw_p14 : lw_okq (⟨"ServiceBudgets$State", "changeStrain", "(IZ)V"⟩, 4) := ⟨⟨by decide +kernel, by decide +kernel⟩, List.mem_of_getElem? (i := 31) (by decide +kernel), List.mem_of_getElem? (i := 529) (by decide +kernel), List.mem_of_getElem? (i := 530) (by decide +kernel)⟩
theorem lw_p15 : lw_okq (⟨"ServiceBudgets$State", "countCallsOf", "(I)I"⟩, 4) := ⟨⟨by decide +kernel, by decide +kernel⟩, List.mem_of_getElem? (i := 31) (by decide +kernel), List.mem_of_getElem? (i := 549) (by decide +kernel), List.mem_of_getElem? (i := 550) (by decide +kernel)⟩
def lw_privs_1 : List (MethodName × Nat) := [(⟨"ServiceBudgets$Graph", "fillDirect", "(LServiceBudgets$State;)V"⟩, 5), (⟨"ServiceBudgets$Graph", "lowestNext", "(LServiceBudgets$State;I)I"⟩, 5), (⟨"ServiceBudgets$Graph", "boundOf", "(LServiceBudgets$State;I)I"⟩, 5), (⟨"ServiceBudgets$History", "dropOldest", "()V"⟩, 2), (⟨"ServiceBudgets$Graph", "limitCallsTo", "(LServiceBudgets$State;II)I"⟩, 5), (⟨"ServiceBudgets$Recovery", "fillBefore", "(LServiceBudgets$State;)I"⟩, 4), (⟨"ServiceBudgets$State", "calleesOf", "(I)I"⟩, 4), (⟨"ServiceBudgets$Recovery", "settle", "(LServiceBudgets$State;II)I"⟩, 4), (⟨"ServiceBudgets$Text", "parseCommand", "(II)I"⟩, 4), (⟨"ServiceBudgets$Text", "endOfDigits", "(I)I"⟩, 4), (⟨"ServiceBudgets$Text", "valueOf", "(II)I"⟩, 4), (⟨"ServiceBudgets$State", "lastHeadOf", "(I)I"⟩, 4), (⟨"ServiceBudgets$State", "isGroupWithin", "(II)Z"⟩, 4), (⟨"ServiceBudgets$State", "mend", "(IZ)V"⟩, 4), (⟨"ServiceBudgets$State", "changeStrain", "(IZ)V"⟩, 4), (⟨"ServiceBudgets$State", "countCallsOf", "(I)I"⟩, 4)]
theorem lw_r1 : ∀ q ∈ lw_privs_1, lw_okq q := List.forall_mem_cons.mpr ⟨lw_p0, List.forall_mem_cons.mpr ⟨lw_p1, List.forall_mem_cons.mpr ⟨lw_p2, List.forall_mem_cons.mpr ⟨lw_p3, List.forall_mem_cons.mpr ⟨lw_p4, List.forall_mem_cons.mpr ⟨lw_p5, List.forall_mem_cons.mpr ⟨lw_p6, List.forall_mem_cons.mpr ⟨lw_p7, List.forall_mem_cons.mpr ⟨lw_p8, List.forall_mem_cons.mpr ⟨lw_p9, List.forall_mem_cons.mpr ⟨lw_p10, List.forall_mem_cons.mpr ⟨lw_p11, List.forall_mem_cons.mpr ⟨lw_p12, List.forall_mem_cons.mpr ⟨lw_p13, List.forall_mem_cons.mpr ⟨lw_p14, List.forall_mem_cons.mpr ⟨lw_p15, fun _ h => absurd h List.not_mem_nil⟩⟩⟩⟩⟩⟩⟩⟩⟩⟩⟩⟩⟩⟩⟩⟩
theorem lw_p16 : lw_okq (⟨"ServiceBudgets$Recovery", "overAt", "(LServiceBudgets$State;II)I"⟩, 4) := ⟨⟨by decide +kernel, by decide +kernel⟩, List.mem_of_getElem? (i := 162) (by decide +kernel), List.mem_of_getElem? (i := 557) (by decide +kernel), List.mem_of_getElem? (i := 558) (by decide +kernel)⟩
theorem lw_p17 : lw_okq (⟨"ServiceBudgets$Recovery", "mostImportant", "(LServiceBudgets$State;II)I"⟩, 4) := ⟨⟨by decide +kernel, by decide +kernel⟩, List.mem_of_getElem? (i := 162) (by decide +kernel), List.mem_of_getElem? (i := 561) (by decide +kernel), List.mem_of_getElem? (i := 562) (by decide +kernel)⟩
theorem lw_p18 : lw_okq (⟨"ServiceBudgets$Recovery", "nextEnd", "(LServiceBudgets$State;I)I"⟩, 4) := ⟨⟨by decide +kernel, by decide +kernel⟩, List.mem_of_getElem? (i := 162) (by decide +kernel), List.mem_of_getElem? (i := 565) (by decide +kernel), List.mem_of_getElem? (i := 566) (by decide +kernel)⟩
theorem lw_p19 : lw_okq (⟨"java/lang/Throwable", "fillInStackTrace", "(I)Ljava/lang/Throwable;"⟩, 6) := ⟨⟨by decide +kernel, by decide +kernel⟩, List.mem_of_getElem? (i := 620) (by decide +kernel), List.mem_of_getElem? (i := 618) (by decide +kernel), List.mem_of_getElem? (i := 619) (by decide +kernel)⟩
theorem lw_p20 : lw_okq (⟨"ServiceBudgets$Graph", "chainOf", "(LServiceBudgets$State;I)I"⟩, 5) := ⟨⟨by decide +kernel, by decide +kernel⟩, List.mem_of_getElem? (i := 87) (by decide +kernel), List.mem_of_getElem? (i := 770) (by decide +kernel), List.mem_of_getElem? (i := 771) (by decide +kernel)⟩
theorem lw_p21 : lw_okq (⟨"ServiceBudgets$Request", "noteTry", "(III)I"⟩, 10) := ⟨⟨by decide +kernel, by decide +kernel⟩, List.mem_of_getElem? (i := 111) (by decide +kernel), List.mem_of_getElem? (i := 830) (by decide +kernel), List.mem_of_getElem? (i := 831) (by decide +kernel)⟩
theorem lw_p22 : lw_okq (⟨"ServiceBudgets$Request", "blamed", "()I"⟩, 10) := ⟨⟨by decide +kernel, by decide +kernel⟩, List.mem_of_getElem? (i := 111) (by decide +kernel), List.mem_of_getElem? (i := 872) (by decide +kernel), List.mem_of_getElem? (i := 873) (by decide +kernel)⟩
theorem lw_p23 : lw_okq (⟨"ServiceBudgets$BudgetSearch", "keepOutcomes", "(LServiceBudgets$State;II)V"⟩, 1) := ⟨⟨by decide +kernel, by decide +kernel⟩, List.mem_of_getElem? (i := 152) (by decide +kernel), List.mem_of_getElem? (i := 916) (by decide +kernel), List.mem_of_getElem? (i := 917) (by decide +kernel)⟩
theorem lw_p24 : lw_okq (⟨"ServiceBudgets$FailureSets", "addGroup", "(LServiceBudgets$State;II)V"⟩, 3) := ⟨⟨by decide +kernel, by decide +kernel⟩, List.mem_of_getElem? (i := 182) (by decide +kernel), List.mem_of_getElem? (i := 1031) (by decide +kernel), List.mem_of_getElem? (i := 1032) (by decide +kernel)⟩
theorem lw_p25 : lw_okq (⟨"ServiceBudgets$FailureSets", "isCut", "(LServiceBudgets$State;II)Z"⟩, 3) := ⟨⟨by decide +kernel, by decide +kernel⟩, List.mem_of_getElem? (i := 182) (by decide +kernel), List.mem_of_getElem? (i := 1041) (by decide +kernel), List.mem_of_getElem? (i := 1042) (by decide +kernel)⟩
theorem lw_p26 : lw_okq (⟨"ServiceBudgets$FailureSets", "isFailing", "(II)Z"⟩, 3) := ⟨⟨by decide +kernel, by decide +kernel⟩, List.mem_of_getElem? (i := 182) (by decide +kernel), List.mem_of_getElem? (i := 1045) (by decide +kernel), List.mem_of_getElem? (i := 1046) (by decide +kernel)⟩
theorem lw_p27 : lw_okq (⟨"ServiceBudgets$FailureSets", "fillChances", "(LServiceBudgets$State;I)V"⟩, 3) := ⟨⟨by decide +kernel, by decide +kernel⟩, List.mem_of_getElem? (i := 182) (by decide +kernel), List.mem_of_getElem? (i := 1071) (by decide +kernel), List.mem_of_getElem? (i := 1072) (by decide +kernel)⟩
theorem lw_p28 : lw_okq (⟨"ServiceBudgetsModel", "hold", "()V"⟩, 44) := ⟨⟨by decide +kernel, by decide +kernel⟩, List.mem_of_getElem? (i := 1123) (by decide +kernel), List.mem_of_getElem? (i := 1271) (by decide +kernel), List.mem_of_getElem? (i := 1272) (by decide +kernel)⟩
theorem lw_p29 : lw_okq (⟨"ServiceBudgetsModel", "addsService", "(I)I"⟩, 44) := ⟨⟨by decide +kernel, by decide +kernel⟩, List.mem_of_getElem? (i := 1123) (by decide +kernel), List.mem_of_getElem? (i := 1275) (by decide +kernel), List.mem_of_getElem? (i := 1276) (by decide +kernel)⟩
theorem lw_p30 : lw_okq (⟨"ServiceBudgetsModel", "puts", "(III)V"⟩, 44) := ⟨⟨by decide +kernel, by decide +kernel⟩, List.mem_of_getElem? (i := 1123) (by decide +kernel), List.mem_of_getElem? (i := 1282) (by decide +kernel), List.mem_of_getElem? (i := 1283) (by decide +kernel)⟩
theorem lw_p31 : lw_okq (⟨"ServiceBudgetsModel", "done", "(I)I"⟩, 44) := ⟨⟨by decide +kernel, by decide +kernel⟩, List.mem_of_getElem? (i := 1123) (by decide +kernel), List.mem_of_getElem? (i := 1286) (by decide +kernel), List.mem_of_getElem? (i := 1287) (by decide +kernel)⟩
def lw_privs_2 : List (MethodName × Nat) := [(⟨"ServiceBudgets$Recovery", "overAt", "(LServiceBudgets$State;II)I"⟩, 4), (⟨"ServiceBudgets$Recovery", "mostImportant", "(LServiceBudgets$State;II)I"⟩, 4), (⟨"ServiceBudgets$Recovery", "nextEnd", "(LServiceBudgets$State;I)I"⟩, 4), (⟨"java/lang/Throwable", "fillInStackTrace", "(I)Ljava/lang/Throwable;"⟩, 6), (⟨"ServiceBudgets$Graph", "chainOf", "(LServiceBudgets$State;I)I"⟩, 5), (⟨"ServiceBudgets$Request", "noteTry", "(III)I"⟩, 10), (⟨"ServiceBudgets$Request", "blamed", "()I"⟩, 10), (⟨"ServiceBudgets$BudgetSearch", "keepOutcomes", "(LServiceBudgets$State;II)V"⟩, 1), (⟨"ServiceBudgets$FailureSets", "addGroup", "(LServiceBudgets$State;II)V"⟩, 3), (⟨"ServiceBudgets$FailureSets", "isCut", "(LServiceBudgets$State;II)Z"⟩, 3), (⟨"ServiceBudgets$FailureSets", "isFailing", "(II)Z"⟩, 3), (⟨"ServiceBudgets$FailureSets", "fillChances", "(LServiceBudgets$State;I)V"⟩, 3), (⟨"ServiceBudgetsModel", "hold", "()V"⟩, 44), (⟨"ServiceBudgetsModel", "addsService", "(I)I"⟩, 44), (⟨"ServiceBudgetsModel", "puts", "(III)V"⟩, 44), (⟨"ServiceBudgetsModel", "done", "(I)I"⟩, 44)]
theorem lw_r2 : ∀ q ∈ lw_privs_2, lw_okq q := List.forall_mem_cons.mpr ⟨lw_p16, List.forall_mem_cons.mpr ⟨lw_p17, List.forall_mem_cons.mpr ⟨lw_p18, List.forall_mem_cons.mpr ⟨lw_p19, List.forall_mem_cons.mpr ⟨lw_p20, List.forall_mem_cons.mpr ⟨lw_p21, List.forall_mem_cons.mpr ⟨lw_p22, List.forall_mem_cons.mpr ⟨lw_p23, List.forall_mem_cons.mpr ⟨lw_p24, List.forall_mem_cons.mpr ⟨lw_p25, List.forall_mem_cons.mpr ⟨lw_p26, List.forall_mem_cons.mpr ⟨lw_p27, List.forall_mem_cons.mpr ⟨lw_p28, List.forall_mem_cons.mpr ⟨lw_p29, List.forall_mem_cons.mpr ⟨lw_p30, List.forall_mem_cons.mpr ⟨lw_p31, fun _ h => absurd h List.not_mem_nil⟩⟩⟩⟩⟩⟩⟩⟩⟩⟩⟩⟩⟩⟩⟩⟩
theorem lw_p32 : lw_okq (⟨"ServiceBudgetsModel", "fails", "(I)I"⟩, 44) := ⟨⟨by decide +kernel, by decide +kernel⟩, List.mem_of_getElem? (i := 1123) (by decide +kernel), List.mem_of_getElem? (i := 1290) (by decide +kernel), List.mem_of_getElem? (i := 1291) (by decide +kernel)⟩
theorem lw_p33 : lw_okq (⟨"ServiceBudgetsModel", "ends", "(I)I"⟩, 44) := ⟨⟨by decide +kernel, by decide +kernel⟩, List.mem_of_getElem? (i := 1123) (by decide +kernel), List.mem_of_getElem? (i := 1294) (by decide +kernel), List.mem_of_getElem? (i := 1295) (by decide +kernel)⟩
theorem lw_p34 : lw_okq (⟨"ServiceBudgetsModel", "tells", "(I)I"⟩, 44) := ⟨⟨by decide +kernel, by decide +kernel⟩, List.mem_of_getElem? (i := 1123) (by decide +kernel), List.mem_of_getElem? (i := 1298) (by decide +kernel), List.mem_of_getElem? (i := 1299) (by decide +kernel)⟩
theorem lw_p35 : lw_okq (⟨"ServiceBudgetsModel", "addsCall", "(IIIII)I"⟩, 44) := ⟨⟨by decide +kernel, by decide +kernel⟩, List.mem_of_getElem? (i := 1123) (by decide +kernel), List.mem_of_getElem? (i := 1306) (by decide +kernel), List.mem_of_getElem? (i := 1307) (by decide +kernel)⟩
theorem lw_p36 : lw_okq (⟨"ServiceBudgetsModel", "isService", "(I)Z"⟩, 44) := ⟨⟨by decide +kernel, by decide +kernel⟩, List.mem_of_getElem? (i := 1123) (by decide +kernel), List.mem_of_getElem? (i := 1310) (by decide +kernel), List.mem_of_getElem? (i := 1311) (by decide +kernel)⟩
theorem lw_p37 : lw_okq (⟨"ServiceBudgetsModel", "dependsOn", "(II)Z"⟩, 44) := ⟨⟨by decide +kernel, by decide +kernel⟩, List.mem_of_getElem? (i := 1123) (by decide +kernel), List.mem_of_getElem? (i := 1314) (by decide +kernel), List.mem_of_getElem? (i := 1315) (by decide +kernel)⟩
theorem lw_p38 : lw_okq (⟨"ServiceBudgetsModel", "laysNeeds", "()V"⟩, 44) := ⟨⟨by decide +kernel, by decide +kernel⟩, List.mem_of_getElem? (i := 1123) (by decide +kernel), List.mem_of_getElem? (i := 1318) (by decide +kernel), List.mem_of_getElem? (i := 1319) (by decide +kernel)⟩
theorem lw_p39 : lw_okq (⟨"ServiceBudgetsModel", "caller", "(I)I"⟩, 44) := ⟨⟨by decide +kernel, by decide +kernel⟩, List.mem_of_getElem? (i := 1123) (by decide +kernel), List.mem_of_getElem? (i := 1322) (by decide +kernel), List.mem_of_getElem? (i := 1323) (by decide +kernel)⟩
theorem lw_p40 : lw_okq (⟨"ServiceBudgetsModel", "callOf", "(II)I"⟩, 44) := ⟨⟨by decide +kernel, by decide +kernel⟩, List.mem_of_getElem? (i := 1123) (by decide +kernel), List.mem_of_getElem? (i := 1326) (by decide +kernel), List.mem_of_getElem? (i := 1327) (by decide +kernel)⟩
theorem lw_p41 : lw_okq (⟨"ServiceBudgetsModel", "callee", "(I)I"⟩, 44) := ⟨⟨by decide +kernel, by decide +kernel⟩, List.mem_of_getElem? (i := 1123) (by decide +kernel), List.mem_of_getElem? (i := 1330) (by decide +kernel), List.mem_of_getElem? (i := 1331) (by decide +kernel)⟩
theorem lw_p42 : lw_okq (⟨"ServiceBudgetsModel", "callsOf", "(I)I"⟩, 44) := ⟨⟨by decide +kernel, by decide +kernel⟩, List.mem_of_getElem? (i := 1123) (by decide +kernel), List.mem_of_getElem? (i := 1334) (by decide +kernel), List.mem_of_getElem? (i := 1335) (by decide +kernel)⟩
theorem lw_p43 : lw_okq (⟨"ServiceBudgetsModel", "isCall", "(I)Z"⟩, 44) := ⟨⟨by decide +kernel, by decide +kernel⟩, List.mem_of_getElem? (i := 1123) (by decide +kernel), List.mem_of_getElem? (i := 1342) (by decide +kernel), List.mem_of_getElem? (i := 1343) (by decide +kernel)⟩
theorem lw_p44 : lw_okq (⟨"ServiceBudgetsModel", "leader", "(I)I"⟩, 44) := ⟨⟨by decide +kernel, by decide +kernel⟩, List.mem_of_getElem? (i := 1123) (by decide +kernel), List.mem_of_getElem? (i := 1346) (by decide +kernel), List.mem_of_getElem? (i := 1347) (by decide +kernel)⟩
theorem lw_p45 : lw_okq (⟨"ServiceBudgetsModel", "isReplacement", "(I)Z"⟩, 44) := ⟨⟨by decide +kernel, by decide +kernel⟩, List.mem_of_getElem? (i := 1123) (by decide +kernel), List.mem_of_getElem? (i := 1350) (by decide +kernel), List.mem_of_getElem? (i := 1351) (by decide +kernel)⟩
theorem lw_p46 : lw_okq (⟨"ServiceBudgetsModel", "changes", "(III)I"⟩, 44) := ⟨⟨by decide +kernel, by decide +kernel⟩, List.mem_of_getElem? (i := 1123) (by decide +kernel), List.mem_of_getElem? (i := 1358) (by decide +kernel), List.mem_of_getElem? (i := 1359) (by decide +kernel)⟩
theorem lw_p47 : lw_okq (⟨"ServiceBudgetsModel", "of", "(II)I"⟩, 44) := ⟨⟨by decide +kernel, by decide +kernel⟩, List.mem_of_getElem? (i := 1123) (by decide +kernel), List.mem_of_getElem? (i := 1365) (by decide +kernel), List.mem_of_getElem? (i := 1366) (by decide +kernel)⟩
def lw_privs_3 : List (MethodName × Nat) := [(⟨"ServiceBudgetsModel", "fails", "(I)I"⟩, 44), (⟨"ServiceBudgetsModel", "ends", "(I)I"⟩, 44), (⟨"ServiceBudgetsModel", "tells", "(I)I"⟩, 44), (⟨"ServiceBudgetsModel", "addsCall", "(IIIII)I"⟩, 44), (⟨"ServiceBudgetsModel", "isService", "(I)Z"⟩, 44), (⟨"ServiceBudgetsModel", "dependsOn", "(II)Z"⟩, 44), (⟨"ServiceBudgetsModel", "laysNeeds", "()V"⟩, 44), (⟨"ServiceBudgetsModel", "caller", "(I)I"⟩, 44), (⟨"ServiceBudgetsModel", "callOf", "(II)I"⟩, 44), (⟨"ServiceBudgetsModel", "callee", "(I)I"⟩, 44), (⟨"ServiceBudgetsModel", "callsOf", "(I)I"⟩, 44), (⟨"ServiceBudgetsModel", "isCall", "(I)Z"⟩, 44), (⟨"ServiceBudgetsModel", "leader", "(I)I"⟩, 44), (⟨"ServiceBudgetsModel", "isReplacement", "(I)Z"⟩, 44), (⟨"ServiceBudgetsModel", "changes", "(III)I"⟩, 44), (⟨"ServiceBudgetsModel", "of", "(II)I"⟩, 44)]
theorem lw_r3 : ∀ q ∈ lw_privs_3, lw_okq q := List.forall_mem_cons.mpr ⟨lw_p32, List.forall_mem_cons.mpr ⟨lw_p33, List.forall_mem_cons.mpr ⟨lw_p34, List.forall_mem_cons.mpr ⟨lw_p35, List.forall_mem_cons.mpr ⟨lw_p36, List.forall_mem_cons.mpr ⟨lw_p37, List.forall_mem_cons.mpr ⟨lw_p38, List.forall_mem_cons.mpr ⟨lw_p39, List.forall_mem_cons.mpr ⟨lw_p40, List.forall_mem_cons.mpr ⟨lw_p41, List.forall_mem_cons.mpr ⟨lw_p42, List.forall_mem_cons.mpr ⟨lw_p43, List.forall_mem_cons.mpr ⟨lw_p44, List.forall_mem_cons.mpr ⟨lw_p45, List.forall_mem_cons.mpr ⟨lw_p46, List.forall_mem_cons.mpr ⟨lw_p47, fun _ h => absurd h List.not_mem_nil⟩⟩⟩⟩⟩⟩⟩⟩⟩⟩⟩⟩⟩⟩⟩⟩
theorem lw_p48 : lw_okq (⟨"ServiceBudgetsModel", "value", "(II)I"⟩, 44) := ⟨⟨by decide +kernel, by decide +kernel⟩, List.mem_of_getElem? (i := 1123) (by decide +kernel), List.mem_of_getElem? (i := 1385) (by decide +kernel), List.mem_of_getElem? (i := 1386) (by decide +kernel)⟩
theorem lw_p49 : lw_okq (⟨"ServiceBudgetsModel", "own", "(I)I"⟩, 44) := ⟨⟨by decide +kernel, by decide +kernel⟩, List.mem_of_getElem? (i := 1123) (by decide +kernel), List.mem_of_getElem? (i := 1389) (by decide +kernel), List.mem_of_getElem? (i := 1390) (by decide +kernel)⟩
theorem lw_p50 : lw_okq (⟨"ServiceBudgetsModel", "callValue", "(II)I"⟩, 44) := ⟨⟨by decide +kernel, by decide +kernel⟩, List.mem_of_getElem? (i := 1123) (by decide +kernel), List.mem_of_getElem? (i := 1397) (by decide +kernel), List.mem_of_getElem? (i := 1398) (by decide +kernel)⟩
theorem lw_p51 : lw_okq (⟨"ServiceBudgetsModel", "laysOrder", "()V"⟩, 44) := ⟨⟨by decide +kernel, by decide +kernel⟩, List.mem_of_getElem? (i := 1123) (by decide +kernel), List.mem_of_getElem? (i := 1409) (by decide +kernel), List.mem_of_getElem? (i := 1410) (by decide +kernel)⟩
theorem lw_p52 : lw_okq (⟨"ServiceBudgetsModel", "laysLevels", "()V"⟩, 44) := ⟨⟨by decide +kernel, by decide +kernel⟩, List.mem_of_getElem? (i := 1123) (by decide +kernel), List.mem_of_getElem? (i := 1417) (by decide +kernel), List.mem_of_getElem? (i := 1418) (by decide +kernel)⟩
theorem lw_p53 : lw_okq (⟨"ServiceBudgetsModel", "serves", "(II)Z"⟩, 44) := ⟨⟨by decide +kernel, by decide +kernel⟩, List.mem_of_getElem? (i := 1123) (by decide +kernel), List.mem_of_getElem? (i := 1425) (by decide +kernel), List.mem_of_getElem? (i := 1426) (by decide +kernel)⟩
theorem lw_p54 : lw_okq (⟨"ServiceBudgetsModel", "enters", "(III)V"⟩, 44) := ⟨⟨by decide +kernel, by decide +kernel⟩, List.mem_of_getElem? (i := 1123) (by decide +kernel), List.mem_of_getElem? (i := 1429) (by decide +kernel), List.mem_of_getElem? (i := 1430) (by decide +kernel)⟩
theorem lw_p55 : lw_okq (⟨"ServiceBudgetsModel", "begins", "()Z"⟩, 44) := ⟨⟨by decide +kernel, by decide +kernel⟩, List.mem_of_getElem? (i := 1123) (by decide +kernel), List.mem_of_getElem? (i := 1433) (by decide +kernel), List.mem_of_getElem? (i := 1434) (by decide +kernel)⟩
theorem lw_p56 : lw_okq (⟨"ServiceBudgetsModel", "isUp", "(I)Z"⟩, 44) := ⟨⟨by decide +kernel, by decide +kernel⟩, List.mem_of_getElem? (i := 1123) (by decide +kernel), List.mem_of_getElem? (i := 1437) (by decide +kernel), List.mem_of_getElem? (i := 1438) (by decide +kernel)⟩
theorem lw_p57 : lw_okq (⟨"ServiceBudgetsModel", "notesFailure", "(I)V"⟩, 44) := ⟨⟨by decide +kernel, by decide +kernel⟩, List.mem_of_getElem? (i := 1123) (by decide +kernel), List.mem_of_getElem? (i := 1441) (by decide +kernel), List.mem_of_getElem? (i := 1442) (by decide +kernel)⟩
theorem lw_p58 : lw_okq (⟨"ServiceBudgetsModel", "nextCall", "(II)I"⟩, 44) := ⟨⟨by decide +kernel, by decide +kernel⟩, List.mem_of_getElem? (i := 1123) (by decide +kernel), List.mem_of_getElem? (i := 1445) (by decide +kernel), List.mem_of_getElem? (i := 1446) (by decide +kernel)⟩
theorem lw_p59 : lw_okq (⟨"ServiceBudgetsModel", "opens", "(I)V"⟩, 44) := ⟨⟨by decide +kernel, by decide +kernel⟩, List.mem_of_getElem? (i := 1123) (by decide +kernel), List.mem_of_getElem? (i := 1449) (by decide +kernel), List.mem_of_getElem? (i := 1450) (by decide +kernel)⟩
theorem lw_p60 : lw_okq (⟨"ServiceBudgetsModel", "acts", "()I"⟩, 44) := ⟨⟨by decide +kernel, by decide +kernel⟩, List.mem_of_getElem? (i := 1123) (by decide +kernel), List.mem_of_getElem? (i := 1453) (by decide +kernel), List.mem_of_getElem? (i := 1454) (by decide +kernel)⟩
theorem lw_p61 : lw_okq (⟨"ServiceBudgetsModel", "closes", "(II)I"⟩, 44) := ⟨⟨by decide +kernel, by decide +kernel⟩, List.mem_of_getElem? (i := 1123) (by decide +kernel), List.mem_of_getElem? (i := 1457) (by decide +kernel), List.mem_of_getElem? (i := 1458) (by decide +kernel)⟩
theorem lw_p62 : lw_okq (⟨"ServiceBudgetsModel", "begunTry", "()V"⟩, 44) := ⟨⟨by decide +kernel, by decide +kernel⟩, List.mem_of_getElem? (i := 1123) (by decide +kernel), List.mem_of_getElem? (i := 1461) (by decide +kernel), List.mem_of_getElem? (i := 1462) (by decide +kernel)⟩
theorem lw_p63 : lw_okq (⟨"ServiceBudgetsModel", "returns", "()V"⟩, 44) := ⟨⟨by decide +kernel, by decide +kernel⟩, List.mem_of_getElem? (i := 1123) (by decide +kernel), List.mem_of_getElem? (i := 1465) (by decide +kernel), List.mem_of_getElem? (i := 1466) (by decide +kernel)⟩
def lw_privs_4 : List (MethodName × Nat) := [(⟨"ServiceBudgetsModel", "value", "(II)I"⟩, 44), (⟨"ServiceBudgetsModel", "own", "(I)I"⟩, 44), (⟨"ServiceBudgetsModel", "callValue", "(II)I"⟩, 44), (⟨"ServiceBudgetsModel", "laysOrder", "()V"⟩, 44), (⟨"ServiceBudgetsModel", "laysLevels", "()V"⟩, 44), (⟨"ServiceBudgetsModel", "serves", "(II)Z"⟩, 44), (⟨"ServiceBudgetsModel", "enters", "(III)V"⟩, 44), (⟨"ServiceBudgetsModel", "begins", "()Z"⟩, 44), (⟨"ServiceBudgetsModel", "isUp", "(I)Z"⟩, 44), (⟨"ServiceBudgetsModel", "notesFailure", "(I)V"⟩, 44), (⟨"ServiceBudgetsModel", "nextCall", "(II)I"⟩, 44), (⟨"ServiceBudgetsModel", "opens", "(I)V"⟩, 44), (⟨"ServiceBudgetsModel", "acts", "()I"⟩, 44), (⟨"ServiceBudgetsModel", "closes", "(II)I"⟩, 44), (⟨"ServiceBudgetsModel", "begunTry", "()V"⟩, 44), (⟨"ServiceBudgetsModel", "returns", "()V"⟩, 44)]
theorem lw_r4 : ∀ q ∈ lw_privs_4, lw_okq q := List.forall_mem_cons.mpr ⟨lw_p48, List.forall_mem_cons.mpr ⟨lw_p49, List.forall_mem_cons.mpr ⟨lw_p50, List.forall_mem_cons.mpr ⟨lw_p51, List.forall_mem_cons.mpr ⟨lw_p52, List.forall_mem_cons.mpr ⟨lw_p53, List.forall_mem_cons.mpr ⟨lw_p54, List.forall_mem_cons.mpr ⟨lw_p55, List.forall_mem_cons.mpr ⟨lw_p56, List.forall_mem_cons.mpr ⟨lw_p57, List.forall_mem_cons.mpr ⟨lw_p58, List.forall_mem_cons.mpr ⟨lw_p59, List.forall_mem_cons.mpr ⟨lw_p60, List.forall_mem_cons.mpr ⟨lw_p61, List.forall_mem_cons.mpr ⟨lw_p62, List.forall_mem_cons.mpr ⟨lw_p63, fun _ h => absurd h List.not_mem_nil⟩⟩⟩⟩⟩⟩⟩⟩⟩⟩⟩⟩⟩⟩⟩⟩
theorem lw_p64 : lw_okq (⟨"ServiceBudgetsModel", "laysBounds", "()V"⟩, 44) := ⟨⟨by decide +kernel, by decide +kernel⟩, List.mem_of_getElem? (i := 1123) (by decide +kernel), List.mem_of_getElem? (i := 1489) (by decide +kernel), List.mem_of_getElem? (i := 1490) (by decide +kernel)⟩
theorem lw_p65 : lw_okq (⟨"ServiceBudgetsModel", "bounds", "(I)V"⟩, 44) := ⟨⟨by decide +kernel, by decide +kernel⟩, List.mem_of_getElem? (i := 1123) (by decide +kernel), List.mem_of_getElem? (i := 1493) (by decide +kernel), List.mem_of_getElem? (i := 1494) (by decide +kernel)⟩
theorem lw_p66 : lw_okq (⟨"ServiceBudgetsModel", "unsoundMany", "()I"⟩, 44) := ⟨⟨by decide +kernel, by decide +kernel⟩, List.mem_of_getElem? (i := 1123) (by decide +kernel), List.mem_of_getElem? (i := 1502) (by decide +kernel), List.mem_of_getElem? (i := 1503) (by decide +kernel)⟩
theorem lw_p67 : lw_okq (⟨"ServiceBudgetsModel", "drops", "(I)I"⟩, 44) := ⟨⟨by decide +kernel, by decide +kernel⟩, List.mem_of_getElem? (i := 1123) (by decide +kernel), List.mem_of_getElem? (i := 1514) (by decide +kernel), List.mem_of_getElem? (i := 1515) (by decide +kernel)⟩
theorem lw_p68 : lw_okq (⟨"ServiceBudgetsModel", "goesDown", "(I)V"⟩, 44) := ⟨⟨by decide +kernel, by decide +kernel⟩, List.mem_of_getElem? (i := 1123) (by decide +kernel), List.mem_of_getElem? (i := 1518) (by decide +kernel), List.mem_of_getElem? (i := 1519) (by decide +kernel)⟩
theorem lw_p69 : lw_okq (⟨"ServiceBudgetsModel", "ups", "()I"⟩, 44) := ⟨⟨by decide +kernel, by decide +kernel⟩, List.mem_of_getElem? (i := 1123) (by decide +kernel), List.mem_of_getElem? (i := 1522) (by decide +kernel), List.mem_of_getElem? (i := 1523) (by decide +kernel)⟩
theorem lw_p70 : lw_okq (⟨"ServiceBudgetsModel", "mends", "(I)I"⟩, 44) := ⟨⟨by decide +kernel, by decide +kernel⟩, List.mem_of_getElem? (i := 1123) (by decide +kernel), List.mem_of_getElem? (i := 1530) (by decide +kernel), List.mem_of_getElem? (i := 1531) (by decide +kernel)⟩
theorem lw_p71 : lw_okq (⟨"ServiceBudgetsModel", "goes", "(I)I"⟩, 44) := ⟨⟨by decide +kernel, by decide +kernel⟩, List.mem_of_getElem? (i := 1123) (by decide +kernel), List.mem_of_getElem? (i := 1538) (by decide +kernel), List.mem_of_getElem? (i := 1539) (by decide +kernel)⟩
theorem lw_p72 : lw_okq (⟨"ServiceBudgetsModel", "step", "()I"⟩, 44) := ⟨⟨by decide +kernel, by decide +kernel⟩, List.mem_of_getElem? (i := 1123) (by decide +kernel), List.mem_of_getElem? (i := 1542) (by decide +kernel), List.mem_of_getElem? (i := 1543) (by decide +kernel)⟩
theorem lw_p73 : lw_okq (⟨"ServiceBudgetsModel", "downs", "()I"⟩, 44) := ⟨⟨by decide +kernel, by decide +kernel⟩, List.mem_of_getElem? (i := 1123) (by decide +kernel), List.mem_of_getElem? (i := 1546) (by decide +kernel), List.mem_of_getElem? (i := 1547) (by decide +kernel)⟩
theorem lw_p74 : lw_okq (⟨"ServiceBudgetsModel", "isCutOff", "(II)Z"⟩, 44) := ⟨⟨by decide +kernel, by decide +kernel⟩, List.mem_of_getElem? (i := 1123) (by decide +kernel), List.mem_of_getElem? (i := 1550) (by decide +kernel), List.mem_of_getElem? (i := 1551) (by decide +kernel)⟩
theorem lw_p75 : lw_okq (⟨"ServiceBudgetsModel", "spreads", "(I)I"⟩, 44) := ⟨⟨by decide +kernel, by decide +kernel⟩, List.mem_of_getElem? (i := 1123) (by decide +kernel), List.mem_of_getElem? (i := 1562) (by decide +kernel), List.mem_of_getElem? (i := 1563) (by decide +kernel)⟩
theorem lw_p76 : lw_okq (⟨"ServiceBudgetsModel", "restore", "()V"⟩, 44) := ⟨⟨by decide +kernel, by decide +kernel⟩, List.mem_of_getElem? (i := 1123) (by decide +kernel), List.mem_of_getElem? (i := 1566) (by decide +kernel), List.mem_of_getElem? (i := 1567) (by decide +kernel)⟩
theorem lw_p77 : lw_okq (⟨"ServiceBudgetsModel", "recovers", "(I)I"⟩, 44) := ⟨⟨by decide +kernel, by decide +kernel⟩, List.mem_of_getElem? (i := 1123) (by decide +kernel), List.mem_of_getElem? (i := 1578) (by decide +kernel), List.mem_of_getElem? (i := 1579) (by decide +kernel)⟩
theorem lw_p78 : lw_okq (⟨"ServiceBudgetsModel", "nextBegun", "(II)I"⟩, 44) := ⟨⟨by decide +kernel, by decide +kernel⟩, List.mem_of_getElem? (i := 1123) (by decide +kernel), List.mem_of_getElem? (i := 1582) (by decide +kernel), List.mem_of_getElem? (i := 1583) (by decide +kernel)⟩
theorem lw_p79 : lw_okq (⟨"ServiceBudgetsModel", "laysBest", "()I"⟩, 44) := ⟨⟨by decide +kernel, by decide +kernel⟩, List.mem_of_getElem? (i := 1123) (by decide +kernel), List.mem_of_getElem? (i := 1594) (by decide +kernel), List.mem_of_getElem? (i := 1595) (by decide +kernel)⟩
def lw_privs_5 : List (MethodName × Nat) := [(⟨"ServiceBudgetsModel", "laysBounds", "()V"⟩, 44), (⟨"ServiceBudgetsModel", "bounds", "(I)V"⟩, 44), (⟨"ServiceBudgetsModel", "unsoundMany", "()I"⟩, 44), (⟨"ServiceBudgetsModel", "drops", "(I)I"⟩, 44), (⟨"ServiceBudgetsModel", "goesDown", "(I)V"⟩, 44), (⟨"ServiceBudgetsModel", "ups", "()I"⟩, 44), (⟨"ServiceBudgetsModel", "mends", "(I)I"⟩, 44), (⟨"ServiceBudgetsModel", "goes", "(I)I"⟩, 44), (⟨"ServiceBudgetsModel", "step", "()I"⟩, 44), (⟨"ServiceBudgetsModel", "downs", "()I"⟩, 44), (⟨"ServiceBudgetsModel", "isCutOff", "(II)Z"⟩, 44), (⟨"ServiceBudgetsModel", "spreads", "(I)I"⟩, 44), (⟨"ServiceBudgetsModel", "restore", "()V"⟩, 44), (⟨"ServiceBudgetsModel", "recovers", "(I)I"⟩, 44), (⟨"ServiceBudgetsModel", "nextBegun", "(II)I"⟩, 44), (⟨"ServiceBudgetsModel", "laysBest", "()I"⟩, 44)]
theorem lw_r5 : ∀ q ∈ lw_privs_5, lw_okq q := List.forall_mem_cons.mpr ⟨lw_p64, List.forall_mem_cons.mpr ⟨lw_p65, List.forall_mem_cons.mpr ⟨lw_p66, List.forall_mem_cons.mpr ⟨lw_p67, List.forall_mem_cons.mpr ⟨lw_p68, List.forall_mem_cons.mpr ⟨lw_p69, List.forall_mem_cons.mpr ⟨lw_p70, List.forall_mem_cons.mpr ⟨lw_p71, List.forall_mem_cons.mpr ⟨lw_p72, List.forall_mem_cons.mpr ⟨lw_p73, List.forall_mem_cons.mpr ⟨lw_p74, List.forall_mem_cons.mpr ⟨lw_p75, List.forall_mem_cons.mpr ⟨lw_p76, List.forall_mem_cons.mpr ⟨lw_p77, List.forall_mem_cons.mpr ⟨lw_p78, List.forall_mem_cons.mpr ⟨lw_p79, fun _ h => absurd h List.not_mem_nil⟩⟩⟩⟩⟩⟩⟩⟩⟩⟩⟩⟩⟩⟩⟩⟩
theorem lw_p80 : lw_okq (⟨"ServiceBudgetsModel", "costWith", "(III)I"⟩, 44) := ⟨⟨by decide +kernel, by decide +kernel⟩, List.mem_of_getElem? (i := 1123) (by decide +kernel), List.mem_of_getElem? (i := 1599) (by decide +kernel), List.mem_of_getElem? (i := 1600) (by decide +kernel)⟩
theorem lw_p81 : lw_okq (⟨"ServiceBudgetsModel", "timeOf", "(I)I"⟩, 44) := ⟨⟨by decide +kernel, by decide +kernel⟩, List.mem_of_getElem? (i := 1123) (by decide +kernel), List.mem_of_getElem? (i := 1603) (by decide +kernel), List.mem_of_getElem? (i := 1604) (by decide +kernel)⟩
theorem lw_p82 : lw_okq (⟨"ServiceBudgetsModel", "failing", "(I)I"⟩, 44) := ⟨⟨by decide +kernel, by decide +kernel⟩, List.mem_of_getElem? (i := 1123) (by decide +kernel), List.mem_of_getElem? (i := 1615) (by decide +kernel), List.mem_of_getElem? (i := 1616) (by decide +kernel)⟩
theorem lw_p83 : lw_okq (⟨"ServiceBudgetsModel", "cutAt", "(III)I"⟩, 44) := ⟨⟨by decide +kernel, by decide +kernel⟩, List.mem_of_getElem? (i := 1123) (by decide +kernel), List.mem_of_getElem? (i := 1623) (by decide +kernel), List.mem_of_getElem? (i := 1624) (by decide +kernel)⟩
theorem lw_p84 : lw_okq (⟨"ServiceBudgetsModel", "laysFailing", "(I)V"⟩, 44) := ⟨⟨by decide +kernel, by decide +kernel⟩, List.mem_of_getElem? (i := 1123) (by decide +kernel), List.mem_of_getElem? (i := 1627) (by decide +kernel), List.mem_of_getElem? (i := 1628) (by decide +kernel)⟩
theorem lw_p85 : lw_okq (⟨"ServiceBudgetsModel", "isCut", "(I)Z"⟩, 44) := ⟨⟨by decide +kernel, by decide +kernel⟩, List.mem_of_getElem? (i := 1123) (by decide +kernel), List.mem_of_getElem? (i := 1634) (by decide +kernel), List.mem_of_getElem? (i := 1635) (by decide +kernel)⟩
theorem lw_p86 : lw_okq (⟨"ServiceBudgetsModel", "available", "(I)D"⟩, 44) := ⟨⟨by decide +kernel, by decide +kernel⟩, List.mem_of_getElem? (i := 1123) (by decide +kernel), List.mem_of_getElem? (i := 1646) (by decide +kernel), List.mem_of_getElem? (i := 1647) (by decide +kernel)⟩
theorem lw_p87 : lw_okq (⟨"ServiceBudgetsModel", "isCommand", "()Z"⟩, 44) := ⟨⟨by decide +kernel, by decide +kernel⟩, List.mem_of_getElem? (i := 1123) (by decide +kernel), List.mem_of_getElem? (i := 1677) (by decide +kernel), List.mem_of_getElem? (i := 1678) (by decide +kernel)⟩
theorem lw_p88 : lw_okq (⟨"ServiceBudgetsModel", "isNumber", "(I)Z"⟩, 44) := ⟨⟨by decide +kernel, by decide +kernel⟩, List.mem_of_getElem? (i := 1123) (by decide +kernel), List.mem_of_getElem? (i := 1684) (by decide +kernel), List.mem_of_getElem? (i := 1685) (by decide +kernel)⟩
theorem lw_p89 : lw_okq (⟨"ServiceBudgetsModel", "isAt", "(II)Z"⟩, 44) := ⟨⟨by decide +kernel, by decide +kernel⟩, List.mem_of_getElem? (i := 1123) (by decide +kernel), List.mem_of_getElem? (i := 1688) (by decide +kernel), List.mem_of_getElem? (i := 1689) (by decide +kernel)⟩
theorem lw_p90 : lw_okq (⟨"ServiceBudgetsModel", "does", "()I"⟩, 44) := ⟨⟨by decide +kernel, by decide +kernel⟩, List.mem_of_getElem? (i := 1123) (by decide +kernel), List.mem_of_getElem? (i := 1692) (by decide +kernel), List.mem_of_getElem? (i := 1693) (by decide +kernel)⟩
theorem lw_p91 : lw_okq (⟨"ServiceBudgetsModel", "mix", "(I)V"⟩, 44) := ⟨⟨by decide +kernel, by decide +kernel⟩, List.mem_of_getElem? (i := 1123) (by decide +kernel), List.mem_of_getElem? (i := 1705) (by decide +kernel), List.mem_of_getElem? (i := 1706) (by decide +kernel)⟩
def lw_privs_6 : List (MethodName × Nat) := [(⟨"ServiceBudgetsModel", "costWith", "(III)I"⟩, 44), (⟨"ServiceBudgetsModel", "timeOf", "(I)I"⟩, 44), (⟨"ServiceBudgetsModel", "failing", "(I)I"⟩, 44), (⟨"ServiceBudgetsModel", "cutAt", "(III)I"⟩, 44), (⟨"ServiceBudgetsModel", "laysFailing", "(I)V"⟩, 44), (⟨"ServiceBudgetsModel", "isCut", "(I)Z"⟩, 44), (⟨"ServiceBudgetsModel", "available", "(I)D"⟩, 44), (⟨"ServiceBudgetsModel", "isCommand", "()Z"⟩, 44), (⟨"ServiceBudgetsModel", "isNumber", "(I)Z"⟩, 44), (⟨"ServiceBudgetsModel", "isAt", "(II)Z"⟩, 44), (⟨"ServiceBudgetsModel", "does", "()I"⟩, 44), (⟨"ServiceBudgetsModel", "mix", "(I)V"⟩, 44)]
theorem lw_r6 : ∀ q ∈ lw_privs_6, lw_okq q := List.forall_mem_cons.mpr ⟨lw_p80, List.forall_mem_cons.mpr ⟨lw_p81, List.forall_mem_cons.mpr ⟨lw_p82, List.forall_mem_cons.mpr ⟨lw_p83, List.forall_mem_cons.mpr ⟨lw_p84, List.forall_mem_cons.mpr ⟨lw_p85, List.forall_mem_cons.mpr ⟨lw_p86, List.forall_mem_cons.mpr ⟨lw_p87, List.forall_mem_cons.mpr ⟨lw_p88, List.forall_mem_cons.mpr ⟨lw_p89, List.forall_mem_cons.mpr ⟨lw_p90, List.forall_mem_cons.mpr ⟨lw_p91, fun _ h => absurd h List.not_mem_nil⟩⟩⟩⟩⟩⟩⟩⟩⟩⟩⟩⟩
def lw_privs : List (MethodName × Nat) := lw_privs_1 ++ (lw_privs_2 ++ (lw_privs_3 ++ (lw_privs_4 ++ (lw_privs_5 ++ (lw_privs_6)))))
def lw_tbl : List Cond := k2_sels lw_privs ++ tables_1
theorem lw_privs_ok : ∀ q ∈ lw_privs, lw_okq q := by
  show ∀ q ∈ lw_privs_1 ++ (lw_privs_2 ++ (lw_privs_3 ++ (lw_privs_4 ++ (lw_privs_5 ++ (lw_privs_6))))), lw_okq q
  exact List.forall_mem_append.mpr ⟨lw_r1, List.forall_mem_append.mpr ⟨lw_r2, List.forall_mem_append.mpr ⟨lw_r3, List.forall_mem_append.mpr ⟨lw_r4, List.forall_mem_append.mpr ⟨lw_r5, lw_r6⟩⟩⟩⟩⟩
/-- the streams that the claim lets the run draw from -/
abbrev lw_cs : List Choice := [Jvm.Choice.named "NaN.bits"]
theorem lw_bits : nanBits ∈ lw_cs := by first | decide | exact List.mem_cons_self | simp [lw_cs, nanBits]
-- ===== end of PART A; then your names; then what follows =====
end
section
/-! NAMES, links, the check of the code; written by wip/whole/gen_names.py -/
def zCnT : List String := ["ServiceBudgets$BudgetSearch", "ServiceBudgets$FailureSets", "ServiceBudgets$Graph", "ServiceBudgets$History", "ServiceBudgets$Recovery", "ServiceBudgets$Request", "ServiceBudgets$Serving", "ServiceBudgets$State", "ServiceBudgets$Text", "ServiceBudgets", "ServiceBudgetsModel", "ServiceBudgetsLaw", "java/lang/Math", "java/lang/Integer", "java/lang/Float"]
def zCn (t : Nat) : String := zCnT.getD t ""
def zTxT : List (List (String × String × String × Bool)) := [
  [("ServiceBudgets$BudgetSearch", "outcomes", "[I", false)],
  [("ServiceBudgets$FailureSets", "failing", "[[J", true), ("ServiceBudgets$FailureSets", "group", "[J", true), ("ServiceBudgets$FailureSets", "chances", "[D", false)],
  [("ServiceBudgets$Graph", "direct", "[I", true), ("ServiceBudgets$Graph", "sorted", "[I", true), ("ServiceBudgets$Graph", "placed", "I", false), ("ServiceBudgets$Graph", "chains", "[I", true), ("ServiceBudgets$Graph", "bounds", "[I", true)],
  [("ServiceBudgets$History", "kept", "[LServiceBudgets$State;", true), ("ServiceBudgets$History", "count", "I", false)],
  [("ServiceBudgets$Recovery", "before", "[I", true), ("ServiceBudgets$Recovery", "begins", "[I", true), ("ServiceBudgets$Recovery", "ends", "[I", true), ("ServiceBudgets$Recovery", "costs", "[I", false)],
  [("ServiceBudgets$Request", "happened", "Z", false), ("ServiceBudgets$Request", "outcome", "I", false), ("ServiceBudgets$Request", "missing", "I", false), ("ServiceBudgets$Request", "served", "I", false), ("ServiceBudgets$Request", "firstFailing", "I", false), ("ServiceBudgets$Request", "firstAtFault", "I", false), ("ServiceBudgets$Request", "failureCount", "I", false), ("ServiceBudgets$Request", "tryCount", "I", false), ("ServiceBudgets$Request", "failures", "[[I", true), ("ServiceBudgets$Request", "attempts", "[[I", true)],
  [],
  [("ServiceBudgets$State", "services", "I", false), ("ServiceBudgets$State", "calls", "I", false), ("ServiceBudgets$State", "aboutService", "[[I", true), ("ServiceBudgets$State", "aboutCall", "[[I", true)],
  [("ServiceBudgets$Text", "signs", "[I", true), ("ServiceBudgets$Text", "length", "I", false), ("ServiceBudgets$Text", "letters", "[I", true), ("ServiceBudgets$Text", "numbers", "[[I", true)],
  [("ServiceBudgets", "now", "LServiceBudgets$State;", true), ("ServiceBudgets", "aside", "LServiceBudgets$State;", true), ("ServiceBudgets", "history", "LServiceBudgets$History;", true), ("ServiceBudgets", "graph", "LServiceBudgets$Graph;", true), ("ServiceBudgets", "latest", "LServiceBudgets$Request;", true), ("ServiceBudgets", "search", "LServiceBudgets$BudgetSearch;", true), ("ServiceBudgets", "recovery", "LServiceBudgets$Recovery;", true), ("ServiceBudgets", "sets", "LServiceBudgets$FailureSets;", true), ("ServiceBudgets", "text", "LServiceBudgets$Text;", true)],
  [("ServiceBudgetsModel", "s", "[I", true), ("ServiceBudgetsModel", "past", "[I", true), ("ServiceBudgetsModel", "aside", "[I", true), ("ServiceBudgetsModel", "pasts", "I", false), ("ServiceBudgetsModel", "text", "[I", true), ("ServiceBudgetsModel", "typed", "I", false), ("ServiceBudgetsModel", "thrown", "I", false), ("ServiceBudgetsModel", "needs", "[I", true), ("ServiceBudgetsModel", "row", "[I", true), ("ServiceBudgetsModel", "answer", "I", false), ("ServiceBudgetsModel", "chain", "[I", true), ("ServiceBudgetsModel", "who", "[I", true), ("ServiceBudgetsModel", "moment", "[I", true), ("ServiceBudgetsModel", "budget", "[I", true), ("ServiceBudgetsModel", "passed", "[I", true), ("ServiceBudgetsModel", "present", "[I", true), ("ServiceBudgetsModel", "head", "[I", true), ("ServiceBudgetsModel", "made", "[I", true), ("ServiceBudgetsModel", "won", "[Z", true), ("ServiceBudgetsModel", "tryOf", "[I", true), ("ServiceBudgetsModel", "level", "I", false), ("ServiceBudgetsModel", "took", "I", false), ("ServiceBudgetsModel", "missing", "I", false), ("ServiceBudgetsModel", "failures", "I", false), ("ServiceBudgetsModel", "tries", "I", false), ("ServiceBudgetsModel", "blame", "I", false), ("ServiceBudgetsModel", "firstBlame", "I", false), ("ServiceBudgetsModel", "served", "I", false), ("ServiceBudgetsModel", "failureRow", "[I", true), ("ServiceBudgetsModel", "tryRow", "[I", true), ("ServiceBudgetsModel", "results", "[I", true), ("ServiceBudgetsModel", "failureNoted", "[I", true), ("ServiceBudgetsModel", "tryNoted", "[I", true), ("ServiceBudgetsModel", "isAny", "Z", false), ("ServiceBudgetsModel", "succeeded", "Z", false), ("ServiceBudgetsModel", "bound", "[I", true), ("ServiceBudgetsModel", "firstFall", "I", false), ("ServiceBudgetsModel", "begun", "[I", true), ("ServiceBudgetsModel", "rest", "[I", true), ("ServiceBudgetsModel", "isFailing", "[Z", true), ("ServiceBudgetsModel", "at", "I", false), ("ServiceBudgetsModel", "letter", "I", false), ("ServiceBudgetsModel", "numbers", "[I", true), ("ServiceBudgetsModel", "h", "J", false)]]
def zTx (t : Nat) : u_T := fun k => (zTxT.getD t []).getD k ("", "", "", false)
def zFtT : List (List FieldType) := [
  [.array (.int)],
  [.array (.array (.long)), .array (.long), .array (.double)],
  [.array (.int), .array (.int), .int, .array (.int), .array (.int)],
  [.array (.object "ServiceBudgets$State"), .int],
  [.array (.int), .array (.int), .array (.int), .array (.int)],
  [.boolean, .int, .int, .int, .int, .int, .int, .int, .array (.array (.int)), .array (.array (.int))],
  [],
  [.int, .int, .array (.array (.int)), .array (.array (.int))],
  [.array (.int), .int, .array (.int), .array (.array (.int))],
  [.object "ServiceBudgets$State", .object "ServiceBudgets$State", .object "ServiceBudgets$History", .object "ServiceBudgets$Graph", .object "ServiceBudgets$Request", .object "ServiceBudgets$BudgetSearch", .object "ServiceBudgets$Recovery", .object "ServiceBudgets$FailureSets", .object "ServiceBudgets$Text"],
  [.array (.int), .array (.int), .array (.int), .int, .array (.int), .int, .int, .array (.int), .array (.int), .int, .array (.int), .array (.int), .array (.int), .array (.int), .array (.int), .array (.int), .array (.int), .array (.int), .array (.boolean), .array (.int), .int, .int, .int, .int, .int, .int, .int, .int, .array (.int), .array (.int), .array (.int), .array (.int), .array (.int), .boolean, .boolean, .array (.int), .int, .array (.int), .array (.int), .array (.boolean), .int, .int, .array (.int), .long]]
def zFt (t k : Nat) : FieldType := (zFtT.getD t []).getD k .int
theorem zFt_ok : ∀ t, t < 11 → ∀ k, k < zNf t → parseFieldDescriptor (zTx t k).2.2.1 = some (zFt t k) := by decide +kernel
theorem zTx_nm : ∀ t, t < 11 → ∀ a, a < zNf t → ∀ b, b < zNf t → a ≠ b → (zTx t a).2.1 ≠ (zTx t b).2.1 := by decide +kernel
def zYnT : List MethodName := [
  ⟨"ServiceBudgets$BudgetSearch", "<init>", "()V"⟩,
  ⟨"ServiceBudgets$BudgetSearch", "leastFor", "(LServiceBudgets$State;I)I"⟩,
  ⟨"ServiceBudgets$BudgetSearch", "keepOutcomes", "(LServiceBudgets$State;II)V"⟩,
  ⟨"ServiceBudgets$BudgetSearch", "ask", "(LServiceBudgets$State;IIII)I"⟩,
  ⟨"ServiceBudgets$BudgetSearch", "noteFailure", "(IIII)V"⟩,
  ⟨"ServiceBudgets$BudgetSearch", "noteMissing", "()V"⟩,
  ⟨"ServiceBudgets$FailureSets", "<init>", "()V"⟩,
  ⟨"ServiceBudgets$FailureSets", "fill", "(LServiceBudgets$State;LServiceBudgets$Graph;)V"⟩,
  ⟨"ServiceBudgets$FailureSets", "members", "(II)J"⟩,
  ⟨"ServiceBudgets$FailureSets", "addGroup", "(LServiceBudgets$State;II)V"⟩,
  ⟨"ServiceBudgets$FailureSets", "isFailing", "(II)Z"⟩,
  ⟨"ServiceBudgets$FailureSets", "isCut", "(LServiceBudgets$State;II)Z"⟩,
  ⟨"ServiceBudgets$FailureSets", "countCuts", "(LServiceBudgets$State;II)I"⟩,
  ⟨"ServiceBudgets$FailureSets", "findCut", "(LServiceBudgets$State;III)I"⟩,
  ⟨"ServiceBudgets$FailureSets", "chanceOf", "(LServiceBudgets$State;II)D"⟩,
  ⟨"ServiceBudgets$FailureSets", "fillChances", "(LServiceBudgets$State;I)V"⟩,
  ⟨"ServiceBudgets$FailureSets", "mostWorthwhile", "(LServiceBudgets$State;I)I"⟩,
  ⟨"ServiceBudgets$Graph", "<init>", "()V"⟩,
  ⟨"ServiceBudgets$Graph", "sort", "(LServiceBudgets$State;)V"⟩,
  ⟨"ServiceBudgets$Graph", "fillDirect", "(LServiceBudgets$State;)V"⟩,
  ⟨"ServiceBudgets$Graph", "lowestNext", "(LServiceBudgets$State;I)I"⟩,
  ⟨"ServiceBudgets$Graph", "sortedAt", "(I)I"⟩,
  ⟨"ServiceBudgets$Graph", "countSorted", "()I"⟩,
  ⟨"ServiceBudgets$Graph", "measureChains", "(LServiceBudgets$State;)V"⟩,
  ⟨"ServiceBudgets$Graph", "chainOf", "(LServiceBudgets$State;I)I"⟩,
  ⟨"ServiceBudgets$Graph", "measureBounds", "(LServiceBudgets$State;)V"⟩,
  ⟨"ServiceBudgets$Graph", "boundOf", "(LServiceBudgets$State;I)I"⟩,
  ⟨"ServiceBudgets$Graph", "countUnsound", "(LServiceBudgets$State;)I"⟩,
  ⟨"ServiceBudgets$Graph", "tightenLimits", "(LServiceBudgets$State;)I"⟩,
  ⟨"ServiceBudgets$Graph", "limitCallsTo", "(LServiceBudgets$State;II)I"⟩,
  ⟨"ServiceBudgets$Graph", "failingBy", "(LServiceBudgets$State;I)I"⟩,
  ⟨"ServiceBudgets$History", "<init>", "()V"⟩,
  ⟨"ServiceBudgets$History", "save", "(LServiceBudgets$State;)V"⟩,
  ⟨"ServiceBudgets$History", "dropOldest", "()V"⟩,
  ⟨"ServiceBudgets$History", "whyEmpty", "()I"⟩,
  ⟨"ServiceBudgets$History", "restore", "(LServiceBudgets$State;)I"⟩,
  ⟨"ServiceBudgets$Recovery", "<init>", "()V"⟩,
  ⟨"ServiceBudgets$Recovery", "fillBefore", "(LServiceBudgets$State;)I"⟩,
  ⟨"ServiceBudgets$Recovery", "byCrews", "(LServiceBudgets$State;I)I"⟩,
  ⟨"ServiceBudgets$Recovery", "overAt", "(LServiceBudgets$State;II)I"⟩,
  ⟨"ServiceBudgets$Recovery", "nextEnd", "(LServiceBudgets$State;I)I"⟩,
  ⟨"ServiceBudgets$Recovery", "mostImportant", "(LServiceBudgets$State;II)I"⟩,
  ⟨"ServiceBudgets$Recovery", "leastCost", "(LServiceBudgets$State;)I"⟩,
  ⟨"ServiceBudgets$Recovery", "settle", "(LServiceBudgets$State;II)I"⟩,
  ⟨"ServiceBudgets$Recovery", "timeFor", "(LServiceBudgets$State;I)I"⟩,
  ⟨"ServiceBudgets$Recovery", "inBestOrder", "(LServiceBudgets$State;I)I"⟩,
  ⟨"ServiceBudgets$Request", "<init>", "()V"⟩,
  ⟨"ServiceBudgets$Request", "begin", "(LServiceBudgets$State;II)Z"⟩,
  ⟨"ServiceBudgets$Request", "ask", "(LServiceBudgets$State;IIII)I"⟩,
  ⟨"ServiceBudgets$Request", "noteTry", "(III)I"⟩,
  ⟨"ServiceBudgets$Request", "noteFailure", "(IIII)V"⟩,
  ⟨"ServiceBudgets$Request", "noteMissing", "()V"⟩,
  ⟨"ServiceBudgets$Request", "whyNone", "()I"⟩,
  ⟨"ServiceBudgets$Request", "about", "(I)I"⟩,
  ⟨"ServiceBudgets$Request", "blamed", "()I"⟩,
  ⟨"ServiceBudgets$Request", "aboutFailure", "(II)I"⟩,
  ⟨"ServiceBudgets$Request", "aboutTry", "(II)I"⟩,
  ⟨"ServiceBudgets$Serving", "<init>", "()V"⟩,
  ⟨"ServiceBudgets$Serving", "good", "(I)I"⟩,
  ⟨"ServiceBudgets$Serving", "bad", "(I)I"⟩,
  ⟨"ServiceBudgets$Serving", "isGood", "(I)Z"⟩,
  ⟨"ServiceBudgets$Serving", "timeOf", "(I)I"⟩,
  ⟨"ServiceBudgets$Serving", "serve", "(LServiceBudgets$State;IIII)I"⟩,
  ⟨"ServiceBudgets$Serving", "goThroughGroup", "(LServiceBudgets$State;IIIII)I"⟩,
  ⟨"ServiceBudgets$Serving", "makeCall", "(LServiceBudgets$State;IIIII)I"⟩,
  ⟨"ServiceBudgets$State", "<init>", "()V"⟩,
  ⟨"ServiceBudgets$State", "copyFrom", "(LServiceBudgets$State;)V"⟩,
  ⟨"ServiceBudgets$State", "whyNoService", "(I)I"⟩,
  ⟨"ServiceBudgets$State", "whyNoCall", "(I)I"⟩,
  ⟨"ServiceBudgets$State", "whyNoSet", "(I)I"⟩,
  ⟨"ServiceBudgets$State", "whyNotNewService", "(I)I"⟩,
  ⟨"ServiceBudgets$State", "newService", "(I)I"⟩,
  ⟨"ServiceBudgets$State", "whyNotNewCall", "(IIIII)I"⟩,
  ⟨"ServiceBudgets$State", "newCall", "(IIIII)I"⟩,
  ⟨"ServiceBudgets$State", "whyNotDropCall", "(I)I"⟩,
  ⟨"ServiceBudgets$State", "dropCall", "(I)I"⟩,
  ⟨"ServiceBudgets$State", "whyNotChange", "(III)I"⟩,
  ⟨"ServiceBudgets$State", "change", "(III)I"⟩,
  ⟨"ServiceBudgets$State", "whyNotChangeLimit", "(II)I"⟩,
  ⟨"ServiceBudgets$State", "changeLimit", "(II)I"⟩,
  ⟨"ServiceBudgets$State", "tellOfService", "(II)I"⟩,
  ⟨"ServiceBudgets$State", "ownTimeOf", "(I)I"⟩,
  ⟨"ServiceBudgets$State", "countCallsOf", "(I)I"⟩,
  ⟨"ServiceBudgets$State", "lastHeadOf", "(I)I"⟩,
  ⟨"ServiceBudgets$State", "isHeadOf", "(II)Z"⟩,
  ⟨"ServiceBudgets$State", "isInGroup", "(II)Z"⟩,
  ⟨"ServiceBudgets$State", "isNeeded", "(I)Z"⟩,
  ⟨"ServiceBudgets$State", "needsOf", "(I)I"⟩,
  ⟨"ServiceBudgets$State", "calleesOf", "(I)I"⟩,
  ⟨"ServiceBudgets$State", "lacksNeeded", "(II)Z"⟩,
  ⟨"ServiceBudgets$State", "isGroupWithin", "(II)Z"⟩,
  ⟨"ServiceBudgets$State", "isUp", "(I)Z"⟩,
  ⟨"ServiceBudgets$State", "downSet", "()I"⟩,
  ⟨"ServiceBudgets$State", "countUp", "()I"⟩,
  ⟨"ServiceBudgets$State", "whyNotGoDown", "(I)I"⟩,
  ⟨"ServiceBudgets$State", "goDown", "(I)V"⟩,
  ⟨"ServiceBudgets$State", "whyNotBeginRepair", "(I)I"⟩,
  ⟨"ServiceBudgets$State", "beginRepair", "(I)I"⟩,
  ⟨"ServiceBudgets$State", "makeSteps", "(I)V"⟩,
  ⟨"ServiceBudgets$State", "makeStep", "()I"⟩,
  ⟨"ServiceBudgets$State", "mend", "(IZ)V"⟩,
  ⟨"ServiceBudgets$State", "changeStrain", "(IZ)V"⟩,
  ⟨"ServiceBudgets$Text", "<init>", "()V"⟩,
  ⟨"ServiceBudgets$Text", "whyFull", "()I"⟩,
  ⟨"ServiceBudgets$Text", "add", "(I)I"⟩,
  ⟨"ServiceBudgets$Text", "empty", "()I"⟩,
  ⟨"ServiceBudgets$Text", "parse", "()I"⟩,
  ⟨"ServiceBudgets$Text", "errorAt", "(I)I"⟩,
  ⟨"ServiceBudgets$Text", "placeOf", "(I)I"⟩,
  ⟨"ServiceBudgets$Text", "parseCommand", "(II)I"⟩,
  ⟨"ServiceBudgets$Text", "numbersOf", "(I)I"⟩,
  ⟨"ServiceBudgets$Text", "endOfDigits", "(I)I"⟩,
  ⟨"ServiceBudgets$Text", "valueOf", "(II)I"⟩,
  ⟨"ServiceBudgets$Text", "whyNotCommand", "(LServiceBudgets$State;I)I"⟩,
  ⟨"ServiceBudgets$Text", "carryOut", "(LServiceBudgets$State;I)V"⟩,
  ⟨"ServiceBudgets", "<init>", "()V"⟩,
  ⟨"ServiceBudgets", "addService", "(I)I"⟩,
  ⟨"ServiceBudgets", "addCall", "(IIIII)I"⟩,
  ⟨"ServiceBudgets", "removeCall", "(I)I"⟩,
  ⟨"ServiceBudgets", "set", "(III)I"⟩,
  ⟨"ServiceBudgets", "setLimit", "(II)I"⟩,
  ⟨"ServiceBudgets", "services", "()I"⟩,
  ⟨"ServiceBudgets", "calls", "()I"⟩,
  ⟨"ServiceBudgets", "service", "(II)I"⟩,
  ⟨"ServiceBudgets", "call", "(II)I"⟩,
  ⟨"ServiceBudgets", "depends", "(II)Z"⟩,
  ⟨"ServiceBudgets", "order", "(I)I"⟩,
  ⟨"ServiceBudgets", "level", "(I)I"⟩,
  ⟨"ServiceBudgets", "request", "(II)Z"⟩,
  ⟨"ServiceBudgets", "result", "(I)I"⟩,
  ⟨"ServiceBudgets", "failure", "(II)I"⟩,
  ⟨"ServiceBudgets", "attempt", "(II)I"⟩,
  ⟨"ServiceBudgets", "leastBudget", "(I)I"⟩,
  ⟨"ServiceBudgets", "worst", "(I)I"⟩,
  ⟨"ServiceBudgets", "unsound", "()I"⟩,
  ⟨"ServiceBudgets", "tighten", "()I"⟩,
  ⟨"ServiceBudgets", "fail", "(I)I"⟩,
  ⟨"ServiceBudgets", "repair", "(I)I"⟩,
  ⟨"ServiceBudgets", "steps", "(I)I"⟩,
  ⟨"ServiceBudgets", "down", "()I"⟩,
  ⟨"ServiceBudgets", "spread", "(I)I"⟩,
  ⟨"ServiceBudgets", "calm", "(I)I"⟩,
  ⟨"ServiceBudgets", "recoveryTime", "(I)I"⟩,
  ⟨"ServiceBudgets", "recoveryStart", "(II)I"⟩,
  ⟨"ServiceBudgets", "bestCost", "()I"⟩,
  ⟨"ServiceBudgets", "bestOrder", "(I)I"⟩,
  ⟨"ServiceBudgets", "failsBy", "(II)Z"⟩,
  ⟨"ServiceBudgets", "cuts", "(II)I"⟩,
  ⟨"ServiceBudgets", "cut", "(III)I"⟩,
  ⟨"ServiceBudgets", "availability", "(I)I"⟩,
  ⟨"ServiceBudgets", "weakest", "(I)I"⟩,
  ⟨"ServiceBudgets", "append", "(I)I"⟩,
  ⟨"ServiceBudgets", "clearText", "()I"⟩,
  ⟨"ServiceBudgets", "execute", "()I"⟩,
  ⟨"ServiceBudgets", "undo", "()I"⟩,
  ⟨"ServiceBudgets", "digest", "()J"⟩,
  ⟨"ServiceBudgets", "refuse", "(I)V"⟩,
  ⟨"ServiceBudgets", "whyNotWithin", "(III)I"⟩,
  ⟨"ServiceBudgets", "contains", "(II)Z"⟩,
  ⟨"ServiceBudgets", "bitsOf", "(F)I"⟩,
  ⟨"ServiceBudgetsModel", "<init>", "()V"⟩,
  ⟨"ServiceBudgetsModel", "thrown", "()I"⟩,
  ⟨"ServiceBudgetsModel", "in", "(III)Z"⟩,
  ⟨"ServiceBudgetsModel", "fails", "(I)I"⟩,
  ⟨"ServiceBudgetsModel", "tells", "(I)I"⟩,
  ⟨"ServiceBudgetsModel", "hold", "()V"⟩,
  ⟨"ServiceBudgetsModel", "restore", "()V"⟩,
  ⟨"ServiceBudgetsModel", "ends", "(I)I"⟩,
  ⟨"ServiceBudgetsModel", "of", "(II)I"⟩,
  ⟨"ServiceBudgetsModel", "puts", "(III)V"⟩,
  ⟨"ServiceBudgetsModel", "callOf", "(II)I"⟩,
  ⟨"ServiceBudgetsModel", "caller", "(I)I"⟩,
  ⟨"ServiceBudgetsModel", "callee", "(I)I"⟩,
  ⟨"ServiceBudgetsModel", "isReplacement", "(I)Z"⟩,
  ⟨"ServiceBudgetsModel", "isService", "(I)Z"⟩,
  ⟨"ServiceBudgetsModel", "isCall", "(I)Z"⟩,
  ⟨"ServiceBudgetsModel", "isUp", "(I)Z"⟩,
  ⟨"ServiceBudgetsModel", "own", "(I)I"⟩,
  ⟨"ServiceBudgetsModel", "nextCall", "(II)I"⟩,
  ⟨"ServiceBudgetsModel", "callsOf", "(I)I"⟩,
  ⟨"ServiceBudgetsModel", "laysNeeds", "()V"⟩,
  ⟨"ServiceBudgetsModel", "laysOrder", "()V"⟩,
  ⟨"ServiceBudgetsModel", "dependsOn", "(II)Z"⟩,
  ⟨"ServiceBudgetsModel", "addsService", "(I)I"⟩,
  ⟨"ServiceBudgetsModel", "addsCall", "(IIIII)I"⟩,
  ⟨"ServiceBudgetsModel", "isValue", "(II)Z"⟩,
  ⟨"ServiceBudgetsModel", "changes", "(III)I"⟩,
  ⟨"ServiceBudgetsModel", "ups", "()I"⟩,
  ⟨"ServiceBudgetsModel", "drops", "(I)I"⟩,
  ⟨"ServiceBudgetsModel", "goesDown", "(I)V"⟩,
  ⟨"ServiceBudgetsModel", "mends", "(I)I"⟩,
  ⟨"ServiceBudgetsModel", "goes", "(I)I"⟩,
  ⟨"ServiceBudgetsModel", "done", "(I)I"⟩,
  ⟨"ServiceBudgetsModel", "addService", "(I)I"⟩,
  ⟨"ServiceBudgetsModel", "addCall", "(IIIII)I"⟩,
  ⟨"ServiceBudgetsModel", "leader", "(I)I"⟩,
  ⟨"ServiceBudgetsModel", "removeCall", "(I)I"⟩,
  ⟨"ServiceBudgetsModel", "set", "(III)I"⟩,
  ⟨"ServiceBudgetsModel", "setLimit", "(II)I"⟩,
  ⟨"ServiceBudgetsModel", "services", "()I"⟩,
  ⟨"ServiceBudgetsModel", "calls", "()I"⟩,
  ⟨"ServiceBudgetsModel", "value", "(II)I"⟩,
  ⟨"ServiceBudgetsModel", "service", "(II)I"⟩,
  ⟨"ServiceBudgetsModel", "callValue", "(II)I"⟩,
  ⟨"ServiceBudgetsModel", "call", "(II)I"⟩,
  ⟨"ServiceBudgetsModel", "depends", "(II)Z"⟩,
  ⟨"ServiceBudgetsModel", "order", "(I)I"⟩,
  ⟨"ServiceBudgetsModel", "laysLevels", "()V"⟩,
  ⟨"ServiceBudgetsModel", "level", "(I)I"⟩,
  ⟨"ServiceBudgetsModel", "notesFailure", "(I)V"⟩,
  ⟨"ServiceBudgetsModel", "enters", "(III)V"⟩,
  ⟨"ServiceBudgetsModel", "begins", "()Z"⟩,
  ⟨"ServiceBudgetsModel", "opens", "(I)V"⟩,
  ⟨"ServiceBudgetsModel", "acts", "()I"⟩,
  ⟨"ServiceBudgetsModel", "closes", "(II)I"⟩,
  ⟨"ServiceBudgetsModel", "begunTry", "()V"⟩,
  ⟨"ServiceBudgetsModel", "returns", "()V"⟩,
  ⟨"ServiceBudgetsModel", "serves", "(II)Z"⟩,
  ⟨"ServiceBudgetsModel", "request", "(II)Z"⟩,
  ⟨"ServiceBudgetsModel", "result", "(I)I"⟩,
  ⟨"ServiceBudgetsModel", "failure", "(II)I"⟩,
  ⟨"ServiceBudgetsModel", "attempt", "(II)I"⟩,
  ⟨"ServiceBudgetsModel", "leastBudget", "(I)I"⟩,
  ⟨"ServiceBudgetsModel", "bounds", "(I)V"⟩,
  ⟨"ServiceBudgetsModel", "laysBounds", "()V"⟩,
  ⟨"ServiceBudgetsModel", "worst", "(I)I"⟩,
  ⟨"ServiceBudgetsModel", "unsoundMany", "()I"⟩,
  ⟨"ServiceBudgetsModel", "unsound", "()I"⟩,
  ⟨"ServiceBudgetsModel", "tighten", "()I"⟩,
  ⟨"ServiceBudgetsModel", "downs", "()I"⟩,
  ⟨"ServiceBudgetsModel", "isCutOff", "(II)Z"⟩,
  ⟨"ServiceBudgetsModel", "step", "()I"⟩,
  ⟨"ServiceBudgetsModel", "fail", "(I)I"⟩,
  ⟨"ServiceBudgetsModel", "repair", "(I)I"⟩,
  ⟨"ServiceBudgetsModel", "steps", "(I)I"⟩,
  ⟨"ServiceBudgetsModel", "down", "()I"⟩,
  ⟨"ServiceBudgetsModel", "spreads", "(I)I"⟩,
  ⟨"ServiceBudgetsModel", "spread", "(I)I"⟩,
  ⟨"ServiceBudgetsModel", "calm", "(I)I"⟩,
  ⟨"ServiceBudgetsModel", "nextBegun", "(II)I"⟩,
  ⟨"ServiceBudgetsModel", "recovers", "(I)I"⟩,
  ⟨"ServiceBudgetsModel", "recoveryTime", "(I)I"⟩,
  ⟨"ServiceBudgetsModel", "recoveryStart", "(II)I"⟩,
  ⟨"ServiceBudgetsModel", "timeOf", "(I)I"⟩,
  ⟨"ServiceBudgetsModel", "costWith", "(III)I"⟩,
  ⟨"ServiceBudgetsModel", "laysBest", "()I"⟩,
  ⟨"ServiceBudgetsModel", "bestCost", "()I"⟩,
  ⟨"ServiceBudgetsModel", "bestOrder", "(I)I"⟩,
  ⟨"ServiceBudgetsModel", "failing", "(I)I"⟩,
  ⟨"ServiceBudgetsModel", "failsBy", "(II)Z"⟩,
  ⟨"ServiceBudgetsModel", "laysFailing", "(I)V"⟩,
  ⟨"ServiceBudgetsModel", "size", "(I)I"⟩,
  ⟨"ServiceBudgetsModel", "isCut", "(I)Z"⟩,
  ⟨"ServiceBudgetsModel", "cutAt", "(III)I"⟩,
  ⟨"ServiceBudgetsModel", "cuts", "(II)I"⟩,
  ⟨"ServiceBudgetsModel", "cut", "(III)I"⟩,
  ⟨"ServiceBudgetsModel", "available", "(I)D"⟩,
  ⟨"ServiceBudgetsModel", "availability", "(I)I"⟩,
  ⟨"ServiceBudgetsModel", "weakest", "(I)I"⟩,
  ⟨"ServiceBudgetsModel", "append", "(I)I"⟩,
  ⟨"ServiceBudgetsModel", "clearText", "()I"⟩,
  ⟨"ServiceBudgetsModel", "isAt", "(II)Z"⟩,
  ⟨"ServiceBudgetsModel", "numbersOf", "(I)I"⟩,
  ⟨"ServiceBudgetsModel", "isNumber", "(I)Z"⟩,
  ⟨"ServiceBudgetsModel", "isCommand", "()Z"⟩,
  ⟨"ServiceBudgetsModel", "does", "()I"⟩,
  ⟨"ServiceBudgetsModel", "execute", "()I"⟩,
  ⟨"ServiceBudgetsModel", "undo", "()I"⟩,
  ⟨"ServiceBudgetsModel", "mix", "(I)V"⟩,
  ⟨"ServiceBudgetsModel", "digest", "()J"⟩,
  ⟨"ServiceBudgetsLaw", "addService", "(LServiceBudgets;I[J)I"⟩,
  ⟨"ServiceBudgetsLaw", "addCall", "(LServiceBudgets;IIIII[J)I"⟩,
  ⟨"ServiceBudgetsLaw", "removeCall", "(LServiceBudgets;I[J)I"⟩,
  ⟨"ServiceBudgetsLaw", "set", "(LServiceBudgets;III[J)I"⟩,
  ⟨"ServiceBudgetsLaw", "setLimit", "(LServiceBudgets;II[J)I"⟩,
  ⟨"ServiceBudgetsLaw", "service", "(LServiceBudgets;II[J)I"⟩,
  ⟨"ServiceBudgetsLaw", "call", "(LServiceBudgets;II[J)I"⟩,
  ⟨"ServiceBudgetsLaw", "depends", "(LServiceBudgets;II[J)I"⟩,
  ⟨"ServiceBudgetsLaw", "level", "(LServiceBudgets;I[J)I"⟩,
  ⟨"ServiceBudgetsLaw", "request", "(LServiceBudgets;II[J)I"⟩,
  ⟨"ServiceBudgetsLaw", "result", "(LServiceBudgets;I[J)I"⟩,
  ⟨"ServiceBudgetsLaw", "failure", "(LServiceBudgets;II[J)I"⟩,
  ⟨"ServiceBudgetsLaw", "attempt", "(LServiceBudgets;II[J)I"⟩,
  ⟨"ServiceBudgetsLaw", "leastBudget", "(LServiceBudgets;I[J)I"⟩,
  ⟨"ServiceBudgetsLaw", "worst", "(LServiceBudgets;I[J)I"⟩,
  ⟨"ServiceBudgetsLaw", "fail", "(LServiceBudgets;I[J)I"⟩,
  ⟨"ServiceBudgetsLaw", "repair", "(LServiceBudgets;I[J)I"⟩,
  ⟨"ServiceBudgetsLaw", "steps", "(LServiceBudgets;I[J)I"⟩,
  ⟨"ServiceBudgetsLaw", "spread", "(LServiceBudgets;I[J)I"⟩,
  ⟨"ServiceBudgetsLaw", "calm", "(LServiceBudgets;I[J)I"⟩,
  ⟨"ServiceBudgetsLaw", "recoveryTime", "(LServiceBudgets;I[J)I"⟩,
  ⟨"ServiceBudgetsLaw", "recoveryStart", "(LServiceBudgets;II[J)I"⟩,
  ⟨"ServiceBudgetsLaw", "failsBy", "(LServiceBudgets;II[J)I"⟩,
  ⟨"ServiceBudgetsLaw", "cuts", "(LServiceBudgets;II[J)I"⟩,
  ⟨"ServiceBudgetsLaw", "cut", "(LServiceBudgets;III[J)I"⟩,
  ⟨"ServiceBudgetsLaw", "availability", "(LServiceBudgets;I[J)I"⟩,
  ⟨"ServiceBudgetsLaw", "weakest", "(LServiceBudgets;I[J)I"⟩,
  ⟨"ServiceBudgetsLaw", "append", "(LServiceBudgets;I[J)I"⟩,
  ⟨"ServiceBudgetsLaw", "undo", "(LServiceBudgets;[J)I"⟩,
  ⟨"ServiceBudgetsLaw", "law", "([I)Z"⟩,
  ⟨"java/lang/Math", "max", "(II)I"⟩,
  ⟨"java/lang/Math", "min", "(II)I"⟩,
  ⟨"java/lang/Integer", "bitCount", "(I)I"⟩,
  ⟨"java/lang/Float", "floatToIntBits", "(F)I"⟩,
  ⟨"java/lang/Float", "isNaN", "(F)Z"⟩]
def zYn (m : Nat) : MethodName := zYnT.getD m ⟨"", "", ""⟩
def zCdT : List ByteArray := [prog_2_method_1_code, prog_2_method_2_code, prog_2_method_3_code, prog_2_method_4_code, prog_2_method_5_code, prog_2_method_6_code, prog_3_method_1_code, prog_3_method_2_code, prog_3_method_3_code, prog_3_method_4_code, prog_3_method_5_code, prog_3_method_6_code, prog_3_method_7_code, prog_3_method_8_code, prog_3_method_9_code, prog_3_method_10_code, prog_3_method_11_code, prog_4_method_1_code, prog_4_method_2_code, prog_4_method_3_code, prog_4_method_4_code, prog_4_method_5_code, prog_4_method_6_code, prog_4_method_7_code, prog_4_method_8_code, prog_4_method_9_code, prog_4_method_10_code, prog_4_method_11_code, prog_4_method_12_code, prog_4_method_13_code, prog_4_method_14_code, prog_5_method_1_code, prog_5_method_2_code, prog_5_method_3_code, prog_5_method_4_code, prog_5_method_5_code, prog_6_method_1_code, prog_6_method_2_code, prog_6_method_3_code, prog_6_method_4_code, prog_6_method_5_code, prog_6_method_6_code, prog_6_method_7_code, prog_6_method_8_code, prog_6_method_9_code, prog_6_method_10_code, prog_7_method_1_code, prog_7_method_2_code, prog_7_method_3_code, prog_7_method_4_code, prog_7_method_5_code, prog_7_method_6_code, prog_7_method_7_code, prog_7_method_8_code, prog_7_method_9_code, prog_7_method_10_code, prog_7_method_11_code, prog_8_method_1_code, prog_8_method_5_code, prog_8_method_6_code, prog_8_method_7_code, prog_8_method_8_code, prog_8_method_9_code, prog_8_method_10_code, prog_8_method_11_code, prog_9_method_1_code, prog_9_method_2_code, prog_9_method_3_code, prog_9_method_4_code, prog_9_method_5_code, prog_9_method_6_code, prog_9_method_7_code, prog_9_method_8_code, prog_9_method_9_code, prog_9_method_10_code, prog_9_method_11_code, prog_9_method_12_code, prog_9_method_13_code, prog_9_method_14_code, prog_9_method_15_code, prog_9_method_16_code, prog_9_method_17_code, prog_9_method_18_code, prog_9_method_19_code, prog_9_method_20_code, prog_9_method_21_code, prog_9_method_22_code, prog_9_method_23_code, prog_9_method_24_code, prog_9_method_25_code, prog_9_method_26_code, prog_9_method_27_code, prog_9_method_28_code, prog_9_method_29_code, prog_9_method_30_code, prog_9_method_31_code, prog_9_method_32_code, prog_9_method_33_code, prog_9_method_34_code, prog_9_method_35_code, prog_9_method_36_code, prog_9_method_37_code, prog_10_method_1_code, prog_10_method_2_code, prog_10_method_3_code, prog_10_method_4_code, prog_10_method_5_code, prog_10_method_6_code, prog_10_method_7_code, prog_10_method_8_code, prog_10_method_9_code, prog_10_method_10_code, prog_10_method_11_code, prog_10_method_12_code, prog_10_method_13_code, prog_1_method_1_code, prog_1_method_2_code, prog_1_method_3_code, prog_1_method_4_code, prog_1_method_5_code, prog_1_method_6_code, prog_1_method_7_code, prog_1_method_8_code, prog_1_method_9_code, prog_1_method_10_code, prog_1_method_11_code, prog_1_method_12_code, prog_1_method_13_code, prog_1_method_14_code, prog_1_method_15_code, prog_1_method_16_code, prog_1_method_17_code, prog_1_method_18_code, prog_1_method_19_code, prog_1_method_20_code, prog_1_method_21_code, prog_1_method_22_code, prog_1_method_23_code, prog_1_method_24_code, prog_1_method_25_code, prog_1_method_26_code, prog_1_method_27_code, prog_1_method_28_code, prog_1_method_29_code, prog_1_method_30_code, prog_1_method_31_code, prog_1_method_32_code, prog_1_method_33_code, prog_1_method_34_code, prog_1_method_35_code, prog_1_method_36_code, prog_1_method_37_code, prog_1_method_38_code, prog_1_method_39_code, prog_1_method_40_code, prog_1_method_41_code, prog_1_method_42_code, prog_1_method_43_code, prog_1_method_44_code, prog_1_method_45_code, prog_12_method_1_code, prog_12_method_2_code, prog_12_method_3_code, prog_12_method_4_code, prog_12_method_5_code, prog_12_method_6_code, prog_12_method_7_code, prog_12_method_8_code, prog_12_method_9_code, prog_12_method_10_code, prog_12_method_11_code, prog_12_method_12_code, prog_12_method_13_code, prog_12_method_14_code, prog_12_method_15_code, prog_12_method_16_code, prog_12_method_17_code, prog_12_method_18_code, prog_12_method_19_code, prog_12_method_20_code, prog_12_method_21_code, prog_12_method_22_code, prog_12_method_23_code, prog_12_method_24_code, prog_12_method_25_code, prog_12_method_26_code, prog_12_method_27_code, prog_12_method_28_code, prog_12_method_29_code, prog_12_method_30_code, prog_12_method_31_code, prog_12_method_32_code, prog_12_method_33_code, prog_12_method_34_code, prog_12_method_35_code, prog_12_method_36_code, prog_12_method_37_code, prog_12_method_38_code, prog_12_method_39_code, prog_12_method_40_code, prog_12_method_41_code, prog_12_method_42_code, prog_12_method_43_code, prog_12_method_44_code, prog_12_method_45_code, prog_12_method_46_code, prog_12_method_47_code, prog_12_method_48_code, prog_12_method_49_code, prog_12_method_50_code, prog_12_method_51_code, prog_12_method_52_code, prog_12_method_53_code, prog_12_method_54_code, prog_12_method_55_code, prog_12_method_56_code, prog_12_method_57_code, prog_12_method_58_code, prog_12_method_59_code, prog_12_method_60_code, prog_12_method_61_code, prog_12_method_62_code, prog_12_method_63_code, prog_12_method_64_code, prog_12_method_65_code, prog_12_method_66_code, prog_12_method_67_code, prog_12_method_68_code, prog_12_method_69_code, prog_12_method_70_code, prog_12_method_71_code, prog_12_method_72_code, prog_12_method_73_code, prog_12_method_74_code, prog_12_method_75_code, prog_12_method_76_code, prog_12_method_77_code, prog_12_method_78_code, prog_12_method_79_code, prog_12_method_80_code, prog_12_method_81_code, prog_12_method_82_code, prog_12_method_83_code, prog_12_method_84_code, prog_12_method_85_code, prog_12_method_86_code, prog_12_method_87_code, prog_12_method_88_code, prog_12_method_89_code, prog_12_method_90_code, prog_12_method_91_code, prog_12_method_92_code, prog_12_method_93_code, prog_12_method_94_code, prog_12_method_95_code, prog_12_method_96_code, prog_12_method_97_code, prog_12_method_98_code, prog_12_method_99_code, prog_12_method_100_code, prog_12_method_101_code, prog_12_method_102_code, prog_12_method_103_code, prog_12_method_104_code, prog_12_method_105_code, prog_12_method_106_code, prog_12_method_107_code, prog_12_method_108_code, prog_12_method_109_code, prog_12_method_110_code, method_3_code, method_4_code, method_5_code, method_6_code, method_7_code, method_8_code, method_9_code, method_10_code, method_11_code, method_12_code, method_13_code, method_14_code, method_15_code, method_16_code, method_17_code, method_18_code, method_19_code, method_20_code, method_21_code, method_22_code, method_23_code, method_24_code, method_25_code, method_26_code, method_27_code, method_28_code, method_29_code, method_30_code, method_31_code, code, prog_19_method_65_code, prog_19_method_69_code, prog_18_method_49_code, prog_14_method_24_code, prog_14_method_6_code]
def zCd (m : Nat) : ByteArray := zCdT.getD m ⟨#[]⟩
def zOwT : List Nat := [0, 0, 0, 0, 0, 0, 1, 1, 1, 1, 1, 1, 1, 1, 1, 1, 1, 2, 2, 2, 2, 2, 2, 2, 2, 2, 2, 2, 2, 2, 2, 3, 3, 3, 3, 3, 4, 4, 4, 4, 4, 4, 4, 4, 4, 4, 5, 5, 5, 5, 5, 5, 5, 5, 5, 5, 5, 6, 6, 6, 6, 6, 6, 6, 6, 7, 7, 7, 7, 7, 7, 7, 7, 7, 7, 7, 7, 7, 7, 7, 7, 7, 7, 7, 7, 7, 7, 7, 7, 7, 7, 7, 7, 7, 7, 7, 7, 7, 7, 7, 7, 7, 8, 8, 8, 8, 8, 8, 8, 8, 8, 8, 8, 8, 8, 9, 9, 9, 9, 9, 9, 9, 9, 9, 9, 9, 9, 9, 9, 9, 9, 9, 9, 9, 9, 9, 9, 9, 9, 9, 9, 9, 9, 9, 9, 9, 9, 9, 9, 9, 9, 9, 9, 9, 9, 9, 9, 9, 9, 9, 10, 10, 10, 10, 10, 10, 10, 10, 10, 10, 10, 10, 10, 10, 10, 10, 10, 10, 10, 10, 10, 10, 10, 10, 10, 10, 10, 10, 10, 10, 10, 10, 10, 10, 10, 10, 10, 10, 10, 10, 10, 10, 10, 10, 10, 10, 10, 10, 10, 10, 10, 10, 10, 10, 10, 10, 10, 10, 10, 10, 10, 10, 10, 10, 10, 10, 10, 10, 10, 10, 10, 10, 10, 10, 10, 10, 10, 10, 10, 10, 10, 10, 10, 10, 10, 10, 10, 10, 10, 10, 10, 10, 10, 10, 10, 10, 10, 10, 10, 10, 10, 10, 10, 10, 10, 10, 10, 10, 10, 10, 11, 11, 11, 11, 11, 11, 11, 11, 11, 11, 11, 11, 11, 11, 11, 11, 11, 11, 11, 11, 11, 11, 11, 11, 11, 11, 11, 11, 11, 11, 12, 12, 13, 14, 14]
def zOw (m : Nat) : Nat := zOwT.getD m 0
def zRtT : List (Option FieldType) := [none, some .int, some .boolean, some .long, some .double]
def zRt (m : Nat) : Option FieldType := zRtT.getD (zRk m) none
/-- static, constructor, other: 0, 1, 2 -/
def zKdT : List Nat := [1, 2, 2, 2, 2, 2, 1, 2, 0, 2, 2, 2, 2, 2, 2, 2, 2, 1, 2, 2, 2, 2, 2, 2, 2, 2, 2, 2, 2, 2, 2, 1, 2, 2, 2, 2, 1, 2, 2, 2, 2, 2, 2, 2, 0, 2, 1, 2, 2, 2, 2, 2, 2, 2, 2, 2, 2, 1, 0, 0, 0, 0, 2, 2, 2, 1, 2, 2, 2, 2, 2, 2, 2, 2, 2, 2, 2, 2, 2, 2, 2, 2, 2, 2, 2, 2, 2, 2, 2, 2, 2, 2, 2, 2, 2, 2, 2, 2, 2, 2, 2, 2, 1, 2, 2, 2, 2, 0, 0, 2, 0, 2, 2, 2, 2, 1, 2, 2, 2, 2, 2, 2, 2, 2, 2, 2, 2, 2, 2, 2, 2, 2, 2, 2, 2, 2, 2, 2, 2, 2, 2, 2, 2, 2, 2, 2, 2, 2, 2, 2, 2, 2, 2, 2, 2, 2, 0, 0, 0, 0, 1, 2, 0, 2, 2, 2, 2, 2, 2, 2, 2, 2, 2, 2, 2, 2, 2, 2, 2, 2, 2, 2, 2, 2, 2, 0, 2, 2, 2, 2, 2, 2, 2, 2, 2, 2, 2, 2, 2, 2, 2, 2, 2, 2, 2, 2, 2, 2, 2, 2, 2, 2, 2, 2, 2, 2, 2, 2, 2, 2, 2, 2, 2, 2, 2, 2, 2, 2, 2, 2, 2, 2, 2, 2, 2, 2, 2, 2, 2, 2, 2, 2, 2, 2, 2, 2, 2, 2, 2, 2, 2, 0, 2, 2, 2, 2, 2, 2, 2, 2, 2, 2, 0, 2, 2, 2, 2, 2, 2, 2, 0, 0, 0, 0, 0, 0, 0, 0, 0, 0, 0, 0, 0, 0, 0, 0, 0, 0, 0, 0, 0, 0, 0, 0, 0, 0, 0, 0, 0, 0, 0, 0, 0, 0, 0]
def zKd (m : Nat) : Nat := zKdT.getD m 0
/-- exception tables of the methods that have one -/
def zHhT : List (List (Nat × Nat × Nat × Nat)) := [[], [], [], [], [], [], [], [], [], [], [], [], [], [], [], [], [], [], [], [], [], [], [], [], [], [], [], [], [], [], [], [], [], [], [], [], [], [], [], [], [], [], [], [], [], [], [], [], [], [], [], [], [], [], [], [], [], [], [], [], [], [], [], [], [], [], [], [], [], [], [], [], [], [], [], [], [], [], [], [], [], [], [], [], [], [], [], [], [], [], [], [], [], [], [], [], [], [], [], [], [], [], [], [], [], [], [], [], [], [], [], [], [], [], [], [], [], [], [], [], [], [], [], [], [], [], [], [], [], [], [], [], [], [], [], [], [], [], [], [], [], [], [], [], [], [], [], [], [], [], [], [], [], [], [], [], [], [], [], [], [], [], [], [], [], [], [], [], [], [], [], [], [], [], [], [], [], [], [], [], [], [], [], [], [], [], [], [], [], [], [], [], [], [], [], [], [], [], [], [], [], [], [], [], [], [], [], [], [], [], [], [], [], [], [], [], [], [], [], [], [], [], [], [], [], [], [], [], [], [], [], [], [], [], [], [], [], [], [], [], [], [], [], [], [], [], [], [], [], [], [], [], [], [], [], [], [], [], [], [], [], [], [], [], [], [], [], [], [], [], [(0, 9, 12, 13), (0, 9, 15, 15)], [(0, 16, 19, 21), (0, 16, 23, 13), (0, 16, 27, 15)], [(0, 9, 12, 21), (0, 9, 15, 15)], [(0, 12, 15, 21), (0, 12, 19, 13)], [(0, 10, 13, 21), (0, 10, 17, 13)], [(0, 10, 13, 21), (0, 10, 17, 13)], [(0, 10, 13, 21), (0, 10, 17, 13)], [(0, 17, 20, 21)], [(0, 9, 12, 21)], [(0, 17, 20, 21), (0, 17, 24, 13)], [(0, 9, 12, 13), (0, 9, 15, 15)], [(0, 10, 13, 13)], [(0, 10, 13, 13)], [(0, 9, 12, 21)], [(0, 9, 12, 21)], [(0, 9, 12, 21), (0, 9, 15, 15)], [(0, 9, 12, 21), (0, 9, 15, 15)], [(0, 9, 12, 13)], [(0, 9, 12, 21), (0, 9, 15, 15)], [(0, 9, 12, 21), (0, 9, 15, 15)], [(0, 9, 12, 13)], [(0, 10, 13, 13), (0, 10, 17, 21)], [(0, 17, 20, 21), (0, 17, 24, 13)], [(0, 10, 13, 21), (0, 10, 17, 13)], [(0, 12, 15, 21), (0, 12, 19, 13)], [(0, 9, 12, 21)], [(0, 9, 12, 21)], [(0, 9, 12, 13), (0, 9, 15, 15)], [(0, 8, 11, 15)], [], [], [], [], [], []]
def zHh (m : Nat) : List (Nat × Nat × Nat × Nat) := zHhT.getD m []
def zCw (m : Nat) : Cond := if zHh m = [] then .code (zYn m) (zCd m) (zMl m) (zRt m) else .codeWith (zYn m) (zCd m) (zMl m) (zRt m) (zHh m)
def zSelX : List Cond := [.selects (zCn 0) (zYn 63) (zYn 63), .selects (zCn 5) (zYn 63) (zYn 63), .selects (zCn 0) (zYn 64) (zYn 64), .selects (zCn 5) (zYn 64) (zYn 64)]
def zT : List Cond := zSelX ++ lw_tbl
def zGood : List Cond := zT.filter goodWord
theorem zg_t {w : Cond} (i : Nat) (h : tables_1[i]? = some w) (hg : goodWord w = true) : w ∈ zGood := List.mem_filter.mpr ⟨List.mem_append_right _ (List.mem_append_right _ (List.mem_of_getElem? h)), hg⟩
theorem zg_s {w : Cond} (i : Nat) (h : (k2_sels lw_privs)[i]? = some w) (hg : goodWord w = true) : w ∈ zGood := List.mem_filter.mpr ⟨List.mem_append_right _ (List.mem_append_left _ (List.mem_of_getElem? h)), hg⟩
theorem zg_x {w : Cond} (i : Nat) (h : zSelX[i]? = some w) (hg : goodWord w = true) : w ∈ zGood := List.mem_filter.mpr ⟨List.mem_append_left _ (List.mem_of_getElem? h), hg⟩
def zWs (m : Nat) : List Cond := zCw m :: zGood
/-- words of a table by places -/
def zPl {α : Type} (es : List α) (ps : List Nat) (f : α → Cond) : Bool := es.length == ps.length && (es.zip ps).all (fun q => decide (tables_1[q.2]? = some (f q.1)) && goodWord (f q.1))
theorem zPl_zip {α β : Type} : ∀ (es : List α) (ps : List β), es.length = ps.length → ∀ e ∈ es, ∃ p, (e, p) ∈ es.zip ps
  | [], _, _ => fun _ h => nomatch h
  | a :: es, [], h => by simp at h
  | a :: es, p :: ps, h => fun e he => by
    rcases List.mem_cons.mp he with rfl | he
    · exact ⟨p, by simp⟩
    · obtain ⟨p2, h2⟩ := zPl_zip es ps (by simpa using h) e he
      exact ⟨p2, by simp [h2]⟩
theorem zPl_ok {α : Type} {es : List α} {ps : List Nat} {f : α → Cond} (h : zPl es ps f = true) : ∀ e ∈ es, f e ∈ zGood := by
  intro e he
  unfold zPl at h
  rw [Bool.and_eq_true] at h
  obtain ⟨p, hp⟩ := zPl_zip es ps (by simpa using h.1) e he
  have h1 := List.all_eq_true.mp h.2 _ hp
  rw [Bool.and_eq_true, decide_eq_true_eq] at h1
  exact zg_t p h1.1 h1.2
/-- words that are not kept by themselves: places alone -/
def zPq {α : Type} (es : List α) (ps : List Nat) (f : α → Cond) : Bool := es.length == ps.length && (es.zip ps).all (fun q => decide (tables_1[q.2]? = some (f q.1)))
theorem zPq_ok {α : Type} {es : List α} {ps : List Nat} {f : α → Cond} (h : zPq es ps f = true) : ∀ e ∈ es, f e ∈ tables_1 := by
  intro e he
  unfold zPq at h
  rw [Bool.and_eq_true] at h
  obtain ⟨p, hp⟩ := zPl_zip es ps (by simpa using h.1) e he
  have h1 := List.all_eq_true.mp h.2 _ hp
  rw [decide_eq_true_eq] at h1
  exact List.mem_of_getElem? h1
theorem zSelX_good : zSelX.all goodWord = true := by decide +kernel
def zLay : List (Nat × Nat) := [(0, 0), (1, 0), (1, 1), (1, 2), (2, 0), (2, 1), (2, 2), (2, 3), (2, 4), (3, 0), (3, 1), (4, 0), (4, 1), (4, 2), (4, 3), (5, 0), (5, 1), (5, 2), (5, 3), (5, 4), (5, 5), (5, 6), (5, 7), (5, 8), (5, 9), (7, 0), (7, 1), (7, 2), (7, 3), (8, 0), (8, 1), (8, 2), (8, 3), (9, 0), (9, 1), (9, 2), (9, 3), (9, 4), (9, 5), (9, 6), (9, 7), (9, 8), (10, 0), (10, 1), (10, 2), (10, 3), (10, 4), (10, 5), (10, 6), (10, 7), (10, 8), (10, 9), (10, 10), (10, 11), (10, 12), (10, 13), (10, 14), (10, 15), (10, 16), (10, 17), (10, 18), (10, 19), (10, 20), (10, 21), (10, 22), (10, 23), (10, 24), (10, 25), (10, 26), (10, 27), (10, 28), (10, 29), (10, 30), (10, 31), (10, 32), (10, 33), (10, 34), (10, 35), (10, 36), (10, 37), (10, 38), (10, 39), (10, 40), (10, 41), (10, 42), (10, 43)]
def zLayp : List Nat := [158, 192, 194, 196, 99, 101, 103, 105, 107, 81, 83, 172, 174, 176, 178, 130, 132, 134, 136, 138, 140, 142, 144, 146, 148, 59, 61, 63, 65, 213, 215, 217, 219, 231, 233, 235, 237, 239, 241, 243, 245, 247, 1172, 1174, 1176, 1178, 1180, 1182, 1184, 1186, 1188, 1190, 1192, 1194, 1196, 1198, 1200, 1202, 1204, 1206, 1208, 1210, 1212, 1214, 1216, 1218, 1220, 1222, 1224, 1226, 1228, 1230, 1232, 1234, 1236, 1238, 1240, 1242, 1244, 1246, 1248, 1250, 1252, 1254, 1256, 1258]
theorem zLay_c : zPl zLay zLayp (fun e => u_lay (zCn e.1) (zTx e.1) e.2) = true := by decide +kernel
theorem zLay_ok : ∀ e ∈ zLay, ((fun e => u_lay (zCn e.1) (zTx e.1) e.2)) e ∈ zGood := zPl_ok zLay_c
theorem zLay_all : ∀ t, t < 11 → ∀ k, k < zNf t → (t, k) ∈ zLay := by decide +kernel
theorem zLay_in {t : Nat} (ht : t < 11) : ∀ w ∈ u_ws (zCn t) (zTx t) (zNf t), w ∈ zGood := by
  intro w hw
  obtain ⟨k, hk, rfl⟩ := List.mem_map.mp hw
  exact zLay_ok (t, k) (zLay_all t ht k (List.mem_range.mp hk))
def zFL : List (Nat × Nat × Nat) := [(7, 9, 448), (1, 24, 448), (4, 30, 448), (2, 32, 448), (0, 36, 448), (9, 110, 448), (7, 15, 449), (1, 50, 449), (2, 41, 449), (9, 114, 449), (6, 26, 449), (7, 20, 450), (4, 58, 450), (1, 96, 450), (7, 23, 451), (5, 61, 451), (2, 44, 451), (0, 44, 451), (1, 76, 451), (9, 129, 451), (6, 59, 451), (3, 13, 192), (3, 17, 193), (9, 291, 193), (2, 9, 128), (2, 15, 129), (2, 18, 130), (2, 22, 131), (9, 149, 131), (2, 25, 132), (9, 177, 132), (5, 9, 320), (5, 15, 321), (5, 19, 322), (5, 22, 323), (5, 25, 324), (5, 28, 325), (5, 31, 326), (5, 34, 327), (5, 39, 328), (5, 42, 329), (0, 9, 0), (4, 9, 256), (4, 15, 257), (9, 221, 257), (4, 18, 258), (4, 21, 259), (1, 13, 64), (1, 16, 65), (1, 20, 66), (8, 11, 512), (8, 15, 513), (9, 288, 513), (8, 19, 514), (8, 24, 515), (9, 10, 576), (9, 16, 577), (9, 22, 578), (9, 29, 579), (9, 36, 580), (9, 43, 581), (9, 50, 582), (9, 57, 583), (9, 64, 584), (10, 7, 640), (10, 13, 641), (10, 16, 642), (10, 93, 643), (10, 19, 644), (10, 341, 645), (10, 89, 646), (10, 22, 647), (10, 25, 648), (10, 124, 649), (10, 28, 650), (10, 31, 651), (10, 34, 652), (10, 37, 653), (10, 40, 654), (10, 43, 655), (10, 46, 656), (10, 49, 657), (10, 52, 658), (10, 56, 659), (10, 205, 660), (10, 255, 661), (10, 233, 662), (10, 202, 663), (10, 236, 664), (10, 208, 665), (10, 211, 666), (10, 214, 667), (10, 59, 668), (10, 62, 669), (10, 65, 670), (10, 68, 671), (10, 71, 672), (10, 261, 673), (10, 217, 674), (10, 74, 675), (10, 289, 676), (10, 77, 677), (10, 80, 678), (10, 83, 679), (10, 344, 680), (10, 350, 681), (10, 86, 682), (10, 367, 683)]
def zFLp : List Nat := [38, 39, 40, 41, 42, 43, 44, 45, 46, 47, 48, 49, 50, 51, 52, 53, 54, 55, 56, 57, 58, 78, 79, 80, 92, 93, 94, 95, 96, 97, 98, 120, 121, 122, 123, 124, 125, 126, 127, 128, 129, 157, 167, 168, 169, 170, 171, 189, 190, 191, 208, 209, 210, 211, 212, 222, 223, 224, 225, 226, 227, 228, 229, 230, 1128, 1129, 1130, 1131, 1132, 1133, 1134, 1135, 1136, 1137, 1138, 1139, 1140, 1141, 1142, 1143, 1144, 1145, 1146, 1147, 1148, 1149, 1150, 1151, 1152, 1153, 1154, 1155, 1156, 1157, 1158, 1159, 1160, 1161, 1162, 1163, 1164, 1165, 1166, 1167, 1168, 1169, 1170, 1171]
theorem zFL_c : zPl zFL zFLp (fun e => .fieldLink (zCn e.1) e.2.1 (zTx (e.2.2 / 64) (e.2.2 % 64)).1 (zTx (e.2.2 / 64) (e.2.2 % 64)).2.1 (zTx (e.2.2 / 64) (e.2.2 % 64)).2.2.1) = true := by decide +kernel
theorem zFL_ok : ∀ e ∈ zFL, ((fun e => .fieldLink (zCn e.1) e.2.1 (zTx (e.2.2 / 64) (e.2.2 % 64)).1 (zTx (e.2.2 / 64) (e.2.2 % 64)).2.1 (zTx (e.2.2 / 64) (e.2.2 % 64)).2.2.1)) e ∈ zGood := zPl_ok zFL_c
def zStN : List (String × String × String) := [("ServiceBudgets$State", "LEAST", "[I"), ("ServiceBudgets$State", "MOST", "[I"), ("ServiceBudgets$State", "INITIAL", "[I"), ("ServiceBudgets$FailureSets", "MEMBERS", "[J")]
def zSn (n : Nat) : String × String × String := zStN.getD n ("", "", "")
def zSF : List (Nat × Nat × Nat) := [(7, 32, 0), (7, 36, 1), (7, 39, 2), (1, 65, 3)]
def zSFp : List Nat := [440, 442, 485, 1024]
theorem zSF_c : zPl zSF zSFp (fun e => .fieldLink (zCn e.1) e.2.1 (zSn e.2.2).1 (zSn e.2.2).2.1 (zSn e.2.2).2.2) = true := by decide +kernel
theorem zSF_ok : ∀ e ∈ zSF, ((fun e => .fieldLink (zCn e.1) e.2.1 (zSn e.2.2).1 (zSn e.2.2).2.1 (zSn e.2.2).2.2)) e ∈ zGood := zPl_ok zSF_c
def zCL : List (Nat × Nat × Nat) := [(11, 8, 9), (9, 7, 7), (9, 19, 3), (3, 11, 7), (9, 26, 2), (9, 33, 5), (9, 40, 0), (9, 47, 4), (9, 54, 1), (9, 61, 8), (11, 109, 10)]
def zCLp : List Nat := [22, 30, 69, 75, 86, 110, 151, 161, 181, 201, 1122]
theorem zCL_c : zPl zCL zCLp (fun e => .classLink (zCn e.1) e.2.1 (zCn e.2.2)) = true := by decide +kernel
theorem zCL_ok : ∀ e ∈ zCL, ((fun e => .classLink (zCn e.1) e.2.1 (zCn e.2.2))) e ∈ zGood := zPl_ok zCL_c
def zMt (t : Nat) : FieldType := if t = 0 then .int else .long
def zMA : List (Nat × Nat × Nat) := [(7, 18, 0), (5, 37, 0), (1, 11, 1), (8, 22, 0)]
def zMAp : List Nat := [36, 119, 187, 207]
theorem zMA_c : zPl zMA zMAp (fun e => .classLink (zCn e.1) e.2.1 ("[" ++ (FieldType.array (zMt e.2.2)).toString)) = true := by decide +kernel
theorem zMA_ok : ∀ e ∈ zMA, ((fun e => .classLink (zCn e.1) e.2.1 ("[" ++ (FieldType.array (zMt e.2.2)).toString))) e ∈ zGood := zPl_ok zMA_c
def zKI : List (Nat × Nat × Int) := [(2, 74, 100000), (13, 265, 1431655765), (13, 266, 858993459), (13, 267, 252645135), (10, 264, 100000), (10, 307, 100000000), (14, 77, 2143289344)]
def zKIp : List Nat := [301, 390, 391, 392, 1496, 1597, 1659]
theorem zKI_c : zPl zKI zKIp (fun e => .constant (zCn e.1) e.2.1 (Int32.ofInt e.2.2)) = true := by decide +kernel
theorem zKI_ok : ∀ e ∈ zKI, ((fun e => .constant (zCn e.1) e.2.1 (Int32.ofInt e.2.2))) e ∈ zGood := zPl_ok zKI_c
def zKL : List (Nat × Nat × Int) := [(9, 284, 57381), (9, 286, 31), (1, 71, (-1)), (10, 371, 1851), (10, 365, 31)]
def zKLp : List Nat := [541, 542, 1027, 1703, 1708]
theorem zKL_c : zPl zKL zKLp (fun e => .constantLong (zCn e.1) e.2.1 (Int64.ofInt e.2.2)) = true := by decide +kernel
theorem zKL_ok : ∀ e ∈ zKL, ((fun e => .constantLong (zCn e.1) e.2.1 (Int64.ofInt e.2.2))) e ∈ zGood := zPl_ok zKL_c
def zKD : List (Nat × Nat × Int) := [(1, 99, 4652007308841189376), (9, 311, 4611686018427387904), (9, 313, 4710765210229538816), (10, 329, 4652007308841189376)]
def zKDp : List Nat := [1074, 1078, 1079, 1649]
theorem zKD_c : zPl zKD zKDp (fun e => .constantDouble (zCn e.1) e.2.1 (UInt64.ofNat e.2.2.toNat)) = true := by decide +kernel
theorem zKD_ok : ∀ e ∈ zKD, ((fun e => .constantDouble (zCn e.1) e.2.1 (UInt64.ofNat e.2.2.toNat))) e ∈ zGood := zPl_ok zKD_c
def zIV : List (Nat × Nat × Nat) := [(0, 15, 91), (0, 21, 87), (0, 32, 2), (1, 36, 22), (1, 42, 21), (1, 53, 84), (1, 57, 86), (1, 61, 9), (1, 73, 85), (1, 80, 10), (1, 88, 11), (1, 92, 15), (1, 101, 14), (2, 28, 19), (2, 37, 20), (2, 52, 18), (2, 55, 24), (2, 64, 26), (2, 67, 81), (2, 75, 29), (2, 79, 79), (2, 82, 89), (3, 22, 33), (3, 25, 66), (4, 24, 92), (4, 38, 87), (4, 42, 37), (4, 46, 39), (4, 55, 41), (4, 62, 40), (4, 66, 43), (4, 72, 42), (5, 57, 49), (5, 69, 54), (6, 7, 91), (6, 23, 81), (6, 30, 84), (6, 44, 86), (6, 53, 85), (7, 42, 67), (7, 50, 87), (7, 57, 83), (7, 60, 68), (7, 63, 81), (7, 66, 82), (7, 69, 84), (7, 72, 88), (7, 75, 86), (7, 79, 90), (7, 82, 85), (7, 85, 91), (7, 88, 92), (7, 97, 99), (7, 100, 89), (7, 103, 100), (7, 107, 101), (7, 110, 95), (8, 27, 109), (8, 41, 111), (8, 44, 112), (8, 47, 70), (8, 52, 72), (8, 56, 94), (8, 59, 96), (8, 66, 76), (8, 69, 71), (8, 72, 73), (8, 75, 95), (8, 79, 97), (8, 82, 98), (8, 85, 77), (9, 68, 70), (9, 76, 32), (9, 80, 71), (9, 83, 72), (9, 87, 73), (9, 90, 74), (9, 93, 75), (9, 96, 76), (9, 100, 77), (9, 103, 78), (9, 107, 79), (9, 117, 67), (9, 123, 80), (9, 126, 68), (9, 133, 87), (9, 140, 18), (9, 143, 21), (9, 146, 23), (9, 153, 47), (9, 157, 52), (9, 161, 53), (9, 164, 55), (9, 167, 56), (9, 170, 1), (9, 174, 25), (9, 180, 27), (9, 184, 28), (9, 187, 94), (9, 190, 95), (9, 193, 93), (9, 196, 96), (9, 199, 97), (9, 202, 98), (9, 205, 92), (9, 208, 66), (9, 211, 99), (9, 214, 38), (9, 217, 91), (9, 224, 42), (9, 227, 45), (9, 230, 69), (9, 233, 30), (9, 236, 7), (9, 240, 12), (9, 244, 13), (9, 248, 14), (9, 256, 16), (9, 259, 103), (9, 262, 104), (9, 265, 105), (9, 268, 106), (9, 271, 113), (9, 274, 114), (9, 278, 34), (9, 281, 35), (10, 96, 164), (10, 100, 170), (10, 108, 168), (10, 111, 171), (10, 114, 172), (10, 117, 180), (10, 120, 169), (10, 127, 174), (10, 131, 182), (10, 135, 179), (10, 141, 176), (10, 144, 189), (10, 148, 187), (10, 152, 231), (10, 155, 163), (10, 158, 167), (10, 161, 165), (10, 164, 183), (10, 167, 192), (10, 170, 184), (10, 174, 173), (10, 177, 175), (10, 180, 195), (10, 183, 186), (10, 187, 177), (10, 190, 201), (10, 193, 203), (10, 196, 181), (10, 199, 207), (10, 221, 209), (10, 224, 178), (10, 227, 212), (10, 230, 214), (10, 239, 210), (10, 242, 211), (10, 246, 213), (10, 249, 215), (10, 252, 216), (10, 258, 217), (10, 265, 223), (10, 268, 224), (10, 271, 226), (10, 274, 229), (10, 277, 230), (10, 280, 188), (10, 283, 190), (10, 286, 191), (10, 292, 166), (10, 295, 236), (10, 298, 239), (10, 301, 240), (10, 304, 243), (10, 308, 244), (10, 311, 245), (10, 314, 248), (10, 317, 250), (10, 323, 252), (10, 326, 253), (10, 331, 256), (10, 347, 261), (10, 356, 263), (10, 359, 264), (10, 362, 265), (10, 373, 268), (11, 7, 116), (11, 17, 117), (11, 23, 118), (11, 26, 119), (11, 30, 120), (11, 34, 123), (11, 37, 124), (11, 40, 125), (11, 44, 127), (11, 47, 128), (11, 50, 129), (11, 53, 130), (11, 56, 131), (11, 59, 132), (11, 62, 133), (11, 65, 136), (11, 68, 137), (11, 71, 138), (11, 74, 140), (11, 77, 141), (11, 80, 142), (11, 83, 143), (11, 86, 146), (11, 89, 147), (11, 92, 148), (11, 95, 149), (11, 98, 150), (11, 101, 151), (11, 104, 154), (11, 117, 193), (11, 118, 161), (11, 124, 194), (11, 127, 196), (11, 131, 197), (11, 135, 198), (11, 136, 121), (11, 139, 199), (11, 140, 122), (11, 143, 200), (11, 146, 202), (11, 149, 204), (11, 152, 205), (11, 153, 126), (11, 156, 206), (11, 159, 208), (11, 162, 218), (11, 165, 219), (11, 168, 220), (11, 171, 221), (11, 174, 222), (11, 177, 225), (11, 178, 134), (11, 181, 227), (11, 182, 135), (11, 185, 228), (11, 188, 232), (11, 191, 233), (11, 194, 234), (11, 195, 139), (11, 198, 235), (11, 201, 237), (11, 204, 238), (11, 207, 241), (11, 210, 242), (11, 211, 144), (11, 214, 246), (11, 215, 145), (11, 218, 247), (11, 221, 249), (11, 224, 254), (11, 227, 255), (11, 230, 257), (11, 233, 258), (11, 236, 259), (11, 237, 152), (11, 240, 260), (11, 241, 153), (11, 244, 266), (11, 248, 267), (11, 249, 155), (11, 253, 269)]
def zIVp : List Nat := [908, 909, 915, 1016, 1020, 1028, 1029, 1030, 1034, 1044, 1040, 1070, 1091, 266, 270, 289, 769, 290, 294, 329, 333, 1003, 314, 318, 361, 363, 357, 556, 560, 564, 372, 393, 829, 871, 793, 806, 807, 844, 812, 448, 455, 456, 703, 547, 548, 460, 367, 512, 516, 520, 345, 507, 503, 508, 524, 528, 532, 410, 420, 424, 436, 444, 464, 468, 473, 481, 487, 491, 495, 499, 533, 577, 310, 681, 690, 691, 699, 707, 718, 719, 727, 731, 739, 543, 748, 756, 262, 277, 765, 783, 861, 865, 882, 893, 904, 285, 302, 325, 934, 935, 936, 948, 949, 957, 341, 431, 972, 552, 987, 353, 383, 995, 999, 1011, 1035, 1055, 1066, 1087, 1099, 1103, 398, 406, 432, 477, 1114, 1118, 1297, 1325, 1364, 1321, 1329, 1317, 1281, 1309, 1313, 1333, 1436, 1517, 1521, 1541, 1289, 1293, 1270, 1274, 1285, 1305, 1349, 1341, 1345, 1357, 1388, 1384, 1396, 1408, 1416, 1440, 1444, 1448, 1456, 1428, 1432, 1452, 1460, 1464, 1424, 1492, 1488, 1501, 1545, 1549, 1513, 1529, 1537, 1565, 1561, 1581, 1577, 1602, 1598, 1593, 1614, 1626, 1633, 1622, 1645, 1687, 1683, 1676, 1691, 1704, 573, 686, 695, 714, 723, 735, 744, 752, 761, 779, 857, 878, 889, 900, 923, 930, 944, 953, 961, 968, 976, 983, 991, 1007, 1051, 1062, 1083, 1095, 1110, 1266, 1262, 1301, 1337, 1353, 1368, 250, 1372, 254, 1376, 1380, 1392, 1400, 258, 1404, 1412, 1420, 1468, 1472, 1476, 1480, 1484, 281, 1497, 306, 1505, 1509, 1525, 1533, 337, 1553, 1557, 1569, 1573, 1585, 349, 1589, 379, 1606, 1610, 1618, 1637, 1641, 1660, 1664, 394, 1668, 402, 1672, 1695, 537, 1699]
theorem zIV_c : zPl zIV zIVp (fun e => .methodLink (zCn e.1) e.2.1 (zYn e.2.2)) = true := by decide +kernel
theorem zIV_ok : ∀ e ∈ zIV, ((fun e => .methodLink (zCn e.1) e.2.1 (zYn e.2.2))) e ∈ zGood := zPl_ok zIV_c
def zIS : List (Nat × Nat × Nat) := [(1, 30, 300), (1, 46, 8), (1, 83, 302), (2, 58, 300), (2, 71, 301), (4, 50, 302), (4, 69, 44), (6, 19, 59), (6, 38, 61), (6, 41, 60), (6, 50, 58), (6, 63, 301), (7, 92, 302), (8, 31, 108), (8, 35, 110), (8, 38, 107), (9, 72, 156), (9, 120, 157), (9, 136, 158), (9, 252, 159), (10, 104, 162), (10, 138, 185), (10, 320, 251), (10, 335, 303), (10, 353, 262), (14, 59, 304)]
def zISp : List Nat := [1015, 1021, 1039, 773, 298, 387, 376, 803, 837, 840, 841, 817, 940, 428, 414, 417, 578, 740, 757, 1075, 1278, 1361, 1630, 1650, 1680, 1653]
theorem zIS_c : zPl zIS zISp (fun e => .methodLink (zCn e.1) e.2.1 (zYn e.2.2)) = true := by decide +kernel
theorem zIS_ok : ∀ e ∈ zIS, ((fun e => .methodLink (zCn e.1) e.2.1 (zYn e.2.2))) e ∈ zGood := zPl_ok zIS_c
def zII : List (Nat × Nat × Nat) := [(9, 21, 31), (11, 108, 115), (11, 111, 160)]
def zIIp : List Nat := [71, 24, 1124]
theorem zII_c : zPl zII zIIp (fun e => .methodLink (zCn e.1) e.2.1 (zYn e.2.2)) = true := by decide +kernel
theorem zII_ok : ∀ e ∈ zII, ((fun e => .methodLink (zCn e.1) e.2.1 (zYn e.2.2))) e ∈ zGood := zPl_ok zII_c
def zIW : List (Nat × Nat × Nat) := [(11, 112, 270), (11, 121, 271), (11, 125, 272), (11, 128, 273), (11, 132, 274), (11, 144, 275), (11, 147, 276), (11, 150, 277), (11, 157, 278), (11, 160, 279), (11, 163, 280), (11, 166, 281), (11, 169, 282), (11, 172, 283), (11, 175, 284), (11, 186, 285), (11, 189, 286), (11, 192, 287), (11, 199, 288), (11, 202, 289), (11, 205, 290), (11, 208, 291), (11, 219, 292), (11, 222, 293), (11, 225, 294), (11, 228, 295), (11, 231, 296), (11, 234, 297), (11, 245, 298)]
def zIWp : List Nat := [568, 682, 692, 711, 720, 732, 741, 749, 758, 776, 854, 875, 886, 897, 920, 927, 941, 950, 958, 965, 973, 980, 988, 1004, 1048, 1059, 1080, 1092, 1107]
theorem zIW_c : zPl zIW zIWp (fun e => .methodLink (zCn e.1) e.2.1 (zYn e.2.2)) = true := by decide +kernel
theorem zIW_ok : ∀ e ∈ zIW, ((fun e => .methodLink (zCn e.1) e.2.1 (zYn e.2.2))) e ∈ zGood := zPl_ok zIW_c
def zXn (t m : Nat) : MethodName := ⟨zCn t, (zYn m).name, (zYn m).desc⟩
def zIU : List (Nat × Nat × Nat) := [(0, 25, 62), (5, 45, 62), (6, 34, 63), (6, 56, 64)]
def zIUp : List Nat := [910, 787, 808, 813]
theorem zIU_c : zPl zIU zIUp (fun e => .methodLink (zCn e.1) e.2.1 (zXn e.1 e.2.2)) = true := by decide +kernel
theorem zIU_ok : ∀ e ∈ zIU, ((fun e => .methodLink (zCn e.1) e.2.1 (zXn e.1 e.2.2))) e ∈ zGood := zPl_ok zIU_c
def zIUs : List (Nat × Nat × Nat) := [(0, 25, 62), (5, 45, 62), (6, 34, 63), (6, 56, 64)]
def zIUsp : List Nat := [911, 788, 1710, 1711]
theorem zIUs_c : zPl zIUs zIUsp (fun e => .sameMethod (zCn e.1) (zCn 6) (zYn e.2.2).name (zYn e.2.2).desc) = true := by decide +kernel
theorem zIUs_ok : ∀ e ∈ zIUs, ((fun e => .sameMethod (zCn e.1) (zCn 6) (zYn e.2.2).name (zYn e.2.2).desc)) e ∈ zGood := zPl_ok zIUs_c
def zISU : List (Nat × Nat × Nat) := [(0, 29, 60), (5, 49, 60), (5, 53, 59), (5, 66, 61)]
def zISUp : List Nat := [913, 833, 827, 869]
theorem zISU_c : zPl zISU zISUp (fun e => .methodLink (zCn e.1) e.2.1 (zXn e.1 e.2.2)) = true := by decide +kernel
theorem zISU_ok : ∀ e ∈ zISU, ((fun e => .methodLink (zCn e.1) e.2.1 (zXn e.1 e.2.2))) e ∈ zGood := zPl_ok zISU_c
def zISUs : List (Nat × Nat × Nat) := [(0, 29, 60), (5, 49, 60), (5, 53, 59), (5, 66, 61)]
def zISUsp : List Nat := [914, 834, 828, 870]
theorem zISUs_c : zPl zISUs zISUsp (fun e => .sameMethod (zCn e.1) (zCn 6) (zYn e.2.2).name (zYn e.2.2).desc) = true := by decide +kernel
theorem zISUs_ok : ∀ e ∈ zISUs, ((fun e => .sameMethod (zCn e.1) (zCn 6) (zYn e.2.2).name (zYn e.2.2).desc)) e ∈ zGood := zPl_ok zISUs_c
def zISN : List (Nat × Nat × Nat) := [(0, 40, 158), (1, 68, 158), (2, 48, 158), (4, 34, 158), (7, 46, 157), (7, 53, 158), (8, 62, 157)]
def zISNp : List Nat := [919, 1026, 274, 362, 452, 371, 472]
theorem zISN_c : zPq zISN zISNp (fun e => .methodLinkNest (zCn e.1) e.2.1 (zYn e.2.2) (zCn 9)) = true := by decide +kernel
theorem zISN_ok : ∀ e ∈ zISN, ((fun e => .methodLinkNest (zCn e.1) e.2.1 (zYn e.2.2) (zCn 9))) e ∈ tables_1 := zPq_ok zISN_c
def zIIN : List (Nat × Nat × Nat) := [(0, 3, 57), (3, 21, 65), (5, 3, 57), (9, 9, 65), (9, 28, 17), (9, 35, 46), (9, 42, 0), (9, 49, 36), (9, 56, 6), (9, 63, 102)]
def zIINp : List Nat := [156, 77, 115, 32, 88, 112, 153, 163, 183, 203]
theorem zIIN_c : zPq zIIN zIINp (fun e => .methodLinkNest (zCn e.1) e.2.1 (zYn e.2.2) (zCn 9)) = true := by decide +kernel
theorem zIIN_ok : ∀ e ∈ zIIN, ((fun e => .methodLinkNest (zCn e.1) e.2.1 (zYn e.2.2) (zCn 9))) e ∈ tables_1 := zPq_ok zIIN_c
def zDyT : List MethodName := [⟨"ServiceBudgets$Serving", "ask", "(LServiceBudgets$State;IIII)I"⟩, ⟨"ServiceBudgets$Serving", "noteFailure", "(IIII)V"⟩, ⟨"ServiceBudgets$Serving", "noteMissing", "()V"⟩]
def zDy (k : Nat) : MethodName := zDyT.getD k ⟨"", "", ""⟩
def zID : List (Nat × Nat × Nat) := [(6, 15, 1), (6, 47, 2), (6, 69, 0)]
def zIDp : List Nat := [794, 845, 818]
theorem zID_c : zPl zID zIDp (fun e => .methodLink (zCn e.1) e.2.1 (zDy e.2.2)) = true := by decide +kernel
theorem zID_ok : ∀ e ∈ zID, ((fun e => .methodLink (zCn e.1) e.2.1 (zDy e.2.2))) e ∈ zGood := zPl_ok zID_c
def zD3 : List Nat := [0, 1, 2]
def zIDs : List (Nat) := [(0), (1), (2)]
def zIDsp : List Nat := [820, 796, 847]
theorem zIDs_c : zPl zIDs zIDsp (fun e => .sameMethod (zCn 6) (zCn 6) (zDy e).name (zDy e).desc) = true := by decide +kernel
theorem zIDs_ok : ∀ e ∈ zIDs, ((fun e => .sameMethod (zCn 6) (zCn 6) (zDy e).name (zDy e).desc)) e ∈ zGood := zPl_ok zIDs_c
def zIDd : List (Nat) := [(0), (1), (2)]
def zIDdp : List Nat := [819, 795, 846]
theorem zIDd_c : zPq zIDd zIDdp (fun e => .declares (zDy e)) = true := by decide +kernel
theorem zIDd_ok : ∀ e ∈ zIDd, ((fun e => .declares (zDy e))) e ∈ tables_1 := zPq_ok zIDd_c
def zIDl : List (Nat × Nat × Nat) := [(0, 0, 3), (0, 5, 48), (1, 0, 4), (1, 5, 50), (2, 0, 5), (2, 5, 51)]
def zIDlp : List Nat := [821, 824, 797, 800, 848, 851]
theorem zIDl_c : zPl zIDl zIDlp (fun e => .selects (zCn e.2.1) (zDy e.1) (zYn e.2.2)) = true := by decide +kernel
theorem zIDl_ok : ∀ e ∈ zIDl, ((fun e => .selects (zCn e.2.1) (zDy e.1) (zYn e.2.2))) e ∈ zGood := zPl_ok zIDl_c
def zIUl : List (Nat × Nat) := [(0, 62), (5, 62)]
def zIUlp : List Nat := [912, 790]
theorem zIUl_c : zPl zIUl zIUlp (fun e => .selects (zCn e.1) (zXn e.1 e.2) (zYn e.2)) = true := by decide +kernel
theorem zIUl_ok : ∀ e ∈ zIUl, ((fun e => .selects (zCn e.1) (zXn e.1 e.2) (zYn e.2))) e ∈ zGood := zPl_ok zIUl_c
def zOI : List (Nat × Nat) := [(1, 5), (2, 3), (3, 3), (4, 3), (6, 1), (7, 3), (8, 5), (9, 1), (10, 1)]
def zOIp : List Nat := [186, 91, 74, 166, 118, 35, 206, 27, 1127]
theorem zOI_c : zPl zOI zOIp (fun e => .methodLink (zCn e.1) e.2 Lib.objectInit) = true := by decide +kernel
theorem zOI_ok : ∀ e ∈ zOI, ((fun e => .methodLink (zCn e.1) e.2 Lib.objectInit)) e ∈ zGood := zPl_ok zOI_c
def zAcN : MethodName := ⟨"java/lang/System", "arraycopy", "(Ljava/lang/Object;ILjava/lang/Object;II)V"⟩
def zAC : List (Nat × Nat) := [(7, 26)]
def zACp : List Nat := [322]
theorem zAC_c : zPl zAC zACp (fun e => .methodLink (zCn e.1) e.2 zAcN) = true := by decide +kernel
theorem zAC_ok : ∀ e ∈ zAC, ((fun e => .methodLink (zCn e.1) e.2 zAcN)) e ∈ zGood := zPl_ok zAC_c
def zFrN : MethodName := ⟨"java/lang/Float", "floatToRawIntBits", "(F)I"⟩
def zFR : List (Nat × Nat) := [(14, 74)]
def zFRp : List Nat := [1656]
theorem zFR_c : zPl zFR zFRp (fun e => .methodLink (zCn e.1) e.2 zFrN) = true := by decide +kernel
theorem zFR_ok : ∀ e ∈ zFR, ((fun e => .methodLink (zCn e.1) e.2 zFrN)) e ∈ zGood := zPl_ok zFR_c
def zMc : List Nat := [0, 1, 2, 3, 4, 5, 6, 7, 8, 9, 10, 11, 12, 13, 14, 15, 16, 17, 18, 19, 20, 21, 22, 23, 24, 25, 26, 27, 28, 29, 30, 31, 32, 33, 34, 35, 36, 37, 38, 39, 40, 41, 42, 43, 44, 45, 46, 47, 48, 49, 50, 51, 52, 53, 54, 55, 56, 57, 58, 59, 60, 61, 62, 63, 64, 65, 66, 67, 68, 69, 70, 71, 72, 73, 74, 75, 76, 77, 78, 79, 80, 81, 82, 83, 84, 85, 86, 87, 88, 89, 90, 91, 92, 93, 94, 95, 96, 97, 98, 99, 100, 101, 102, 103, 104, 105, 106, 107, 108, 109, 110, 111, 112, 113, 114, 115, 116, 117, 118, 119, 120, 121, 122, 123, 124, 125, 126, 127, 128, 129, 130, 131, 132, 133, 134, 135, 136, 137, 138, 139, 140, 141, 142, 143, 144, 145, 146, 147, 148, 149, 150, 151, 152, 153, 154, 155, 156, 157, 158, 159, 160, 161, 162, 163, 164, 165, 166, 167, 168, 169, 170, 171, 172, 173, 174, 175, 176, 177, 178, 179, 180, 181, 182, 183, 184, 185, 186, 187, 188, 189, 190, 191, 192, 193, 194, 195, 196, 197, 198, 199, 200, 201, 202, 203, 204, 205, 206, 207, 208, 209, 210, 211, 212, 213, 214, 215, 216, 217, 218, 219, 220, 221, 222, 223, 224, 225, 226, 227, 228, 229, 230, 231, 232, 233, 234, 235, 236, 237, 238, 239, 240, 241, 242, 243, 244, 245, 246, 247, 248, 249, 250, 251, 252, 253, 254, 255, 256, 257, 258, 259, 260, 261, 262, 263, 264, 265, 266, 267, 268, 269, 270, 271, 272, 273, 274, 275, 276, 277, 278, 279, 280, 281, 282, 283, 284, 285, 286, 287, 288, 289, 290, 291, 292, 293, 294, 295, 296, 297, 298, 300, 301, 302, 303, 304]
set_option maxRecDepth 100000 in
theorem zMc_0 : ∀ e ∈ ([0, 1, 2, 3, 4, 5, 6, 7, 8, 9, 10, 11, 12, 13, 14, 15, 16, 17, 18, 19] : List Nat), zCw e ∈ zGood := List.forall_mem_cons.mpr ⟨zg_t 155 rfl rfl, List.forall_mem_cons.mpr ⟨zg_t 907 rfl rfl, List.forall_mem_cons.mpr ⟨zg_t 918 rfl rfl, List.forall_mem_cons.mpr ⟨zg_t 823 rfl rfl, List.forall_mem_cons.mpr ⟨zg_t 799 rfl rfl, List.forall_mem_cons.mpr ⟨zg_t 850 rfl rfl, List.forall_mem_cons.mpr ⟨zg_t 185 rfl rfl, List.forall_mem_cons.mpr ⟨zg_t 1014 rfl rfl, List.forall_mem_cons.mpr ⟨zg_t 1023 rfl rfl, List.forall_mem_cons.mpr ⟨zg_t 1033 rfl rfl, List.forall_mem_cons.mpr ⟨zg_t 1047 rfl rfl, List.forall_mem_cons.mpr ⟨zg_t 1043 rfl rfl, List.forall_mem_cons.mpr ⟨zg_t 1038 rfl rfl, List.forall_mem_cons.mpr ⟨zg_t 1058 rfl rfl, List.forall_mem_cons.mpr ⟨zg_t 1069 rfl rfl, List.forall_mem_cons.mpr ⟨zg_t 1073 rfl rfl, List.forall_mem_cons.mpr ⟨zg_t 1090 rfl rfl, List.forall_mem_cons.mpr ⟨zg_t 90 rfl rfl, List.forall_mem_cons.mpr ⟨zg_t 265 rfl rfl, List.forall_mem_cons.mpr ⟨zg_t 269 rfl rfl, fun _ h => nomatch h⟩⟩⟩⟩⟩⟩⟩⟩⟩⟩⟩⟩⟩⟩⟩⟩⟩⟩⟩⟩
set_option maxRecDepth 100000 in
theorem zMc_1 : ∀ e ∈ ([20, 21, 22, 23, 24, 25, 26, 27, 28, 29, 30, 31, 32, 33, 34, 35, 36, 37, 38, 39] : List Nat), zCw e ∈ zGood := List.forall_mem_cons.mpr ⟨zg_t 273 rfl rfl, List.forall_mem_cons.mpr ⟨zg_t 280 rfl rfl, List.forall_mem_cons.mpr ⟨zg_t 1019 rfl rfl, List.forall_mem_cons.mpr ⟨zg_t 768 rfl rfl, List.forall_mem_cons.mpr ⟨zg_t 772 rfl rfl, List.forall_mem_cons.mpr ⟨zg_t 288 rfl rfl, List.forall_mem_cons.mpr ⟨zg_t 293 rfl rfl, List.forall_mem_cons.mpr ⟨zg_t 305 rfl rfl, List.forall_mem_cons.mpr ⟨zg_t 328 rfl rfl, List.forall_mem_cons.mpr ⟨zg_t 332 rfl rfl, List.forall_mem_cons.mpr ⟨zg_t 1002 rfl rfl, List.forall_mem_cons.mpr ⟨zg_t 73 rfl rfl, List.forall_mem_cons.mpr ⟨zg_t 313 rfl rfl, List.forall_mem_cons.mpr ⟨zg_t 317 rfl rfl, List.forall_mem_cons.mpr ⟨zg_t 1117 rfl rfl, List.forall_mem_cons.mpr ⟨zg_t 1121 rfl rfl, List.forall_mem_cons.mpr ⟨zg_t 165 rfl rfl, List.forall_mem_cons.mpr ⟨zg_t 360 rfl rfl, List.forall_mem_cons.mpr ⟨zg_t 555 rfl rfl, List.forall_mem_cons.mpr ⟨zg_t 559 rfl rfl, fun _ h => nomatch h⟩⟩⟩⟩⟩⟩⟩⟩⟩⟩⟩⟩⟩⟩⟩⟩⟩⟩⟩⟩
set_option maxRecDepth 100000 in
theorem zMc_2 : ∀ e ∈ ([40, 41, 42, 43, 44, 45, 46, 47, 48, 49, 50, 51, 52, 53, 54, 55, 56, 57, 58, 59] : List Nat), zCw e ∈ zGood := List.forall_mem_cons.mpr ⟨zg_t 567 rfl rfl, List.forall_mem_cons.mpr ⟨zg_t 563 rfl rfl, List.forall_mem_cons.mpr ⟨zg_t 356 rfl rfl, List.forall_mem_cons.mpr ⟨zg_t 375 rfl rfl, List.forall_mem_cons.mpr ⟨zg_t 378 rfl rfl, List.forall_mem_cons.mpr ⟨zg_t 386 rfl rfl, List.forall_mem_cons.mpr ⟨zg_t 114 rfl rfl, List.forall_mem_cons.mpr ⟨zg_t 786 rfl rfl, List.forall_mem_cons.mpr ⟨zg_t 826 rfl rfl, List.forall_mem_cons.mpr ⟨zg_t 832 rfl rfl, List.forall_mem_cons.mpr ⟨zg_t 802 rfl rfl, List.forall_mem_cons.mpr ⟨zg_t 853 rfl rfl, List.forall_mem_cons.mpr ⟨zg_t 864 rfl rfl, List.forall_mem_cons.mpr ⟨zg_t 868 rfl rfl, List.forall_mem_cons.mpr ⟨zg_t 874 rfl rfl, List.forall_mem_cons.mpr ⟨zg_t 885 rfl rfl, List.forall_mem_cons.mpr ⟨zg_t 896 rfl rfl, List.forall_mem_cons.mpr ⟨zg_t 117 rfl rfl, List.forall_mem_cons.mpr ⟨zg_t 843 rfl rfl, List.forall_mem_cons.mpr ⟨zg_t 805 rfl rfl, fun _ h => nomatch h⟩⟩⟩⟩⟩⟩⟩⟩⟩⟩⟩⟩⟩⟩⟩⟩⟩⟩⟩⟩
set_option maxRecDepth 100000 in
theorem zMc_3 : ∀ e ∈ ([60, 61, 62, 63, 64, 65, 66, 67, 68, 69, 70, 71, 72, 73, 74, 75, 76, 77, 78, 79] : List Nat), zCw e ∈ zGood := List.forall_mem_cons.mpr ⟨zg_t 836 rfl rfl, List.forall_mem_cons.mpr ⟨zg_t 839 rfl rfl, List.forall_mem_cons.mpr ⟨zg_t 792 rfl rfl, List.forall_mem_cons.mpr ⟨zg_t 811 rfl rfl, List.forall_mem_cons.mpr ⟨zg_t 816 rfl rfl, List.forall_mem_cons.mpr ⟨zg_t 34 rfl rfl, List.forall_mem_cons.mpr ⟨zg_t 321 rfl rfl, List.forall_mem_cons.mpr ⟨zg_t 451 rfl rfl, List.forall_mem_cons.mpr ⟨zg_t 706 rfl rfl, List.forall_mem_cons.mpr ⟨zg_t 998 rfl rfl, List.forall_mem_cons.mpr ⟨zg_t 439 rfl rfl, List.forall_mem_cons.mpr ⟨zg_t 484 rfl rfl, List.forall_mem_cons.mpr ⟨zg_t 447 rfl rfl, List.forall_mem_cons.mpr ⟨zg_t 490 rfl rfl, List.forall_mem_cons.mpr ⟨zg_t 702 rfl rfl, List.forall_mem_cons.mpr ⟨zg_t 710 rfl rfl, List.forall_mem_cons.mpr ⟨zg_t 476 rfl rfl, List.forall_mem_cons.mpr ⟨zg_t 536 rfl rfl, List.forall_mem_cons.mpr ⟨zg_t 730 rfl rfl, List.forall_mem_cons.mpr ⟨zg_t 336 rfl rfl, fun _ h => nomatch h⟩⟩⟩⟩⟩⟩⟩⟩⟩⟩⟩⟩⟩⟩⟩⟩⟩⟩⟩⟩
set_option maxRecDepth 100000 in
theorem zMc_4 : ∀ e ∈ ([80, 81, 82, 83, 84, 85, 86, 87, 88, 89, 90, 91, 92, 93, 94, 95, 96, 97, 98, 99] : List Nat), zCw e ∈ zGood := List.forall_mem_cons.mpr ⟨zg_t 546 rfl rfl, List.forall_mem_cons.mpr ⟨zg_t 297 rfl rfl, List.forall_mem_cons.mpr ⟨zg_t 551 rfl rfl, List.forall_mem_cons.mpr ⟨zg_t 459 rfl rfl, List.forall_mem_cons.mpr ⟨zg_t 463 rfl rfl, List.forall_mem_cons.mpr ⟨zg_t 523 rfl rfl, List.forall_mem_cons.mpr ⟨zg_t 515 rfl rfl, List.forall_mem_cons.mpr ⟨zg_t 366 rfl rfl, List.forall_mem_cons.mpr ⟨zg_t 370 rfl rfl, List.forall_mem_cons.mpr ⟨zg_t 511 rfl rfl, List.forall_mem_cons.mpr ⟨zg_t 519 rfl rfl, List.forall_mem_cons.mpr ⟨zg_t 348 rfl rfl, List.forall_mem_cons.mpr ⟨zg_t 344 rfl rfl, List.forall_mem_cons.mpr ⟨zg_t 939 rfl rfl, List.forall_mem_cons.mpr ⟨zg_t 467 rfl rfl, List.forall_mem_cons.mpr ⟨zg_t 494 rfl rfl, List.forall_mem_cons.mpr ⟨zg_t 471 rfl rfl, List.forall_mem_cons.mpr ⟨zg_t 498 rfl rfl, List.forall_mem_cons.mpr ⟨zg_t 502 rfl rfl, List.forall_mem_cons.mpr ⟨zg_t 506 rfl rfl, fun _ h => nomatch h⟩⟩⟩⟩⟩⟩⟩⟩⟩⟩⟩⟩⟩⟩⟩⟩⟩⟩⟩⟩
set_option maxRecDepth 100000 in
theorem zMc_5 : ∀ e ∈ ([100, 101, 102, 103, 104, 105, 106, 107, 108, 109, 110, 111, 112, 113, 114, 115, 116, 117, 118, 119] : List Nat), zCw e ∈ zGood := List.forall_mem_cons.mpr ⟨zg_t 527 rfl rfl, List.forall_mem_cons.mpr ⟨zg_t 531 rfl rfl, List.forall_mem_cons.mpr ⟨zg_t 205 rfl rfl, List.forall_mem_cons.mpr ⟨zg_t 1102 rfl rfl, List.forall_mem_cons.mpr ⟨zg_t 1106 rfl rfl, List.forall_mem_cons.mpr ⟨zg_t 401 rfl rfl, List.forall_mem_cons.mpr ⟨zg_t 409 rfl rfl, List.forall_mem_cons.mpr ⟨zg_t 419 rfl rfl, List.forall_mem_cons.mpr ⟨zg_t 430 rfl rfl, List.forall_mem_cons.mpr ⟨zg_t 413 rfl rfl, List.forall_mem_cons.mpr ⟨zg_t 416 rfl rfl, List.forall_mem_cons.mpr ⟨zg_t 423 rfl rfl, List.forall_mem_cons.mpr ⟨zg_t 427 rfl rfl, List.forall_mem_cons.mpr ⟨zg_t 435 rfl rfl, List.forall_mem_cons.mpr ⟨zg_t 480 rfl rfl, List.forall_mem_cons.mpr ⟨zg_t 26 rfl rfl, List.forall_mem_cons.mpr ⟨zg_t 576 rfl rfl, List.forall_mem_cons.mpr ⟨zg_t 689 rfl rfl, List.forall_mem_cons.mpr ⟨zg_t 698 rfl rfl, List.forall_mem_cons.mpr ⟨zg_t 717 rfl rfl, fun _ h => nomatch h⟩⟩⟩⟩⟩⟩⟩⟩⟩⟩⟩⟩⟩⟩⟩⟩⟩⟩⟩⟩
set_option maxRecDepth 100000 in
theorem zMc_6 : ∀ e ∈ ([120, 121, 122, 123, 124, 125, 126, 127, 128, 129, 130, 131, 132, 133, 134, 135, 136, 137, 138, 139] : List Nat), zCw e ∈ zGood := List.forall_mem_cons.mpr ⟨zg_t 726 rfl rfl, List.forall_mem_cons.mpr ⟨zg_t 253 rfl rfl, List.forall_mem_cons.mpr ⟨zg_t 257 rfl rfl, List.forall_mem_cons.mpr ⟨zg_t 738 rfl rfl, List.forall_mem_cons.mpr ⟨zg_t 747 rfl rfl, List.forall_mem_cons.mpr ⟨zg_t 755 rfl rfl, List.forall_mem_cons.mpr ⟨zg_t 261 rfl rfl, List.forall_mem_cons.mpr ⟨zg_t 764 rfl rfl, List.forall_mem_cons.mpr ⟨zg_t 782 rfl rfl, List.forall_mem_cons.mpr ⟨zg_t 860 rfl rfl, List.forall_mem_cons.mpr ⟨zg_t 881 rfl rfl, List.forall_mem_cons.mpr ⟨zg_t 892 rfl rfl, List.forall_mem_cons.mpr ⟨zg_t 903 rfl rfl, List.forall_mem_cons.mpr ⟨zg_t 926 rfl rfl, List.forall_mem_cons.mpr ⟨zg_t 284 rfl rfl, List.forall_mem_cons.mpr ⟨zg_t 309 rfl rfl, List.forall_mem_cons.mpr ⟨zg_t 933 rfl rfl, List.forall_mem_cons.mpr ⟨zg_t 947 rfl rfl, List.forall_mem_cons.mpr ⟨zg_t 956 rfl rfl, List.forall_mem_cons.mpr ⟨zg_t 340 rfl rfl, fun _ h => nomatch h⟩⟩⟩⟩⟩⟩⟩⟩⟩⟩⟩⟩⟩⟩⟩⟩⟩⟩⟩⟩
set_option maxRecDepth 100000 in
theorem zMc_7 : ∀ e ∈ ([140, 141, 142, 143, 144, 145, 146, 147, 148, 149, 150, 151, 152, 153, 154, 155, 156, 157, 158, 159] : List Nat), zCw e ∈ zGood := List.forall_mem_cons.mpr ⟨zg_t 964 rfl rfl, List.forall_mem_cons.mpr ⟨zg_t 971 rfl rfl, List.forall_mem_cons.mpr ⟨zg_t 979 rfl rfl, List.forall_mem_cons.mpr ⟨zg_t 986 rfl rfl, List.forall_mem_cons.mpr ⟨zg_t 352 rfl rfl, List.forall_mem_cons.mpr ⟨zg_t 382 rfl rfl, List.forall_mem_cons.mpr ⟨zg_t 994 rfl rfl, List.forall_mem_cons.mpr ⟨zg_t 1010 rfl rfl, List.forall_mem_cons.mpr ⟨zg_t 1054 rfl rfl, List.forall_mem_cons.mpr ⟨zg_t 1065 rfl rfl, List.forall_mem_cons.mpr ⟨zg_t 1086 rfl rfl, List.forall_mem_cons.mpr ⟨zg_t 1098 rfl rfl, List.forall_mem_cons.mpr ⟨zg_t 397 rfl rfl, List.forall_mem_cons.mpr ⟨zg_t 405 rfl rfl, List.forall_mem_cons.mpr ⟨zg_t 1113 rfl rfl, List.forall_mem_cons.mpr ⟨zg_t 540 rfl rfl, List.forall_mem_cons.mpr ⟨zg_t 580 rfl rfl, List.forall_mem_cons.mpr ⟨zg_t 454 rfl rfl, List.forall_mem_cons.mpr ⟨zg_t 276 rfl rfl, List.forall_mem_cons.mpr ⟨zg_t 1077 rfl rfl, fun _ h => nomatch h⟩⟩⟩⟩⟩⟩⟩⟩⟩⟩⟩⟩⟩⟩⟩⟩⟩⟩⟩⟩
set_option maxRecDepth 100000 in
theorem zMc_8 : ∀ e ∈ ([160, 161, 162, 163, 164, 165, 166, 167, 168, 169, 170, 171, 172, 173, 174, 175, 176, 177, 178, 179] : List Nat), zCw e ∈ zGood := List.forall_mem_cons.mpr ⟨zg_t 1126 rfl rfl, List.forall_mem_cons.mpr ⟨zg_t 1265 rfl rfl, List.forall_mem_cons.mpr ⟨zg_t 1280 rfl rfl, List.forall_mem_cons.mpr ⟨zg_t 1292 rfl rfl, List.forall_mem_cons.mpr ⟨zg_t 1300 rfl rfl, List.forall_mem_cons.mpr ⟨zg_t 1273 rfl rfl, List.forall_mem_cons.mpr ⟨zg_t 1568 rfl rfl, List.forall_mem_cons.mpr ⟨zg_t 1296 rfl rfl, List.forall_mem_cons.mpr ⟨zg_t 1367 rfl rfl, List.forall_mem_cons.mpr ⟨zg_t 1284 rfl rfl, List.forall_mem_cons.mpr ⟨zg_t 1328 rfl rfl, List.forall_mem_cons.mpr ⟨zg_t 1324 rfl rfl, List.forall_mem_cons.mpr ⟨zg_t 1332 rfl rfl, List.forall_mem_cons.mpr ⟨zg_t 1352 rfl rfl, List.forall_mem_cons.mpr ⟨zg_t 1312 rfl rfl, List.forall_mem_cons.mpr ⟨zg_t 1344 rfl rfl, List.forall_mem_cons.mpr ⟨zg_t 1439 rfl rfl, List.forall_mem_cons.mpr ⟨zg_t 1391 rfl rfl, List.forall_mem_cons.mpr ⟨zg_t 1447 rfl rfl, List.forall_mem_cons.mpr ⟨zg_t 1336 rfl rfl, fun _ h => nomatch h⟩⟩⟩⟩⟩⟩⟩⟩⟩⟩⟩⟩⟩⟩⟩⟩⟩⟩⟩⟩
set_option maxRecDepth 100000 in
theorem zMc_9 : ∀ e ∈ ([180, 181, 182, 183, 184, 185, 186, 187, 188, 189, 190, 191, 192, 193, 194, 195, 196, 197, 198, 199] : List Nat), zCw e ∈ zGood := List.forall_mem_cons.mpr ⟨zg_t 1320 rfl rfl, List.forall_mem_cons.mpr ⟨zg_t 1411 rfl rfl, List.forall_mem_cons.mpr ⟨zg_t 1316 rfl rfl, List.forall_mem_cons.mpr ⟨zg_t 1277 rfl rfl, List.forall_mem_cons.mpr ⟨zg_t 1308 rfl rfl, List.forall_mem_cons.mpr ⟨zg_t 1363 rfl rfl, List.forall_mem_cons.mpr ⟨zg_t 1360 rfl rfl, List.forall_mem_cons.mpr ⟨zg_t 1524 rfl rfl, List.forall_mem_cons.mpr ⟨zg_t 1516 rfl rfl, List.forall_mem_cons.mpr ⟨zg_t 1520 rfl rfl, List.forall_mem_cons.mpr ⟨zg_t 1532 rfl rfl, List.forall_mem_cons.mpr ⟨zg_t 1540 rfl rfl, List.forall_mem_cons.mpr ⟨zg_t 1288 rfl rfl, List.forall_mem_cons.mpr ⟨zg_t 1269 rfl rfl, List.forall_mem_cons.mpr ⟨zg_t 1304 rfl rfl, List.forall_mem_cons.mpr ⟨zg_t 1348 rfl rfl, List.forall_mem_cons.mpr ⟨zg_t 1340 rfl rfl, List.forall_mem_cons.mpr ⟨zg_t 1356 rfl rfl, List.forall_mem_cons.mpr ⟨zg_t 1371 rfl rfl, List.forall_mem_cons.mpr ⟨zg_t 1375 rfl rfl, fun _ h => nomatch h⟩⟩⟩⟩⟩⟩⟩⟩⟩⟩⟩⟩⟩⟩⟩⟩⟩⟩⟩⟩
set_option maxRecDepth 100000 in
theorem zMc_10 : ∀ e ∈ ([200, 201, 202, 203, 204, 205, 206, 207, 208, 209, 210, 211, 212, 213, 214, 215, 216, 217, 218, 219] : List Nat), zCw e ∈ zGood := List.forall_mem_cons.mpr ⟨zg_t 1379 rfl rfl, List.forall_mem_cons.mpr ⟨zg_t 1387 rfl rfl, List.forall_mem_cons.mpr ⟨zg_t 1383 rfl rfl, List.forall_mem_cons.mpr ⟨zg_t 1399 rfl rfl, List.forall_mem_cons.mpr ⟨zg_t 1395 rfl rfl, List.forall_mem_cons.mpr ⟨zg_t 1403 rfl rfl, List.forall_mem_cons.mpr ⟨zg_t 1407 rfl rfl, List.forall_mem_cons.mpr ⟨zg_t 1419 rfl rfl, List.forall_mem_cons.mpr ⟨zg_t 1415 rfl rfl, List.forall_mem_cons.mpr ⟨zg_t 1443 rfl rfl, List.forall_mem_cons.mpr ⟨zg_t 1431 rfl rfl, List.forall_mem_cons.mpr ⟨zg_t 1435 rfl rfl, List.forall_mem_cons.mpr ⟨zg_t 1451 rfl rfl, List.forall_mem_cons.mpr ⟨zg_t 1455 rfl rfl, List.forall_mem_cons.mpr ⟨zg_t 1459 rfl rfl, List.forall_mem_cons.mpr ⟨zg_t 1463 rfl rfl, List.forall_mem_cons.mpr ⟨zg_t 1467 rfl rfl, List.forall_mem_cons.mpr ⟨zg_t 1427 rfl rfl, List.forall_mem_cons.mpr ⟨zg_t 1423 rfl rfl, List.forall_mem_cons.mpr ⟨zg_t 1471 rfl rfl, fun _ h => nomatch h⟩⟩⟩⟩⟩⟩⟩⟩⟩⟩⟩⟩⟩⟩⟩⟩⟩⟩⟩⟩
set_option maxRecDepth 100000 in
theorem zMc_11 : ∀ e ∈ ([220, 221, 222, 223, 224, 225, 226, 227, 228, 229, 230, 231, 232, 233, 234, 235, 236, 237, 238, 239] : List Nat), zCw e ∈ zGood := List.forall_mem_cons.mpr ⟨zg_t 1475 rfl rfl, List.forall_mem_cons.mpr ⟨zg_t 1479 rfl rfl, List.forall_mem_cons.mpr ⟨zg_t 1483 rfl rfl, List.forall_mem_cons.mpr ⟨zg_t 1495 rfl rfl, List.forall_mem_cons.mpr ⟨zg_t 1491 rfl rfl, List.forall_mem_cons.mpr ⟨zg_t 1487 rfl rfl, List.forall_mem_cons.mpr ⟨zg_t 1504 rfl rfl, List.forall_mem_cons.mpr ⟨zg_t 1500 rfl rfl, List.forall_mem_cons.mpr ⟨zg_t 1508 rfl rfl, List.forall_mem_cons.mpr ⟨zg_t 1548 rfl rfl, List.forall_mem_cons.mpr ⟨zg_t 1552 rfl rfl, List.forall_mem_cons.mpr ⟨zg_t 1544 rfl rfl, List.forall_mem_cons.mpr ⟨zg_t 1512 rfl rfl, List.forall_mem_cons.mpr ⟨zg_t 1528 rfl rfl, List.forall_mem_cons.mpr ⟨zg_t 1536 rfl rfl, List.forall_mem_cons.mpr ⟨zg_t 1556 rfl rfl, List.forall_mem_cons.mpr ⟨zg_t 1564 rfl rfl, List.forall_mem_cons.mpr ⟨zg_t 1560 rfl rfl, List.forall_mem_cons.mpr ⟨zg_t 1572 rfl rfl, List.forall_mem_cons.mpr ⟨zg_t 1584 rfl rfl, fun _ h => nomatch h⟩⟩⟩⟩⟩⟩⟩⟩⟩⟩⟩⟩⟩⟩⟩⟩⟩⟩⟩⟩
set_option maxRecDepth 100000 in
theorem zMc_12 : ∀ e ∈ ([240, 241, 242, 243, 244, 245, 246, 247, 248, 249, 250, 251, 252, 253, 254, 255, 256, 257, 258, 259] : List Nat), zCw e ∈ zGood := List.forall_mem_cons.mpr ⟨zg_t 1580 rfl rfl, List.forall_mem_cons.mpr ⟨zg_t 1576 rfl rfl, List.forall_mem_cons.mpr ⟨zg_t 1588 rfl rfl, List.forall_mem_cons.mpr ⟨zg_t 1605 rfl rfl, List.forall_mem_cons.mpr ⟨zg_t 1601 rfl rfl, List.forall_mem_cons.mpr ⟨zg_t 1596 rfl rfl, List.forall_mem_cons.mpr ⟨zg_t 1592 rfl rfl, List.forall_mem_cons.mpr ⟨zg_t 1609 rfl rfl, List.forall_mem_cons.mpr ⟨zg_t 1617 rfl rfl, List.forall_mem_cons.mpr ⟨zg_t 1613 rfl rfl, List.forall_mem_cons.mpr ⟨zg_t 1629 rfl rfl, List.forall_mem_cons.mpr ⟨zg_t 1632 rfl rfl, List.forall_mem_cons.mpr ⟨zg_t 1636 rfl rfl, List.forall_mem_cons.mpr ⟨zg_t 1625 rfl rfl, List.forall_mem_cons.mpr ⟨zg_t 1621 rfl rfl, List.forall_mem_cons.mpr ⟨zg_t 1640 rfl rfl, List.forall_mem_cons.mpr ⟨zg_t 1648 rfl rfl, List.forall_mem_cons.mpr ⟨zg_t 1644 rfl rfl, List.forall_mem_cons.mpr ⟨zg_t 1663 rfl rfl, List.forall_mem_cons.mpr ⟨zg_t 1667 rfl rfl, fun _ h => nomatch h⟩⟩⟩⟩⟩⟩⟩⟩⟩⟩⟩⟩⟩⟩⟩⟩⟩⟩⟩⟩
set_option maxRecDepth 100000 in
theorem zMc_13 : ∀ e ∈ ([260, 261, 262, 263, 264, 265, 266, 267, 268, 269, 270, 271, 272, 273, 274, 275, 276, 277, 278, 279] : List Nat), zCw e ∈ zGood := List.forall_mem_cons.mpr ⟨zg_t 1671 rfl rfl, List.forall_mem_cons.mpr ⟨zg_t 1690 rfl rfl, List.forall_mem_cons.mpr ⟨zg_t 1682 rfl rfl, List.forall_mem_cons.mpr ⟨zg_t 1686 rfl rfl, List.forall_mem_cons.mpr ⟨zg_t 1679 rfl rfl, List.forall_mem_cons.mpr ⟨zg_t 1694 rfl rfl, List.forall_mem_cons.mpr ⟨zg_t 1675 rfl rfl, List.forall_mem_cons.mpr ⟨zg_t 1698 rfl rfl, List.forall_mem_cons.mpr ⟨zg_t 1707 rfl rfl, List.forall_mem_cons.mpr ⟨zg_t 1702 rfl rfl, List.forall_mem_cons.mpr ⟨zg_t 570 rfl rfl, List.forall_mem_cons.mpr ⟨zg_t 684 rfl rfl, List.forall_mem_cons.mpr ⟨zg_t 694 rfl rfl, List.forall_mem_cons.mpr ⟨zg_t 713 rfl rfl, List.forall_mem_cons.mpr ⟨zg_t 722 rfl rfl, List.forall_mem_cons.mpr ⟨zg_t 734 rfl rfl, List.forall_mem_cons.mpr ⟨zg_t 743 rfl rfl, List.forall_mem_cons.mpr ⟨zg_t 751 rfl rfl, List.forall_mem_cons.mpr ⟨zg_t 760 rfl rfl, List.forall_mem_cons.mpr ⟨zg_t 778 rfl rfl, fun _ h => nomatch h⟩⟩⟩⟩⟩⟩⟩⟩⟩⟩⟩⟩⟩⟩⟩⟩⟩⟩⟩⟩
set_option maxRecDepth 100000 in
theorem zMc_14 : ∀ e ∈ ([280, 281, 282, 283, 284, 285, 286, 287, 288, 289, 290, 291, 292, 293, 294, 295, 296, 297, 298, 300] : List Nat), zCw e ∈ zGood := List.forall_mem_cons.mpr ⟨zg_t 856 rfl rfl, List.forall_mem_cons.mpr ⟨zg_t 877 rfl rfl, List.forall_mem_cons.mpr ⟨zg_t 888 rfl rfl, List.forall_mem_cons.mpr ⟨zg_t 899 rfl rfl, List.forall_mem_cons.mpr ⟨zg_t 922 rfl rfl, List.forall_mem_cons.mpr ⟨zg_t 929 rfl rfl, List.forall_mem_cons.mpr ⟨zg_t 943 rfl rfl, List.forall_mem_cons.mpr ⟨zg_t 952 rfl rfl, List.forall_mem_cons.mpr ⟨zg_t 960 rfl rfl, List.forall_mem_cons.mpr ⟨zg_t 967 rfl rfl, List.forall_mem_cons.mpr ⟨zg_t 975 rfl rfl, List.forall_mem_cons.mpr ⟨zg_t 982 rfl rfl, List.forall_mem_cons.mpr ⟨zg_t 990 rfl rfl, List.forall_mem_cons.mpr ⟨zg_t 1006 rfl rfl, List.forall_mem_cons.mpr ⟨zg_t 1050 rfl rfl, List.forall_mem_cons.mpr ⟨zg_t 1061 rfl rfl, List.forall_mem_cons.mpr ⟨zg_t 1082 rfl rfl, List.forall_mem_cons.mpr ⟨zg_t 1094 rfl rfl, List.forall_mem_cons.mpr ⟨zg_t 1109 rfl rfl, List.forall_mem_cons.mpr ⟨zg_t 775 rfl rfl, fun _ h => nomatch h⟩⟩⟩⟩⟩⟩⟩⟩⟩⟩⟩⟩⟩⟩⟩⟩⟩⟩⟩⟩
set_option maxRecDepth 100000 in
theorem zMc_15 : ∀ e ∈ ([301, 302, 303, 304] : List Nat), zCw e ∈ zGood := List.forall_mem_cons.mpr ⟨zg_t 300 rfl rfl, List.forall_mem_cons.mpr ⟨zg_t 389 rfl rfl, List.forall_mem_cons.mpr ⟨zg_t 1652 rfl rfl, List.forall_mem_cons.mpr ⟨zg_t 1655 rfl rfl, fun _ h => nomatch h⟩⟩⟩⟩
set_option maxRecDepth 100000 in
theorem zMc_ok : ∀ e ∈ zMc, zCw e ∈ zGood := List.forall_mem_append.mpr ⟨zMc_0, List.forall_mem_append.mpr ⟨zMc_1, List.forall_mem_append.mpr ⟨zMc_2, List.forall_mem_append.mpr ⟨zMc_3, List.forall_mem_append.mpr ⟨zMc_4, List.forall_mem_append.mpr ⟨zMc_5, List.forall_mem_append.mpr ⟨zMc_6, List.forall_mem_append.mpr ⟨zMc_7, List.forall_mem_append.mpr ⟨zMc_8, List.forall_mem_append.mpr ⟨zMc_9, List.forall_mem_append.mpr ⟨zMc_10, List.forall_mem_append.mpr ⟨zMc_11, List.forall_mem_append.mpr ⟨zMc_12, List.forall_mem_append.mpr ⟨zMc_13, List.forall_mem_append.mpr ⟨zMc_14, zMc_15⟩⟩⟩⟩⟩⟩⟩⟩⟩⟩⟩⟩⟩⟩⟩
def zMi : List (Nat) := [(0), (1), (2), (3), (4), (5), (6), (7), (8), (9), (10), (11), (12), (13), (14), (15), (16), (17), (18), (19), (20), (21), (22), (23), (24), (25), (26), (27), (28), (29), (30), (31), (32), (33), (34), (35), (36), (37), (38), (39), (40), (41), (42), (43), (44), (45), (46), (47), (48), (49), (50), (51), (52), (53), (54), (55), (56), (57), (58), (59), (60), (61), (62), (63), (64), (65), (66), (67), (68), (69), (70), (71), (72), (73), (74), (75), (76), (77), (78), (79), (80), (81), (82), (83), (84), (85), (86), (87), (88), (89), (90), (91), (92), (93), (94), (95), (96), (97), (98), (99), (100), (101), (102), (103), (104), (105), (106), (107), (108), (109), (110), (111), (112), (113), (114), (115), (116), (117), (118), (119), (120), (121), (122), (123), (124), (125), (126), (127), (128), (129), (130), (131), (132), (133), (134), (135), (136), (137), (138), (139), (140), (141), (142), (143), (144), (145), (146), (147), (148), (149), (150), (151), (152), (153), (154), (155), (156), (157), (158), (159), (160), (161), (162), (163), (164), (165), (166), (167), (168), (169), (170), (171), (172), (173), (174), (175), (176), (177), (178), (179), (180), (181), (182), (183), (184), (185), (186), (187), (188), (189), (190), (191), (192), (193), (194), (195), (196), (197), (198), (199), (200), (201), (202), (203), (204), (205), (206), (207), (208), (209), (210), (211), (212), (213), (214), (215), (216), (217), (218), (219), (220), (221), (222), (223), (224), (225), (226), (227), (228), (229), (230), (231), (232), (233), (234), (235), (236), (237), (238), (239), (240), (241), (242), (243), (244), (245), (246), (247), (248), (249), (250), (251), (252), (253), (254), (255), (256), (257), (258), (259), (260), (261), (262), (263), (264), (265), (266), (267), (268), (269), (270), (271), (272), (273), (274), (275), (276), (277), (278), (279), (280), (281), (282), (283), (284), (285), (286), (287), (288), (289), (290), (291), (292), (293), (294), (295), (296), (297), (298), (300), (301), (302), (303), (304)]
def zMip : List Nat := [7, 7, 7, 7, 7, 7, 9, 9, 9, 9, 9, 9, 9, 9, 9, 9, 9, 4, 4, 4, 4, 4, 4, 4, 4, 4, 4, 4, 4, 4, 4, 3, 3, 3, 3, 3, 8, 8, 8, 8, 8, 8, 8, 8, 8, 8, 6, 6, 6, 6, 6, 6, 6, 6, 6, 6, 6, 5, 5, 5, 5, 5, 5, 5, 5, 2, 2, 2, 2, 2, 2, 2, 2, 2, 2, 2, 2, 2, 2, 2, 2, 2, 2, 2, 2, 2, 2, 2, 2, 2, 2, 2, 2, 2, 2, 2, 2, 2, 2, 2, 2, 2, 10, 10, 10, 10, 10, 10, 10, 10, 10, 10, 10, 10, 10, 1, 1, 1, 1, 1, 1, 1, 1, 1, 1, 1, 1, 1, 1, 1, 1, 1, 1, 1, 1, 1, 1, 1, 1, 1, 1, 1, 1, 1, 1, 1, 1, 1, 1, 1, 1, 1, 1, 1, 1, 1, 1, 1, 1, 1, 11, 11, 11, 11, 11, 11, 11, 11, 11, 11, 11, 11, 11, 11, 11, 11, 11, 11, 11, 11, 11, 11, 11, 11, 11, 11, 11, 11, 11, 11, 11, 11, 11, 11, 11, 11, 11, 11, 11, 11, 11, 11, 11, 11, 11, 11, 11, 11, 11, 11, 11, 11, 11, 11, 11, 11, 11, 11, 11, 11, 11, 11, 11, 11, 11, 11, 11, 11, 11, 11, 11, 11, 11, 11, 11, 11, 11, 11, 11, 11, 11, 11, 11, 11, 11, 11, 11, 11, 11, 11, 11, 11, 11, 11, 11, 11, 11, 11, 11, 11, 11, 11, 11, 11, 11, 11, 11, 11, 11, 11, 0, 0, 0, 0, 0, 0, 0, 0, 0, 0, 0, 0, 0, 0, 0, 0, 0, 0, 0, 0, 0, 0, 0, 0, 0, 0, 0, 0, 0, 19, 19, 20, 21, 21]
theorem zMi_c : zPl zMi zMip (fun e => .initialized (zYn e).cls) = true := by decide +kernel
theorem zMi_ok : ∀ e ∈ zMi, ((fun e => .initialized (zYn e).cls)) e ∈ zGood := zPl_ok zMi_c
def zMs : List (Nat) := [(8), (44), (58), (59), (60), (61), (107), (108), (110), (156), (157), (158), (159), (162), (185), (251), (262), (270), (271), (272), (273), (274), (275), (276), (277), (278), (279), (280), (281), (282), (283), (284), (285), (286), (287), (288), (289), (290), (291), (292), (293), (294), (295), (296), (297), (298), (300), (301), (302), (303), (304)]
def zMsp : List Nat := [1022, 377, 842, 804, 835, 838, 418, 429, 415, 579, 453, 275, 1076, 1279, 1362, 1631, 1681, 569, 683, 693, 712, 721, 733, 742, 750, 759, 777, 855, 876, 887, 898, 921, 928, 942, 951, 959, 966, 974, 981, 989, 1005, 1049, 1060, 1081, 1093, 1108, 774, 299, 388, 1651, 1654]
theorem zMs_c : zPl zMs zMsp (fun e => .static (zYn e)) = true := by decide +kernel
theorem zMs_ok : ∀ e ∈ zMs, ((fun e => .static (zYn e))) e ∈ zGood := zPl_ok zMs_c
def zMn : List (Nat) := [(0), (1), (2), (3), (4), (5), (6), (7), (9), (10), (11), (12), (13), (14), (15), (16), (17), (18), (19), (20), (21), (22), (23), (24), (25), (26), (27), (28), (29), (30), (31), (32), (33), (34), (35), (36), (37), (38), (39), (40), (41), (42), (43), (45), (46), (47), (48), (49), (50), (51), (52), (53), (54), (55), (56), (57), (62), (63), (64), (65), (66), (67), (68), (69), (70), (71), (72), (73), (74), (75), (76), (77), (78), (79), (80), (81), (82), (83), (84), (85), (86), (87), (88), (89), (90), (91), (92), (93), (94), (95), (96), (97), (98), (99), (100), (101), (102), (103), (104), (105), (106), (109), (111), (112), (113), (114), (115), (116), (117), (118), (119), (120), (121), (122), (123), (124), (125), (126), (127), (128), (129), (130), (131), (132), (133), (134), (135), (136), (137), (138), (139), (140), (141), (142), (143), (144), (145), (146), (147), (148), (149), (150), (151), (152), (153), (154), (155), (160), (161), (163), (164), (165), (166), (167), (168), (169), (170), (171), (172), (173), (174), (175), (176), (177), (178), (179), (180), (181), (182), (183), (184), (186), (187), (188), (189), (190), (191), (192), (193), (194), (195), (196), (197), (198), (199), (200), (201), (202), (203), (204), (205), (206), (207), (208), (209), (210), (211), (212), (213), (214), (215), (216), (217), (218), (219), (220), (221), (222), (223), (224), (225), (226), (227), (228), (229), (230), (231), (232), (233), (234), (235), (236), (237), (238), (239), (240), (241), (242), (243), (244), (245), (246), (247), (248), (249), (250), (252), (253), (254), (255), (256), (257), (258), (259), (260), (261), (263), (264), (265), (266), (267), (268), (269)]
def zMnp : List Nat := [154, 905, 917, 822, 798, 849, 184, 1012, 1032, 1046, 1042, 1036, 1056, 1067, 1072, 1088, 89, 263, 268, 272, 278, 1017, 766, 771, 286, 292, 303, 326, 331, 1000, 72, 311, 316, 1115, 1119, 164, 359, 553, 558, 566, 562, 354, 374, 384, 113, 784, 825, 831, 801, 852, 862, 866, 873, 883, 894, 116, 791, 810, 815, 33, 319, 449, 704, 996, 437, 482, 445, 488, 700, 708, 474, 534, 728, 334, 544, 295, 550, 458, 461, 521, 513, 364, 369, 509, 518, 346, 342, 937, 465, 492, 469, 496, 500, 504, 526, 530, 204, 1100, 1104, 399, 407, 412, 422, 426, 433, 478, 25, 574, 687, 696, 715, 724, 251, 255, 736, 745, 753, 259, 762, 780, 858, 879, 890, 901, 924, 282, 307, 931, 945, 954, 338, 962, 969, 977, 984, 350, 380, 992, 1008, 1052, 1063, 1084, 1096, 395, 403, 1111, 538, 1125, 1263, 1291, 1299, 1272, 1567, 1295, 1366, 1283, 1327, 1323, 1331, 1351, 1311, 1343, 1438, 1390, 1446, 1335, 1319, 1410, 1315, 1276, 1307, 1359, 1523, 1515, 1519, 1531, 1539, 1287, 1267, 1302, 1347, 1338, 1354, 1369, 1373, 1377, 1386, 1381, 1398, 1393, 1401, 1405, 1418, 1413, 1442, 1430, 1434, 1450, 1454, 1458, 1462, 1466, 1426, 1421, 1469, 1473, 1477, 1481, 1494, 1490, 1485, 1503, 1498, 1506, 1547, 1551, 1543, 1510, 1526, 1534, 1554, 1563, 1558, 1570, 1583, 1579, 1574, 1586, 1604, 1600, 1595, 1590, 1607, 1616, 1611, 1628, 1635, 1624, 1619, 1638, 1647, 1642, 1661, 1665, 1669, 1689, 1685, 1678, 1693, 1673, 1696, 1706, 1700]
theorem zMn_c : zPl zMn zMnp (fun e => .instanceMethod (zYn e)) = true := by decide +kernel
theorem zMn_ok : ∀ e ∈ zMn, ((fun e => .instanceMethod (zYn e))) e ∈ zGood := zPl_ok zMn_c
def zMv : List (Nat) := [(1), (7), (12), (13), (14), (16), (18), (21), (22), (23), (25), (27), (28), (30), (32), (34), (35), (38), (42), (45), (47), (52), (53), (55), (56), (66), (67), (68), (69), (70), (71), (72), (73), (74), (75), (76), (77), (78), (79), (80), (81), (84), (85), (86), (87), (89), (91), (92), (93), (94), (95), (96), (97), (98), (99), (103), (104), (105), (106), (113), (114), (116), (117), (118), (119), (120), (121), (122), (123), (124), (125), (126), (127), (128), (129), (130), (131), (132), (133), (134), (135), (136), (137), (138), (139), (140), (141), (142), (143), (144), (145), (146), (147), (148), (149), (150), (151), (152), (153), (154), (155), (161), (193), (194), (196), (197), (198), (199), (200), (202), (204), (205), (206), (208), (218), (219), (220), (221), (222), (225), (227), (228), (232), (233), (234), (235), (237), (238), (241), (242), (246), (247), (249), (254), (255), (257), (258), (259), (260), (266), (267), (269)]
def zMvp : List Nat := [906, 1013, 1037, 1057, 1068, 1089, 264, 279, 1018, 767, 287, 304, 327, 1001, 312, 1116, 1120, 554, 355, 385, 785, 863, 867, 884, 895, 320, 450, 705, 997, 438, 483, 446, 489, 701, 709, 475, 535, 729, 335, 545, 296, 462, 522, 514, 365, 510, 347, 343, 938, 466, 493, 470, 497, 501, 505, 1101, 1105, 400, 408, 434, 479, 575, 688, 697, 716, 725, 252, 256, 737, 746, 754, 260, 763, 781, 859, 880, 891, 902, 925, 283, 308, 932, 946, 955, 339, 963, 970, 978, 985, 351, 381, 993, 1009, 1053, 1064, 1085, 1097, 396, 404, 1112, 539, 1264, 1268, 1303, 1339, 1355, 1370, 1374, 1378, 1382, 1394, 1402, 1406, 1414, 1422, 1470, 1474, 1478, 1482, 1486, 1499, 1507, 1511, 1527, 1535, 1555, 1559, 1571, 1575, 1587, 1591, 1608, 1612, 1620, 1639, 1643, 1662, 1666, 1670, 1674, 1697, 1701]
theorem zMv_c : zPl zMv zMvp (fun e => .selects (zYn e).cls (zYn e) (zYn e)) = true := by decide +kernel
theorem zMv_ok : ∀ e ∈ zMv, ((fun e => .selects (zYn e).cls (zYn e) (zYn e))) e ∈ zGood := zPl_ok zMv_c
def zMw : List Nat := [2, 9, 10, 11, 15, 19, 20, 24, 26, 29, 33, 37, 39, 40, 41, 43, 49, 54, 82, 83, 88, 90, 100, 101, 109, 111, 112, 163, 164, 165, 166, 167, 168, 169, 170, 171, 172, 173, 174, 175, 176, 177, 178, 179, 180, 181, 182, 183, 184, 186, 187, 188, 189, 190, 191, 192, 195, 201, 203, 207, 209, 210, 211, 212, 213, 214, 215, 216, 217, 223, 224, 226, 229, 230, 231, 236, 239, 240, 243, 244, 245, 248, 250, 252, 253, 256, 261, 263, 264, 265, 268]
def zMwp : List Nat := [23, 24, 26, 25, 27, 0, 1, 20, 2, 4, 3, 5, 16, 18, 17, 7, 21, 22, 15, 11, 6, 12, 13, 14, 8, 9, 10, 32, 34, 28, 76, 33, 47, 30, 40, 39, 41, 45, 36, 43, 56, 49, 58, 42, 38, 51, 37, 29, 35, 46, 69, 67, 68, 70, 71, 31, 44, 48, 50, 52, 57, 54, 55, 59, 60, 61, 62, 63, 53, 65, 64, 66, 73, 74, 72, 75, 78, 77, 81, 80, 79, 82, 84, 85, 83, 86, 89, 88, 87, 90, 91]
def zPs (es : List Nat) (ps : List Nat) : Bool := es.length == ps.length && (es.zip ps).all (fun q => decide ((k2_sels lw_privs)[q.2]? = some (.selects (zYn q.1).cls (zYn q.1) (zYn q.1))) && goodWord (.selects (zYn q.1).cls (zYn q.1) (zYn q.1)))
theorem zMw_c : zPs zMw zMwp = true := by decide +kernel
theorem zMw_ok : ∀ e ∈ zMw, Cond.selects (zYn e).cls (zYn e) (zYn e) ∈ zGood := by
  intro e he
  have h := zMw_c
  unfold zPs at h
  rw [Bool.and_eq_true] at h
  obtain ⟨p, hp⟩ := zPl_zip zMw zMwp (by simpa using h.1) e he
  have h1 := List.all_eq_true.mp h.2 _ hp
  rw [Bool.and_eq_true, decide_eq_true_eq] at h1
  exact zg_s p h1.1 h1.2
theorem zMsel : ∀ e ∈ zIV, e.2.2 ∈ zMv ∨ e.2.2 ∈ zMw := by decide +kernel
/-- pcs of labels -/
def zPcT : List (List Nat) := [[0], [0, 10, 27, 36, 63, 79, 85], [0, 3, 43, 49], [0], [0], [0], [0], [0, 17, 37, 66, 69, 106, 112, 118], [0, 12, 29, 30], [0, 3, 25, 28, 66, 93, 99, 117, 144], [0, 27, 28], [0, 11, 14, 50, 56], [0, 6, 40, 46], [0, 6, 47, 50, 56], [0, 12, 45, 51], [0, 17, 26, 45, 53, 85, 135, 141], [0, 14, 48, 54], [0], [0, 14, 37, 68], [0, 2, 23, 25, 65], [0, 2, 33, 39], [0, 12, 16, 22], [0], [0, 7, 43], [0, 5, 48, 54], [0, 7, 43], [0, 9, 78, 84], [0, 4, 39, 45], [0, 9, 68], [0, 6, 42, 48], [0, 5, 41, 47], [0, 19, 43], [0, 12], [0, 9, 34], [0, 11, 12], [0], [0], [0, 7, 36, 42], [0, 18, 63, 87, 139, 147, 162], [0, 6, 44, 50], [0, 5, 39, 47, 53], [0, 9, 70, 76], [0, 23, 32, 53], [0, 16, 55, 108, 116, 122], [0, 4, 31, 37], [0, 17, 19, 41, 78], [0], [0], [0, 12, 78], [0, 12], [0, 13, 31, 36, 104], [0], [0, 11, 12], [0, 36, 44, 49, 54, 59, 64], [0, 12, 27, 31], [0, 12, 16, 24], [0, 12, 16, 24], [0], [0], [0], [0, 10, 11], [0], [0, 22, 54, 57, 79, 137, 149, 155], [0, 7, 53, 60, 66], [0, 17, 56, 114, 120], [0], [0, 18, 49, 51, 81], [0, 12, 16, 17], [0, 12, 16, 17], [0, 13, 14], [0, 18, 20, 33, 34], [0, 7, 31], [0, 16, 18, 49, 51, 68, 70, 87, 100, 101], [0, 28, 29], [0, 10, 12, 34, 40], [0, 12, 48, 50, 82, 88], [0, 10, 19, 21], [0], [0, 12, 20], [0], [0, 15, 29, 34], [0], [0, 4, 27, 33], [0, 7, 22, 28], [0, 28, 29], [0, 17, 21, 22], [0, 15, 16], [0, 9, 36, 52], [0, 4, 40, 46], [0, 2, 38, 44], [0, 2, 36, 42], [0, 17, 18], [0, 4, 26, 32], [0], [0, 10, 22, 23], [0], [0, 10, 31, 35, 36], [0], [0, 2, 18], [0, 9, 43, 81, 87], [0, 16, 23, 71], [0, 20, 45], [0], [0, 13, 14], [0], [0], [0, 4, 37, 43], [0], [0], [0, 19, 39, 89, 91, 94, 100, 129], [0, 92, 94, 96, 98], [0, 2, 45], [0, 5, 33], [0, 84, 90, 116, 122, 128, 136], [0, 84, 93, 122, 130, 139, 147, 157], [0], [0], [0], [0], [0], [0], [0], [0], [0], [0], [0], [0], [0], [0], [0], [0], [0], [0], [0], [0], [0], [0], [0], [0], [0], [0], [0, 32, 50, 56], [0], [0, 33], [0], [0], [0], [0], [0], [0], [0], [0], [0], [0, 14, 27, 64, 82], [0], [0, 26, 40, 71, 94, 111, 125, 157, 163], [], [0, 10, 14, 15], [0, 12, 13], [0, 11, 14, 37, 50], [0], [0], [0, 14, 15], [0], [0], [0, 2, 27], [0, 2, 27], [0, 10, 39, 49, 51, 85], [0], [0], [0], [0], [0], [0, 14, 15], [0], [0], [0, 15, 16], [0], [0, 4, 29], [0, 4, 28, 29, 37], [0, 2, 21, 23, 31, 89, 93, 94, 112, 115], [0, 8, 20, 42, 48, 67], [0, 22, 23], [0, 12, 25], [0, 16, 18, 49, 51, 79, 90, 92], [0, 40, 48, 58, 66, 74, 83], [0, 10, 20], [0, 4, 30], [0, 10, 20], [0], [0, 10, 29, 31], [0, 12, 14, 35], [0, 12, 20], [0], [0], [0, 4, 42, 43, 50], [0, 14, 18, 43, 49, 70, 105], [0], [0, 14, 31], [0], [0], [0, 15, 29, 34], [0, 14, 37, 42], [0, 14, 19], [0, 14, 36, 41], [0, 16, 28, 29, 30], [0, 22, 23], [0, 6, 32, 66, 67, 90, 96, 103, 109], [0, 14], [0, 107, 133, 137, 161, 165], [0], [0, 30, 72], [0], [0, 37, 67, 74, 118], [0, 7, 47, 99, 140, 161, 162], [0, 49, 50, 170], [0, 98], [0, 50, 66, 67, 87, 106, 118, 121], [0, 20, 21, 22, 45, 46, 47, 112, 127, 131, 145, 173, 176, 204], [0, 15, 35, 40], [0, 15, 52, 53], [0, 15, 52, 53], [0, 14, 16, 38, 50, 51], [0, 8, 62, 72, 75, 81, 97, 100], [0, 6, 32], [0, 14], [0, 8, 42, 43, 51], [0], [0, 10, 34, 86, 89, 90, 96, 102, 106, 145, 146, 154], [0, 4, 27, 30, 38], [0, 10, 39, 40, 56, 57, 68, 111, 112, 126, 140, 144, 145, 149], [0, 9, 60, 72, 73, 103, 106, 143, 144, 186, 192], [0], [0], [0], [0], [0, 16, 50, 54, 63], [0, 14, 34, 39], [0, 14, 28, 43, 47], [0, 5, 57, 58, 86, 91, 92, 99], [0, 14, 35, 38, 49, 104, 105, 120, 121, 134, 135, 138, 144, 152, 186, 197, 198, 204], [0, 21, 26], [0, 15, 29, 44, 50], [0, 4, 33, 34, 42], [0, 32, 33, 73, 76], [0, 11, 32, 35, 39, 71, 72, 79, 86, 92], [0], [0, 19, 37, 62, 72, 74, 91], [0, 4, 40, 41, 49], [0, 20, 21, 22, 38, 50, 51, 52, 78, 79], [0, 6, 40, 41, 48], [0, 4, 24], [0, 9, 42, 46, 47, 54], [0, 14, 56, 58, 63, 69, 78, 80], [0, 14, 38, 43], [0, 14, 30, 39, 46], [0, 5, 34, 57, 64, 88, 99, 108, 113, 119], [0, 14], [0, 14, 26, 57, 63, 69], [0, 16, 31], [0], [0, 32, 33], [0, 92, 94, 96, 98], [0, 12, 74, 86, 87], [0, 27, 39, 65, 67, 79, 81, 87, 89, 105], [0, 56, 67, 102, 113, 124, 135], [0, 10, 36, 47, 76, 77, 92, 98], [0, 13, 25, 59], [0], [0, 28, 40, 62, 78, 90, 102, 124, 130], [0, 12, 15, 18], [0, 19, 23, 27, 31], [0, 12, 15, 18], [0, 15, 19, 23], [0, 13, 17, 21], [0, 13, 17, 21], [0, 13, 17, 21], [0, 15, 16, 20, 24], [0, 12, 15], [0, 15, 16, 20, 24, 28], [0, 12, 15, 18], [0, 13, 17], [0, 13, 17], [0, 12, 15], [0, 12, 15], [0, 12, 15, 18], [0, 12, 15, 18], [0, 12, 15], [0, 12, 15, 18], [0, 12, 15, 18], [0, 12, 15], [0, 13, 17, 21], [0, 15, 16, 20, 24, 28], [0, 13, 17, 21], [0, 15, 19, 23], [0, 12, 15], [0, 12, 15], [0, 12, 15, 18], [0, 11, 14], [0, 23, 216, 252, 269, 272, 356, 373, 376, 412, 429, 432, 492, 509, 512, 560, 577, 580, 593, 606, 654, 671, 674, 722, 739, 742, 790, 807, 808, 814, 817, 842, 878, 895, 898, 946, 963, 964, 970, 973, 1009, 1026, 1029, 1077, 1094, 1097, 1145, 1162, 1165, 1201, 1218, 1221, 1257, 1274, 1277, 1290, 1303, 1339, 1356, 1359, 1395, 1412, 1415, 1451, 1468, 1471, 1484, 1520, 1537, 1540, 1576, 1593, 1596, 1632, 1649, 1652, 1700, 1717, 1720, 1733, 1758, 1806, 1823, 1824, 1830, 1833, 1881, 1898, 1901, 1961, 1978, 1981, 2017, 2034, 2037, 2073, 2090, 2093, 2129, 2146, 2149, 2162, 2175, 2199, 2216, 2219, 2233, 2239], [0, 9, 10], [0, 9, 10], [0], [0, 12], [0, 10, 11]]
def zPc (m : Nat) (l : Int) : Nat := (zPcT.getD m []).getD l.toNat 0
theorem zDesc : ∀ m, m < 305 → (parseMethodDescriptor (zYn m).desc).map (fun d => d.parameters.length) = some (if zKd m = 0 then zNa m else zNa m - 1) := by decide +kernel
theorem zNamesA : ∀ m, m < 305 → (zYn m).cls = zCn (zOw m) := by decide +kernel
theorem zPlain : ∀ m, m < 305 → plainFor (zYn m) = true := by decide +kernel
theorem zNames : ∀ m, m < 305 → (zYn m).cls = zCn (zOw m) ∧ (zYn m).cls ≠ "java/lang/invoke/MethodHandle" ∧ (zYn m).cls ≠ "java/lang/invoke/VarHandle" ∧ (zKd m = 1 ↔ (zYn m).name = "<init>") ∧ zMl m ≤ 20 := by decide +kernel
end
section
/-! THE CHECK OF THE CODE: each block of the abstract program is what the class files hold at its pc; written by wip/whole/gen_chk.py -/
def zn4 (f : Fin 4 → Instr) (k : Nat) : List (Instr × Nat) := if h : k < 4 then [(f ⟨k, h⟩, 1)] else []
def zPk {α : Type} (T : List α) (p : α → Bool) (f : α → Instr × Nat) : List (Instr × Nat) := (T.filter p).map f
def zOff (m pc : Nat) (l : Int) : Int := (zPc m l : Int) - pc
def zKeys (lo : Int) : Nat → List Int
  | 0 => []
  | n + 1 => lo :: zKeys (lo + 1) n
def zFinal (n : Nat) : Bool := (zTx (n / 64) (n % 64)).2.2.2
/-- the instructions of the machine that an abstract one may stand for, with their lengths -/
def zAlt (m pc : Nat) (i : Instr) : List (Instr × Nat) := match i with
  | .iload k => (.iload k, 2) :: zn4 .iload_n k
  | .lload k => (.lload k, 2) :: zn4 .lload_n k
  | .dload k => (.dload k, 2) :: zn4 .dload_n k
  | .fload k => (.fload k, 2) :: zn4 .fload_n k
  | .aload k => (.aload k, 2) :: zn4 .aload_n k
  | .istore k => (.istore k, 2) :: zn4 .istore_n k
  | .lstore k => (.lstore k, 2) :: zn4 .lstore_n k
  | .dstore k => (.dstore k, 2) :: zn4 .dstore_n k
  | .astore k => (.astore k, 2) :: zn4 .astore_n k
  | .iinc k n => [(.iinc k n, 3)]
  | .iconst n => (if -1 ≤ n ∧ n ≤ 5 then [(.iconst n, 1)] else []) ++ ((if -128 ≤ n ∧ n < 128 then [(.bipush n, 2)] else []) ++ ((if -32768 ≤ n ∧ n < 32768 then [(.sipush n, 3)] else []) ++ (zPk zKI (fun e => e.1 == zOw m && e.2.2 == n) (fun e => (.ldc e.2.1, 2)) ++ zPk zKI (fun e => e.1 == zOw m && e.2.2 == n) (fun e => (.ldc_w e.2.1, 3)))))
  | .jsr_w n => (if n = 0 then [(.lconst 0, 1)] else []) ++ ((if n = 1 then [(.lconst 1, 1)] else []) ++ zPk zKL (fun e => e.1 == zOw m && e.2.2 == n) (fun e => (.ldc2_w e.2.1, 3)))
  | .jsr n => (if n = 0 then [(.dconst 0, 1)] else []) ++ ((if n = 4607182418800017408 then [(.dconst 1, 1)] else []) ++ zPk zKD (fun e => e.1 == zOw m && e.2.2 == n) (fun e => (.ldc2_w e.2.1, 3)))
  | .pop => [(.pop, 1)]
  | .monitorexit => zPk zOI (fun e => e.1 == zOw m) (fun e => (.invokespecial e.2, 3))
  | .pop2 => zPk zAC (fun e => e.1 == zOw m) (fun e => (.invokestatic e.2, 3))
  | .f2i => zPk zFR (fun e => e.1 == zOw m) (fun e => (.invokestatic e.2, 3))
  | .goto l => [(.goto (zOff m pc l), 3)]
  | .ifCond c l => [(.ifCond c (zOff m pc l), 3)]
  | .if_icmp c l => [(.if_icmp c (zOff m pc l), 3)]
  | .lookupswitch d ps => (.lookupswitch (zOff m pc d) (ps.map (fun q => (q.1, zOff m pc q.2))), 1 + (3 - pc % 4) + 8 + 8 * ps.size) ::
      (match ps.toList with
        | [] => []
        | q :: r => if ps.toList.map (fun q => q.1) = zKeys q.1 ps.size then [(.tableswitch (zOff m pc d) q.1 (q.1 + (ps.size : Int) - 1) (ps.map (fun q => zOff m pc q.2)), 1 + (3 - pc % 4) + 12 + 4 * ps.size)] else [])
  | .getfield n => zPk zFL (fun e => e.1 == zOw m && e.2.2 == n) (fun e => (.getfield e.2.1, 3))
  | .putfield n => if zFinal n = true ∧ ¬ (zKd m = 1 ∧ zOw m = n / 64) then [] else zPk zFL (fun e => e.1 == zOw m && e.2.2 == n) (fun e => (.putfield e.2.1, 3))
  | .getstatic n => zPk zSF (fun e => e.1 == zOw m && e.2.2 == n) (fun e => (.getstatic e.2.1, 3))
  | .new t => zPk zCL (fun e => e.1 == zOw m && e.2.2 == t) (fun e => (.new e.2.1, 3))
  | .newarray t => if zAt t = 99 then [] else [(.newarray t, 2)]
  | .anewarray _ => zPk zCL (fun e => e.1 == zOw m && e.2.2 == 7) (fun e => (.anewarray e.2.1, 3))
  | .multianewarray t _ => zPk zMA (fun e => e.1 == zOw m && e.2.2 == t) (fun e => (.multianewarray e.2.1 2, 4))
  | .invokeinterface y n => if n = zNa y ∧ y < 305 then zPk zIV (fun e => e.1 == zOw m && e.2.2 == y) (fun e => (.invokevirtual e.2.1, 3)) ++ (zPk zIU (fun e => e.1 == zOw m && e.2.2 == y) (fun e => (.invokevirtual e.2.1, 3)) ++ (zPk zIS (fun e => e.1 == zOw m && e.2.2 == y) (fun e => (.invokestatic e.2.1, 3)) ++ (zPk zISU (fun e => e.1 == zOw m && e.2.2 == y) (fun e => (.invokestatic e.2.1, 3)) ++ (zPk zISN (fun e => e.1 == zOw m && e.2.2 == y) (fun e => (.invokestatic e.2.1, 3)) ++ (zPk zIW (fun e => e.1 == zOw m && e.2.2 == y) (fun e => (.invokestatic e.2.1, 3)) ++ (zPk zIIN (fun e => e.1 == zOw m && e.2.2 == y) (fun e => (.invokespecial e.2.1, 3)) ++ zPk zII (fun e => e.1 == zOw m && e.2.2 == y) (fun e => (.invokespecial e.2.1, 3)))))))) else []
  | .invokevirtual k => zPk zID (fun e => e.1 == zOw m && e.2.2 == k) (fun e => (.invokevirtual e.2.1, 3))
  | .goto_w _ => []
  | i => [(i, 1)]
/-- may a call of y out of m throw: refuse, and the system's methods out of a method that catches -/
def zAl (m y : Nat) : Bool := y == zRef || (zOw y == 9 && zKd y == 2 && zHh m != [])
/-- a call that may throw stands within each of the handlers' stretches -/
def zCovI (m pc : Nat) (i : Instr) : Bool := match i with
  | .invokeinterface y _ => !(zAl m y) || (zHh m).all (fun x => decide (x.1 ≤ pc) && decide (pc < x.2.1))
  | _ => true
def zChk (m : Nat) (pc : Nat) (c : List Instr) : Bool := match c with
  | [] => true
  | .goto_w l :: _ => zPc m l == pc
  | i :: r => zCovI m pc i && (zAlt m pc i).any (fun q => decide (decode (zCd m) pc = .ok q) && zChk m (pc + q.2) r)
def zOkM (m : Nat) : Bool := (List.range (zTab.getD m []).length).all (fun l => zChk m (zPc m l) (zB m l))
def zOkL (a n : Nat) : Bool := ((List.range n).map (fun k => a + k)).all (fun l : Nat => zChk 299 (zPc 299 l) (zB 299 l))
theorem zOk_0 : ∀ m ∈ ([0, 1, 2, 3, 4, 5, 6, 7, 8, 9, 10, 11, 12, 13, 14, 15, 16, 17, 18] : List Nat), zOkM m = true := by decide +kernel
theorem zOk_1 : ∀ m ∈ ([19, 20, 21, 22, 23, 24, 25, 26, 27, 28, 29, 30, 31, 32, 33, 34, 35, 36, 37, 38] : List Nat), zOkM m = true := by decide +kernel
theorem zOk_2 : ∀ m ∈ ([39, 40, 41, 42, 43, 44, 45, 46, 47, 48, 49, 50, 51, 52, 53, 54, 55, 56] : List Nat), zOkM m = true := by decide +kernel
theorem zOk_3 : ∀ m ∈ ([57, 58, 59, 60, 61, 62, 63, 64, 65, 66, 67, 68, 69, 70, 71, 72, 73, 74, 75] : List Nat), zOkM m = true := by decide +kernel
theorem zOk_4 : ∀ m ∈ ([76, 77, 78, 79, 80, 81, 82, 83, 84, 85, 86, 87, 88, 89, 90, 91, 92, 93, 94, 95, 96, 97, 98, 99, 100, 101, 102, 103] : List Nat), zOkM m = true := by decide +kernel
theorem zOk_5 : ∀ m ∈ ([104, 105, 106, 107, 108, 109, 110, 111, 112, 113, 114, 115, 116, 117, 118, 119, 120, 121, 122, 123, 124, 125, 126, 127, 128, 129, 130] : List Nat), zOkM m = true := by decide +kernel
theorem zOk_6 : ∀ m ∈ ([131, 132, 133, 134, 135, 136, 137, 138, 139, 140, 141, 142, 143, 144, 145, 146, 147, 148, 149, 150, 151, 152, 153, 154, 155, 157] : List Nat), zOkM m = true := by decide +kernel
theorem zOk_7 : ∀ m ∈ ([158, 159, 160, 161, 162, 163, 164, 165, 166, 167, 168, 169, 170, 171, 172, 173, 174, 175, 176, 177, 178, 179, 180, 181, 182] : List Nat), zOkM m = true := by decide +kernel
theorem zOk_8 : ∀ m ∈ ([183, 184, 185, 186, 187, 188, 189, 190, 191, 192, 193, 194, 195, 196, 197, 198, 199, 200, 201, 202] : List Nat), zOkM m = true := by decide +kernel
theorem zOk_9 : ∀ m ∈ ([203, 204, 205, 206, 207, 208, 209, 210, 211, 212, 213, 214] : List Nat), zOkM m = true := by decide +kernel
theorem zOk_10 : ∀ m ∈ ([215, 216, 217, 218, 219, 220, 221, 222, 223, 224, 225] : List Nat), zOkM m = true := by decide +kernel
theorem zOk_11 : ∀ m ∈ ([226, 227, 228, 229, 230, 231, 232, 233, 234, 235, 236, 237, 238, 239] : List Nat), zOkM m = true := by decide +kernel
theorem zOk_12 : ∀ m ∈ ([240, 241, 242, 243, 244, 245, 246, 247, 248, 249, 250, 251, 252, 253, 254] : List Nat), zOkM m = true := by decide +kernel
theorem zOk_13 : ∀ m ∈ ([255, 256, 257, 258, 259, 260, 261, 262, 263, 264, 265, 266, 267, 268] : List Nat), zOkM m = true := by decide +kernel
theorem zOk_14 : ∀ m ∈ ([269, 270, 271, 272, 273, 274, 275, 276, 277, 278, 279, 280, 281, 282, 283, 284, 285, 286, 287, 288, 289, 290, 291, 292, 293, 294, 295, 296, 297, 298, 300, 301] : List Nat), zOkM m = true := by decide +kernel
theorem zOk_15 : ∀ m ∈ ([302, 303, 304] : List Nat), zOkM m = true := by decide +kernel
end
section
theorem zOkL_0 : zOkL 0 12 = true := by decide +kernel
theorem zOkL_1 : zOkL 12 12 = true := by decide +kernel
theorem zOkL_2 : zOkL 24 12 = true := by decide +kernel
end
section
theorem zOkL_3 : zOkL 36 12 = true := by decide +kernel
theorem zOkL_4 : zOkL 48 12 = true := by decide +kernel
end
section
theorem zOkL_5 : zOkL 60 2 = true := by decide +kernel
theorem zOkL_6 : zOkL 62 2 = true := by decide +kernel
theorem zOkL_7 : zOkL 64 2 = true := by decide +kernel
theorem zOkL_8 : zOkL 66 2 = true := by decide +kernel
theorem zOkL_9 : zOkL 68 2 = true := by decide +kernel
theorem zOkL_10 : zOkL 70 2 = true := by decide +kernel
theorem zOkL_11 : zOkL 72 2 = true := by decide +kernel
theorem zOkL_12 : zOkL 74 2 = true := by decide +kernel
end
section
theorem zOkL_13 : zOkL 76 2 = true := by decide +kernel
theorem zOkL_14 : zOkL 78 2 = true := by decide +kernel
theorem zOkL_15 : zOkL 80 2 = true := by decide +kernel
theorem zOkL_16 : zOkL 82 2 = true := by decide +kernel
theorem zOkL_17 : zOkL 84 2 = true := by decide +kernel
theorem zOkL_18 : zOkL 86 2 = true := by decide +kernel
theorem zOkL_19 : zOkL 88 2 = true := by decide +kernel
theorem zOkL_20 : zOkL 90 2 = true := by decide +kernel
end
section
theorem zOkL_21 : zOkL 92 2 = true := by decide +kernel
theorem zOkL_22 : zOkL 94 2 = true := by decide +kernel
theorem zOkL_23 : zOkL 96 2 = true := by decide +kernel
theorem zOkL_24 : zOkL 98 2 = true := by decide +kernel
theorem zOkL_25 : zOkL 100 2 = true := by decide +kernel
theorem zOkL_26 : zOkL 102 2 = true := by decide +kernel
theorem zOkL_27 : zOkL 104 2 = true := by decide +kernel
theorem zOkL_28 : zOkL 106 2 = true := by decide +kernel
end
section
def zAllM : List Nat := ([0, 1, 2, 3, 4, 5, 6, 7, 8, 9, 10, 11, 12, 13, 14, 15, 16, 17, 18] : List Nat) ++ ([19, 20, 21, 22, 23, 24, 25, 26, 27, 28, 29, 30, 31, 32, 33, 34, 35, 36, 37, 38] : List Nat) ++ ([39, 40, 41, 42, 43, 44, 45, 46, 47, 48, 49, 50, 51, 52, 53, 54, 55, 56] : List Nat) ++ ([57, 58, 59, 60, 61, 62, 63, 64, 65, 66, 67, 68, 69, 70, 71, 72, 73, 74, 75] : List Nat) ++ ([76, 77, 78, 79, 80, 81, 82, 83, 84, 85, 86, 87, 88, 89, 90, 91, 92, 93, 94, 95, 96, 97, 98, 99, 100, 101, 102, 103] : List Nat) ++ ([104, 105, 106, 107, 108, 109, 110, 111, 112, 113, 114, 115, 116, 117, 118, 119, 120, 121, 122, 123, 124, 125, 126, 127, 128, 129, 130] : List Nat) ++ ([131, 132, 133, 134, 135, 136, 137, 138, 139, 140, 141, 142, 143, 144, 145, 146, 147, 148, 149, 150, 151, 152, 153, 154, 155, 157] : List Nat) ++ ([158, 159, 160, 161, 162, 163, 164, 165, 166, 167, 168, 169, 170, 171, 172, 173, 174, 175, 176, 177, 178, 179, 180, 181, 182] : List Nat) ++ ([183, 184, 185, 186, 187, 188, 189, 190, 191, 192, 193, 194, 195, 196, 197, 198, 199, 200, 201, 202] : List Nat) ++ ([203, 204, 205, 206, 207, 208, 209, 210, 211, 212, 213, 214] : List Nat) ++ ([215, 216, 217, 218, 219, 220, 221, 222, 223, 224, 225] : List Nat) ++ ([226, 227, 228, 229, 230, 231, 232, 233, 234, 235, 236, 237, 238, 239] : List Nat) ++ ([240, 241, 242, 243, 244, 245, 246, 247, 248, 249, 250, 251, 252, 253, 254] : List Nat) ++ ([255, 256, 257, 258, 259, 260, 261, 262, 263, 264, 265, 266, 267, 268] : List Nat) ++ ([269, 270, 271, 272, 273, 274, 275, 276, 277, 278, 279, 280, 281, 282, 283, 284, 285, 286, 287, 288, 289, 290, 291, 292, 293, 294, 295, 296, 297, 298, 300, 301] : List Nat) ++ ([302, 303, 304] : List Nat)
theorem zOk_all : ∀ m ∈ zAllM, zOkM m = true := List.forall_mem_append.mpr ⟨List.forall_mem_append.mpr ⟨List.forall_mem_append.mpr ⟨List.forall_mem_append.mpr ⟨List.forall_mem_append.mpr ⟨List.forall_mem_append.mpr ⟨List.forall_mem_append.mpr ⟨List.forall_mem_append.mpr ⟨List.forall_mem_append.mpr ⟨List.forall_mem_append.mpr ⟨List.forall_mem_append.mpr ⟨List.forall_mem_append.mpr ⟨List.forall_mem_append.mpr ⟨List.forall_mem_append.mpr ⟨List.forall_mem_append.mpr ⟨zOk_0, zOk_1⟩, zOk_2⟩, zOk_3⟩, zOk_4⟩, zOk_5⟩, zOk_6⟩, zOk_7⟩, zOk_8⟩, zOk_9⟩, zOk_10⟩, zOk_11⟩, zOk_12⟩, zOk_13⟩, zOk_14⟩, zOk_15⟩
theorem zAllM_in : ∀ m, m < 305 → m ≠ 299 → m ≠ 156 → m ∈ zAllM := by decide +kernel
theorem zOkL_at : ∀ l : Nat, l < 108 → zChk 299 (zPc 299 l) (zB 299 l) = true := by
  intro l hl
  have key : ∀ a n : Nat, zOkL a n = true → ∀ l, a ≤ l → l < a + n → zChk 299 (zPc 299 l) (zB 299 l) = true := by
    intro a n h l h1 h2
    have := List.all_eq_true.mp h l (List.mem_map.mpr ⟨l - a, List.mem_range.mpr (by omega), by omega⟩)
    exact this
  rcases (by omega : (0 ≤ l ∧ l < 0 + 12) ∨ (12 ≤ l ∧ l < 12 + 12) ∨ (24 ≤ l ∧ l < 24 + 12) ∨ (36 ≤ l ∧ l < 36 + 12) ∨ (48 ≤ l ∧ l < 48 + 12) ∨ (60 ≤ l ∧ l < 60 + 2) ∨ (62 ≤ l ∧ l < 62 + 2) ∨ (64 ≤ l ∧ l < 64 + 2) ∨ (66 ≤ l ∧ l < 66 + 2) ∨ (68 ≤ l ∧ l < 68 + 2) ∨ (70 ≤ l ∧ l < 70 + 2) ∨ (72 ≤ l ∧ l < 72 + 2) ∨ (74 ≤ l ∧ l < 74 + 2) ∨ (76 ≤ l ∧ l < 76 + 2) ∨ (78 ≤ l ∧ l < 78 + 2) ∨ (80 ≤ l ∧ l < 80 + 2) ∨ (82 ≤ l ∧ l < 82 + 2) ∨ (84 ≤ l ∧ l < 84 + 2) ∨ (86 ≤ l ∧ l < 86 + 2) ∨ (88 ≤ l ∧ l < 88 + 2) ∨ (90 ≤ l ∧ l < 90 + 2) ∨ (92 ≤ l ∧ l < 92 + 2) ∨ (94 ≤ l ∧ l < 94 + 2) ∨ (96 ≤ l ∧ l < 96 + 2) ∨ (98 ≤ l ∧ l < 98 + 2) ∨ (100 ≤ l ∧ l < 100 + 2) ∨ (102 ≤ l ∧ l < 102 + 2) ∨ (104 ≤ l ∧ l < 104 + 2) ∨ (106 ≤ l ∧ l < 106 + 2)) with h | h | h | h | h | h | h | h | h | h | h | h | h | h | h | h | h | h | h | h | h | h | h | h | h | h | h | h | h
  · exact key 0 12 zOkL_0 l h.1 h.2
  · exact key 12 12 zOkL_1 l h.1 h.2
  · exact key 24 12 zOkL_2 l h.1 h.2
  · exact key 36 12 zOkL_3 l h.1 h.2
  · exact key 48 12 zOkL_4 l h.1 h.2
  · exact key 60 2 zOkL_5 l h.1 h.2
  · exact key 62 2 zOkL_6 l h.1 h.2
  · exact key 64 2 zOkL_7 l h.1 h.2
  · exact key 66 2 zOkL_8 l h.1 h.2
  · exact key 68 2 zOkL_9 l h.1 h.2
  · exact key 70 2 zOkL_10 l h.1 h.2
  · exact key 72 2 zOkL_11 l h.1 h.2
  · exact key 74 2 zOkL_12 l h.1 h.2
  · exact key 76 2 zOkL_13 l h.1 h.2
  · exact key 78 2 zOkL_14 l h.1 h.2
  · exact key 80 2 zOkL_15 l h.1 h.2
  · exact key 82 2 zOkL_16 l h.1 h.2
  · exact key 84 2 zOkL_17 l h.1 h.2
  · exact key 86 2 zOkL_18 l h.1 h.2
  · exact key 88 2 zOkL_19 l h.1 h.2
  · exact key 90 2 zOkL_20 l h.1 h.2
  · exact key 92 2 zOkL_21 l h.1 h.2
  · exact key 94 2 zOkL_22 l h.1 h.2
  · exact key 96 2 zOkL_23 l h.1 h.2
  · exact key 98 2 zOkL_24 l h.1 h.2
  · exact key 100 2 zOkL_25 l h.1 h.2
  · exact key 102 2 zOkL_26 l h.1 h.2
  · exact key 104 2 zOkL_27 l h.1 h.2
  · exact key 106 2 zOkL_28 l h.1 h.2
/-- each block of each method stands in the code -/
theorem zChk_ok {m : Nat} (hm : m < 305) (hr : m ≠ 156) (l : Int) : zChk m (zPc m l) (zB m l) = true := by
  have key : ∀ k : Nat, (∀ n : Nat, n < (zTab.getD m []).length → zChk m (zPc m n) (zB m n) = true) → zChk m (zPc m k) (zB m k) = true := by
    intro k h
    by_cases hk : k < (zTab.getD m []).length
    · exact h k hk
    · have e : zB m k = [] := by
        unfold zB
        rw [List.getD_eq_getElem?_getD, List.getElem?_eq_none (by simpa using hk)]
        rfl
      rw [e]
      rfl
  have e1 : zPc m l = zPc m (l.toNat : Int) := by unfold zPc; rw [Int.toNat_natCast]
  have e2 : zB m l = zB m (l.toNat : Int) := by unfold zB; rw [Int.toNat_natCast]
  rw [e1, e2]
  refine key l.toNat ?_
  by_cases hl : m = 299
  · subst hl
    exact zOkL_at
  · have h := zOk_all m (zAllM_in m hm hl hr)
    intro n hn
    exact List.all_eq_true.mp h n (List.mem_range.mpr hn)
end
section
/-! more words by their places; written by wip/whole/gen_names2.py -/
def zIs : List (Nat) := [(0), (1), (2), (3), (4), (5), (7), (8), (9), (10)]
def zIsp : List Nat := [152, 182, 87, 70, 162, 111, 31, 202, 23, 1123]
theorem zIs_c : zPl zIs zIsp (fun e => .instantiable (zCn e) (zNf e)) = true := by decide +kernel
theorem zIs_ok : ∀ e ∈ zIs, ((fun e => .instantiable (zCn e) (zNf e))) e ∈ zGood := zPl_ok zIs_c
def zIc : List (Nat) := [(0), (1), (2), (3), (4), (5), (7), (8), (9), (10)]
def zIcp : List Nat := [7, 9, 4, 3, 8, 6, 2, 10, 1, 11]
theorem zIc_c : zPl zIc zIcp (fun e => .initialized (zCn e)) = true := by decide +kernel
theorem zIc_ok : ∀ e ∈ zIc, ((fun e => .initialized (zCn e))) e ∈ zGood := zPl_ok zIc_c
theorem zFL_rng : ∀ e ∈ zFL, e.2.2 / 64 < 11 ∧ e.2.2 / 64 ≠ 6 ∧ e.2.2 % 64 < zNf (e.2.2 / 64) := by decide +kernel
theorem zCL_rng : ∀ e ∈ zCL, e.2.2 < 11 ∧ e.2.2 ∈ zIs ∧ e.2.2 ∈ zIc := by decide +kernel
theorem zSF_rng : ∀ e ∈ zSF, e.2.2 < 4 := by decide +kernel
theorem zMA_rng : ∀ e ∈ zMA, e.2.2 = 0 ∨ e.2.2 = 1 := by decide +kernel
theorem zDf_ok : ∀ t, t < 11 → ∀ k : Nat, k < zNf t → defaultValue (zFt t k) = zDf t k ∧ (zDf t k = .null ∨ zDf t k = .int 0 ∨ zDf t k = .long 0) := by decide +kernel
theorem zTy_ok : ∀ t, t < 11 → ∀ k : Nat, k < zNf t → (zTy (64 * t + k) = 1 ∧ zFt t k = .int) ∨ (zTy (64 * t + k) = 2 ∧ zFt t k = .boolean) ∨ (zTy (64 * t + k) = 3 ∧ zFt t k = .long) ∨ (zTy (64 * t + k) = 5 ∧ (zFt t k).isReference = true) := by decide +kernel
theorem zw_acN : (.native zAcN : Cond) ∈ zGood := zg_t 324 (by decide +kernel) rfl
theorem zw_acS : (.static zAcN : Cond) ∈ zGood := zg_t 323 (by decide +kernel) rfl
theorem zw_acI : (.initialized "java/lang/System" : Cond) ∈ zGood := zg_t 18 (by decide +kernel) rfl
theorem zw_frN : (.native zFrN : Cond) ∈ zGood := zg_t 1658 (by decide +kernel) rfl
theorem zw_frS : (.static zFrN : Cond) ∈ zGood := zg_t 1657 (by decide +kernel) rfl
theorem zw_frI : (.initialized "java/lang/Float" : Cond) ∈ zGood := zg_t 21 (by decide +kernel) rfl
theorem zw_oiI : (.instanceMethod Lib.objectInit : Cond) ∈ zGood := zg_t 28 (by decide +kernel) rfl
theorem zw_oiC : (.code Lib.objectInit ⟨#[0xb1]⟩ 1 none : Cond) ∈ zGood := zg_t 29 rfl rfl
theorem zw_aI : (.arrayClass .int : Cond) ∈ zGood := zg_t 68 (by decide +kernel) rfl
theorem zw_aJ : (.arrayClass .long : Cond) ∈ zGood := zg_t 199 (by decide +kernel) rfl
theorem zw_aD : (.arrayClass .double : Cond) ∈ zGood := zg_t 200 (by decide +kernel) rfl
theorem zw_aZ : (.arrayClass .boolean : Cond) ∈ zGood := zg_t 1261 (by decide +kernel) rfl
theorem zTx_own : ∀ t, t < 11 → ∀ k, k < zNf t → (zTx t k).2.2.2 = true → (zTx t k).1 = zCn t := by decide +kernel
theorem zNatC : ∀ e ∈ zIsp, e < 1712 := by decide +kernel
end
section
/-! THE ABSTRACT MACHINE: heap, one step, the least predicate that is closed under steps, calls by depth -/
/-- an abstract heap: its shape (how many cells, how many slots were used, tags, lengths), its contents -/
def zS : Type := Nat × Nat × (Nat → Nat) × (Nat → Int)
abbrev zV : Type := Nat → Int → Value
abbrev zH : Type := zS × zV
def zS.sz (h : zS) : Nat := h.1
def zS.sl (h : zS) : Nat := h.2.1
def zS.tg (h : zS) (r : Nat) : Nat := h.2.2.1 r
def zS.ln (h : zS) (r : Nat) : Int := h.2.2.2 r
def zput (V : zV) (r : Nat) (k : Int) (v : Value) : zV := fun r' k' => if r' = r ∧ k' = k then v else V r' k'
/-- another row of contents at r -/
def zrow (V : zV) (r : Nat) (f : Int → Value) : zV := fun r' => if r' = r then f else V r'
def zS.new (s : zS) (t : Nat) (n : Int) (k : Nat) : zS := (s.1 + 1, s.2.1 + k, fun r => if r = s.1 then t else s.2.2.1 r, fun r => if r = s.1 then n else s.2.2.2 r)
abbrev zHnew (h : zH) (t : Nat) (n : Int) (k : Nat) (f : Int → Value) : zH := (h.1.new t n k, zrow h.2 h.1.sz f)
/-- n rows of length k of tag t, one behind the other -/
def zHnews (h : zH) (t : Nat) (k : Int) (v : Value) : Nat → zH
  | 0 => h
  | n + 1 => zHnew (zHnews h t k v n) t k k.toNat (fun _ => v)
abbrev zO : Type := Option Value ⊕ Nat
def zJ : Value := .retAddr 0
def zi (z : Int) : Value := .int (Int32.ofInt z)
def zl (z : Int) : Value := .long (Int64.ofInt z)
def zsw : List (Int × Int) → Int → Int → Int
  | [], d, _ => d
  | (k, l) :: ps, d, x => if x = k then l else zsw ps d x
def zSrt (ps : List (Int × Int)) : Bool := (ps.zip (ps.drop 1)).all (fun q => decide (q.1.1 < q.2.1))
/-! tags: objects 0 to 10 (11, 12, 13 exceptions); 20 int[], 21 long[], 22 double[], 23 boolean[], 24 int[][], 25 long[][], 26 State[]; 30, 31, 32: arrays that were there before (int, long, the script) -/
/-- may this value be put into a field of this type -/
def zFit (ty : Nat) (v : Value) : Bool := match v with
  | .int x => ty == 1 || (ty == 2 && (x == 0 || x == 1))
  | .long _ => ty == 3
  | .ref _ => ty == 5
  | _ => false
def zAd : ArrayType → Value
  | .long => .long 0 | .double => .double 0 | _ => .int 0
def zPrev (L : List Value) : Nat → Bool
  | 0 => true
  | j + 1 => (L.getD j zJ).category == 1
def zSetL (L : List Value) (k : Nat) (v : Value) : Option (List Value) :=
  if k < L.length ∧ v.category = 1 ∧ zPrev L k = true then some (L.set k v) else none
def zSetL2 (L : List Value) (k : Nat) (v : Value) : Option (List Value) :=
  if k + 1 < L.length ∧ v.category = 2 ∧ zPrev L k = true then some ((L.set k v).set (k + 1) zJ) else none

def zstep (m : Nat) (i : Instr) (r : List Instr) (L st : List Value) (h : zH) : Option (List Instr × List Value × List Value × zH) := match i with
  | .iload k => match L[k]? with
    | some (.int x) => some (r, L, .int x :: st, h)
    | _ => none
  | .lload k => match L[k]? with
    | some (.long x) => some (r, L, .long x :: st, h)
    | _ => none
  | .dload k => match L[k]? with
    | some (.double x) => some (r, L, .double x :: st, h)
    | _ => none
  | .fload k => match L[k]? with
    | some (.float x) => some (r, L, .float x :: st, h)
    | _ => none
  | .aload k => match L[k]? with
    | some (.ref x) => some (r, L, .ref x :: st, h)
    | _ => none
  | .istore k => match st with
    | .int x :: st => (zSetL L k (.int x)).map (fun L2 => (r, L2, st, h))
    | _ => none
  | .astore k => match st with
    | .ref x :: st => (zSetL L k (.ref x)).map (fun L2 => (r, L2, st, h))
    | _ => none
  | .lstore k => match st with
    | .long x :: st => (zSetL2 L k (.long x)).map (fun L2 => (r, L2, st, h))
    | _ => none
  | .dstore k => match st with
    | .double x :: st => (zSetL2 L k (.double x)).map (fun L2 => (r, L2, st, h))
    | _ => none
  | .iinc k n => match L[k]? with
    | some (.int x) => (zSetL L k (.int (x + Int32.ofInt n))).map (fun L2 => (r, L2, st, h))
    | _ => none
  | .iconst n => some (r, L, .int (Int32.ofInt n) :: st, h)
  | .jsr_w n => some (r, L, .long (Int64.ofInt n) :: st, h)
  | .jsr n => some (r, L, .double (UInt64.ofNat n.toNat) :: st, h)
  | .iadd => match st with
    | .int y :: .int x :: st => some (r, L, .int (x + y) :: st, h)
    | _ => none
  | .isub => match st with
    | .int y :: .int x :: st => some (r, L, .int (x - y) :: st, h)
    | _ => none
  | .imul => match st with
    | .int y :: .int x :: st => some (r, L, .int (x * y) :: st, h)
    | _ => none
  | .iand => match st with
    | .int y :: .int x :: st => some (r, L, .int (x &&& y) :: st, h)
    | _ => none
  | .ior => match st with
    | .int y :: .int x :: st => some (r, L, .int (x ||| y) :: st, h)
    | _ => none
  | .ixor => match st with
    | .int y :: .int x :: st => some (r, L, .int (x ^^^ y) :: st, h)
    | _ => none
  | .ishl => match st with
    | .int y :: .int x :: st => some (r, L, .int (x <<< (y &&& 31)) :: st, h)
    | _ => none
  | .ishr => match st with
    | .int y :: .int x :: st => some (r, L, .int (x >>> (y &&& 31)) :: st, h)
    | _ => none
  | .iushr => match st with
    | .int y :: .int x :: st => some (r, L, .int ((x.toUInt32 >>> (y.toUInt32 &&& Int32.toUInt32 31)).toInt32) :: st, h)
    | _ => none
  | .idiv => match st with
    | .int y :: .int x :: st => if y ≠ 0 then some (r, L, .int (x / y) :: st, h) else none
    | _ => none
  | .ladd => match st with
    | .long y :: .long x :: st => some (r, L, .long (x + y) :: st, h)
    | _ => none
  | .lmul => match st with
    | .long y :: .long x :: st => some (r, L, .long (x * y) :: st, h)
    | _ => none
  | .land => match st with
    | .long y :: .long x :: st => some (r, L, .long (x &&& y) :: st, h)
    | _ => none
  | .lor => match st with
    | .long y :: .long x :: st => some (r, L, .long (x ||| y) :: st, h)
    | _ => none
  | .lushr => match st with
    | .int y :: .long x :: st => some (r, L, .long ((x.toUInt64 >>> (y.toInt64.toUInt64 &&& Int64.toUInt64 63)).toInt64) :: st, h)
    | _ => none
  | .lcmp => match st with
    | .long y :: .long x :: st => some (r, L, .int (lg_cmp x y) :: st, h)
    | _ => none
  | .dadd => match st with
    | .double y :: .double x :: st => if (FP.dadd x y) &&& 0x7fffffffffffffff ≤ 0x7ff0000000000000 then some (r, L, .double (FP.dadd x y) :: st, h) else none
    | _ => none
  | .dsub => match st with
    | .double y :: .double x :: st => if (FP.dsub x y) &&& 0x7fffffffffffffff ≤ 0x7ff0000000000000 then some (r, L, .double (FP.dsub x y) :: st, h) else none
    | _ => none
  | .dmul => match st with
    | .double y :: .double x :: st => if (FP.dmul x y) &&& 0x7fffffffffffffff ≤ 0x7ff0000000000000 then some (r, L, .double (FP.dmul x y) :: st, h) else none
    | _ => none
  | .ddiv => match st with
    | .double y :: .double x :: st => if (FP.ddiv x y) &&& 0x7fffffffffffffff ≤ 0x7ff0000000000000 then some (r, L, .double (FP.ddiv x y) :: st, h) else none
    | _ => none
  | .dcmp op => match st with
    | .double y :: .double x :: st => some (r, L, .int (Op.cmpValue (FP.dcmp x y) op) :: st, h)
    | _ => none
  | .fcmp op => match st with
    | .float y :: .float x :: st => some (r, L, .int (Op.cmpValue (FP.fcmp x y) op) :: st, h)
    | _ => none
  | .i2l => match st with
    | .int x :: st => some (r, L, .long (x.toInt64) :: st, h)
    | _ => none
  | .i2d => match st with
    | .int x :: st => some (r, L, .double (FP.i2d x) :: st, h)
    | _ => none
  | .d2i => match st with
    | .double x :: st => some (r, L, .int (FP.d2i x) :: st, h)
    | _ => none
  | .d2f => match st with
    | .double x :: st => if (FP.d2f x) &&& 0x7fffffff ≤ 0x7f800000 then some (r, L, .float (FP.d2f x) :: st, h) else none
    | _ => none
  | .f2d => match st with
    | .float x :: st => if (FP.f2d x) &&& 0x7fffffffffffffff ≤ 0x7ff0000000000000 then some (r, L, .double (FP.f2d x) :: st, h) else none
    | _ => none
  | .f2i => match st with
    | [.float x] => some (r, L, [.int x.toInt32], h)
    | _ => none
  | .dup => match st with
    | v :: st => if v.category = 1 then some (r, L, v :: v :: st, h) else none
    | _ => none
  | .dup2 => match st with
    | v :: w :: st => if v.category = 1 ∧ w.category = 1 then some (r, L, v :: w :: v :: w :: st, h) else none
    | _ => none
  | .pop => match st with
    | v :: st => if v.category = 1 then some (r, L, st, h) else none
    | _ => none
  | .monitorexit => match st with
    | [.ref _] => some (r, L, [], h)
    | _ => none
  | .goto l => some (zB m l, L, st, h)
  | .goto_w l => some (zB m l, L, st, h)
  | .ifCond .eq l => match st with
    | .int x :: st => if x = 0 then some (zB m l, L, st, h) else some (r, L, st, h)
    | _ => none
  | .ifCond .ne l => match st with
    | .int x :: st => if ¬ x = 0 then some (zB m l, L, st, h) else some (r, L, st, h)
    | _ => none
  | .ifCond .lt l => match st with
    | .int x :: st => if x < 0 then some (zB m l, L, st, h) else some (r, L, st, h)
    | _ => none
  | .ifCond .ge l => match st with
    | .int x :: st => if 0 ≤ x then some (zB m l, L, st, h) else some (r, L, st, h)
    | _ => none
  | .ifCond .gt l => match st with
    | .int x :: st => if 0 < x then some (zB m l, L, st, h) else some (r, L, st, h)
    | _ => none
  | .ifCond .le l => match st with
    | .int x :: st => if x ≤ 0 then some (zB m l, L, st, h) else some (r, L, st, h)
    | _ => none
  | .if_icmp .eq l => match st with
    | .int y :: .int x :: st => if x = y then some (zB m l, L, st, h) else some (r, L, st, h)
    | _ => none
  | .if_icmp .ne l => match st with
    | .int y :: .int x :: st => if ¬ x = y then some (zB m l, L, st, h) else some (r, L, st, h)
    | _ => none
  | .if_icmp .lt l => match st with
    | .int y :: .int x :: st => if x < y then some (zB m l, L, st, h) else some (r, L, st, h)
    | _ => none
  | .if_icmp .ge l => match st with
    | .int y :: .int x :: st => if y ≤ x then some (zB m l, L, st, h) else some (r, L, st, h)
    | _ => none
  | .if_icmp .gt l => match st with
    | .int y :: .int x :: st => if y < x then some (zB m l, L, st, h) else some (r, L, st, h)
    | _ => none
  | .if_icmp .le l => match st with
    | .int y :: .int x :: st => if x ≤ y then some (zB m l, L, st, h) else some (r, L, st, h)
    | _ => none
  | .lookupswitch d ps => match st with
    | .int x :: st => if zSrt ps.toList = true then some (zB m (zsw ps.toList d x.toInt), L, st, h) else none
    | _ => none
  | .getfield n => match st with
    | .ref a :: st => if h.1.tg a = n / 64 then some (r, L, h.2 a (n % 64 : Nat) :: st, h) else none
    | _ => none
  | .putfield n => match st with
    | v :: .ref a :: st => if h.1.tg a = n / 64 ∧ zFit (zTy n) v = true then some (r, L, st, (h.1, zput h.2 a (n % 64 : Nat) v)) else none
    | _ => none
  | .getstatic n => some (r, L, .ref n :: st, h)
  | .new t => some (r, L, .ref h.1.sz :: st, zHnew h t 0 (zNf t) (zDf t))
  | .newarray t => match st with
    | .int n :: st => if 0 ≤ n.toInt ∧ n.toInt ≤ 1000000 then some (r, L, .ref h.1.sz :: st, zHnew h (zAt t) n.toInt n.toInt.toNat (fun _ => zAd t)) else none
    | _ => none
  | .anewarray _ => match st with
    | .int n :: st => if 0 ≤ n.toInt ∧ n.toInt ≤ 1000000 then some (r, L, .ref h.1.sz :: st, zHnew h 26 n.toInt n.toInt.toNat (fun _ => .null)) else none
    | _ => none
  | .multianewarray t _ => match st with
    | .int k :: .int n :: st => if 0 ≤ n.toInt ∧ n.toInt ≤ 1000000 ∧ 0 ≤ k.toInt ∧ k.toInt ≤ 1000000 then
        some (r, L, .ref h.1.sz :: st, zHnews (zHnew h (24 + t) n.toInt n.toInt.toNat (fun j => .ref (h.1.sz + 1 + j.toNat))) (20 + t) k.toInt (if t = 0 then .int 0 else .long 0) n.toInt.toNat) else none
    | _ => none
  | .arraylength => match st with
    | .ref a :: st => if 20 ≤ h.1.tg a ∧ (h.1.tg a ≤ 26 ∨ h.1.tg a = 32) ∧ h.1.ln a ≤ 1000000 then some (r, L, .int (Int32.ofInt (h.1.ln a)) :: st, h) else none
    | _ => none
  | .iaload => match st with
    | .int j :: .ref a :: st => if (h.1.tg a = 20 ∨ h.1.tg a = 30 ∨ h.1.tg a = 32) ∧ 0 ≤ j.toInt ∧ j.toInt < h.1.ln a then some (r, L, h.2 a j.toInt :: st, h) else none
    | _ => none
  | .laload => match st with
    | .int j :: .ref a :: st => if (h.1.tg a = 21 ∨ h.1.tg a = 31) ∧ 0 ≤ j.toInt ∧ j.toInt < h.1.ln a then some (r, L, h.2 a j.toInt :: st, h) else none
    | _ => none
  | .daload => match st with
    | .int j :: .ref a :: st => if h.1.tg a = 22 ∧ 0 ≤ j.toInt ∧ j.toInt < h.1.ln a then some (r, L, h.2 a j.toInt :: st, h) else none
    | _ => none
  | .baload => match st with
    | .int j :: .ref a :: st => if h.1.tg a = 23 ∧ 0 ≤ j.toInt ∧ j.toInt < h.1.ln a then some (r, L, h.2 a j.toInt :: st, h) else none
    | _ => none
  | .aaload => match st with
    | .int j :: .ref a :: st => if (h.1.tg a = 24 ∨ h.1.tg a = 25 ∨ h.1.tg a = 26) ∧ 0 ≤ j.toInt ∧ j.toInt < h.1.ln a then some (r, L, h.2 a j.toInt :: st, h) else none
    | _ => none
  | .iastore => match st with
    | .int x :: .int j :: .ref a :: st => if h.1.tg a = 20 ∧ 0 ≤ j.toInt ∧ j.toInt < h.1.ln a then some (r, L, st, (h.1, zput h.2 a j.toInt (.int x))) else none
    | _ => none
  | .lastore => match st with
    | .long x :: .int j :: .ref a :: st => if h.1.tg a = 21 ∧ 0 ≤ j.toInt ∧ j.toInt < h.1.ln a then some (r, L, st, (h.1, zput h.2 a j.toInt (.long x))) else none
    | _ => none
  | .dastore => match st with
    | .double x :: .int j :: .ref a :: st => if h.1.tg a = 22 ∧ 0 ≤ j.toInt ∧ j.toInt < h.1.ln a then some (r, L, st, (h.1, zput h.2 a j.toInt (.double x))) else none
    | _ => none
  | .bastore => match st with
    | .int x :: .int j :: .ref a :: st => if h.1.tg a = 23 ∧ 0 ≤ j.toInt ∧ j.toInt < h.1.ln a ∧ (x = 0 ∨ x = 1) then some (r, L, st, (h.1, zput h.2 a j.toInt (.int x))) else none
    | _ => none
  | .aastore => match st with
    | .ref x :: .int j :: .ref a :: st => if h.1.tg a = 26 ∧ 0 ≤ j.toInt ∧ j.toInt < h.1.ln a ∧ h.1.tg x = 7 then some (r, L, st, (h.1, zput h.2 a j.toInt (.ref x))) else none
    | _ => none
  | .pop2 => match st with
    | [.int n, .int dp, .ref d, .int sp, .ref q] =>
      if h.1.tg q = 20 ∧ h.1.tg d = 20 ∧ 0 ≤ n.toInt ∧ 0 ≤ sp.toInt ∧ 0 ≤ dp.toInt ∧ sp.toInt + n.toInt ≤ h.1.ln q ∧ dp.toInt + n.toInt ≤ h.1.ln d then
        some (r, L, [], (h.1, zrow h.2 d (fun j => if dp.toInt ≤ j ∧ j < dp.toInt + n.toInt then h.2 q (sp.toInt + (j - dp.toInt)) else h.2 d j))) else none
    | _ => none
  | _ => none

/-- behind a call: it goes on with the answer, or at the handler, or is left -/
def zK (al : Bool) (m : Nat) (Q : zO → zH → Prop) (X : List Instr → List Value → List Value → zH → Prop) (r : List Instr) (L st : List Value) (o : zO) (h : zH) : Prop := match o with
  | .inl none => X r L st h
  | .inl (some v) => X r L (v :: st) h
  | .inr k => al = true ∧ match zE m k with
    | none => Q (.inr k) h
    | some l => match zB m l with
      | .astore j :: r2 => X r2 (L.set j zJ) [] h
      | _ => False
/-- methods that are chosen by the receiver: 0 ask, 1 noteFailure, 2 noteMissing -/
def zDisp (k t : Nat) : Option Nat := (zDispT.find? (fun q => q.1 == k && q.2.1 == t)).map (fun q => q.2.2)
def zDn (k : Nat) : Nat := [6, 5, 1].getD k 0
def zF (C : Nat → List Value → zH → (zO → zH → Prop) → Prop) (m : Nat) (Q : zO → zH → Prop) (X : List Instr → List Value → List Value → zH → Prop) (c : List Instr) (L st : List Value) (h : zH) : Prop := match c with
  | [] => False
  | i :: r => match i with
    | .invokeinterface y n => n ≤ st.length ∧ st.length ≤ n + 4 ∧ C y (st.take n).reverse h (zK (zAl m y) m Q X r L (st.drop n))
    | .invokevirtual k => zDn k ≤ st.length ∧ st.length ≤ zDn k + 4 ∧ ∃ a y, (st.take (zDn k)).reverse.head? = some (.ref a) ∧ zDisp k (h.1.tg a) = some y ∧ C y (st.take (zDn k)).reverse h (zK false m Q X r L (st.drop (zDn k)))
    | .return_ => zRk m = 0 ∧ st = [] ∧ Q (.inl none) h
    | .ireturn => ∃ x, st = [.int x] ∧ (zRk m = 1 ∨ (zRk m = 2 ∧ (x = 0 ∨ x = 1))) ∧ Q (.inl (some (.int x))) h
    | .lreturn => zRk m = 3 ∧ ∃ x, st = [.long x] ∧ Q (.inl (some (.long x))) h
    | .dreturn => zRk m = 4 ∧ ∃ x, st = [.double x] ∧ Q (.inl (some (.double x))) h
    | i => match zstep m i r L st h with
      | some q => X q.1 q.2.1 q.2.2.1 q.2.2.2
      | none => False
def zMono (C : Nat → List Value → zH → (zO → zH → Prop) → Prop) : Prop := ∀ (y : Nat) (as : List Value) (h : zH) (K K' : zO → zH → Prop), (∀ o h', K o h' → K' o h') → C y as h K → C y as h K'
def zwp (C : Nat → List Value → zH → (zO → zH → Prop) → Prop) (m : Nat) (Q : zO → zH → Prop) (c : List Instr) (L st : List Value) (h : zH) : Prop :=
  ∀ X : List Instr → List Value → List Value → zH → Prop, (∀ c L st h, zF C m Q X c L st h → X c L st h) → X c L st h
theorem zK_mono {al : Bool} {m : Nat} {Q Q' : zO → zH → Prop} {X Y : List Instr → List Value → List Value → zH → Prop} {r : List Instr} {L st : List Value} (hQ : ∀ o h, Q o h → Q' o h) (hX : ∀ c L st h, X c L st h → Y c L st h) (o : zO) (h : zH) (hk : zK al m Q X r L st o h) : zK al m Q' Y r L st o h := by
  match o with
  | .inl none => exact hX _ _ _ _ hk
  | .inl (some v) => exact hX _ _ _ _ hk
  | .inr k =>
    unfold zK at hk ⊢
    dsimp only at hk ⊢
    refine ⟨hk.1, ?_⟩
    replace hk := hk.2
    split at hk
    · exact hQ _ _ hk
    · split at hk
      · exact hX _ _ _ _ hk
      · exact hk
theorem zF_mono {C : Nat → List Value → zH → (zO → zH → Prop) → Prop} (hC : zMono C) {m : Nat} {Q Q' : zO → zH → Prop} {X Y : List Instr → List Value → List Value → zH → Prop} (hQ : ∀ o h, Q o h → Q' o h) (hX : ∀ c L st h, X c L st h → Y c L st h) (c : List Instr) (L st : List Value) (h : zH) (hf : zF C m Q X c L st h) : zF C m Q' Y c L st h := by
  unfold zF at hf ⊢
  split at hf
  · exact hf
  · split at hf
    · exact ⟨hf.1, hf.2.1, hC _ _ _ _ _ (zK_mono hQ hX) hf.2.2⟩
    · obtain ⟨h1, h2, a, y, h3, h4, h5⟩ := hf
      exact ⟨h1, h2, a, y, h3, h4, hC _ _ _ _ _ (zK_mono hQ hX) h5⟩
    · exact ⟨hf.1, hf.2.1, hQ _ _ hf.2.2⟩
    · obtain ⟨x, h1, h2, h3⟩ := hf
      exact ⟨x, h1, h2, hQ _ _ h3⟩
    · obtain ⟨h1, x, h2, h3⟩ := hf
      exact ⟨h1, x, h2, hQ _ _ h3⟩
    · obtain ⟨h1, x, h2, h3⟩ := hf
      exact ⟨h1, x, h2, hQ _ _ h3⟩
    · split at hf
      · exact hX _ _ _ _ hf
      · exact hf
theorem zwp_in {C : Nat → List Value → zH → (zO → zH → Prop) → Prop} (hC : zMono C) {m : Nat} {Q : zO → zH → Prop} {c : List Instr} {L st : List Value} {h : zH} (hf : zF C m Q (zwp C m Q) c L st h) : zwp C m Q c L st h := by
  intro X hX
  exact hX _ _ _ _ (zF_mono hC (fun _ _ q => q) (fun c L st h q => q X hX) c L st h hf)
theorem zwp_out {C : Nat → List Value → zH → (zO → zH → Prop) → Prop} (hC : zMono C) {m : Nat} {Q : zO → zH → Prop} {c : List Instr} {L st : List Value} {h : zH} (hw : zwp C m Q c L st h) : zF C m Q (zwp C m Q) c L st h :=
  hw (zF C m Q (zwp C m Q)) (fun c L st h hf => zF_mono hC (fun _ _ q => q) (fun _ _ _ _ q => zwp_in hC q) c L st h hf)
theorem zwp_eq {C : Nat → List Value → zH → (zO → zH → Prop) → Prop} (hC : zMono C) {m : Nat} {Q : zO → zH → Prop} {c : List Instr} {L st : List Value} {h : zH} : zwp C m Q c L st h = zF C m Q (zwp C m Q) c L st h := propext ⟨zwp_out hC, zwp_in hC⟩
theorem zwp_mono {C : Nat → List Value → zH → (zO → zH → Prop) → Prop} (hC : zMono C) {m : Nat} {Q Q' : zO → zH → Prop} (hQ : ∀ o h, Q o h → Q' o h) {c : List Instr} {L st : List Value} {h : zH} (hw : zwp C m Q c L st h) : zwp C m Q' c L st h :=
  hw (zwp C m Q') (fun c L st h hf => zwp_in hC (zF_mono hC hQ (fun _ _ _ _ q => q) c L st h hf))
/-- refuse(why) -/
def zRefuse (as : List Value) (h : zH) (Q : zO → zH → Prop) : Prop := match as with
  | [.int x] => if x = 1 then Q (.inr 1) (zHnew h 11 0 6 (fun _ => .null)) else if x = 2 then Q (.inr 2) (zHnew h 12 0 6 (fun _ => .null)) else if x = 3 then Q (.inr 3) (zHnew h 13 0 6 (fun _ => .null)) else Q (.inl none) h
  | _ => False
def zRc (m : Nat) (as : List Value) (s : zS) : Bool := match as with
  | .ref a :: _ => if zRcT.getD m 99 = 99 then true else if zRcT.getD m 99 = 6 then s.tg a == 0 || s.tg a == 5 else s.tg a == zRcT.getD m 99
  | _ => zRcT.getD m 99 == 99
def zcall : Nat → Nat → List Value → zH → (zO → zH → Prop) → Prop
  | 0 => fun _ _ _ _ => False
  | d + 1 => fun m as h Q => if m = zRef then 5 ≤ d ∧ zRefuse as h Q else if as.length = zNa m ∧ zRc m as h.1 = true then zwp (zcall d) m Q (zB m 0) (as ++ List.replicate (zMl m - as.length) zJ) [] h else False
theorem zcall_mono : ∀ d, zMono (zcall d)
  | 0 => fun _ _ _ _ _ _ h => h.elim
  | d + 1 => by
    intro y as h K K' hK hc
    unfold zcall at hc ⊢
    split at hc
    · rename_i e
      rw [if_pos e]
      refine ⟨hc.1, ?_⟩
      replace hc := hc.2
      unfold zRefuse at hc ⊢
      split at hc
      · split at hc
        · rename_i e1
          rw [if_pos e1]
          exact hK _ _ hc
        · rename_i e1
          rw [if_neg e1]
          split at hc
          · rename_i e2
            rw [if_pos e2]
            exact hK _ _ hc
          · rename_i e2
            rw [if_neg e2]
            split at hc
            · rename_i e3
              rw [if_pos e3]
              exact hK _ _ hc
            · rename_i e3
              rw [if_neg e3]
              exact hK _ _ hc
      · exact hc
    · rename_i e
      rw [if_neg e]
      split at hc
      · rename_i e1
        rw [if_pos e1]
        exact zwp_mono (zcall_mono d) hK hc
      · exact hc.elim
theorem zw {d m : Nat} {Q : zO → zH → Prop} {c : List Instr} {L st : List Value} {h : zH} : zwp (zcall d) m Q c L st h = zF (zcall d) m Q (zwp (zcall d) m Q) c L st h := zwp_eq (zcall_mono d)
theorem zcall_in {d m : Nat} {as : List Value} {h : zH} {Q : zO → zH → Prop} (h1 : m ≠ zRef) (h2 : as.length = zNa m) (h3 : zRc m as h.1 = true) : zcall (d + 1) m as h Q = zwp (zcall d) m Q (zB m 0) (as ++ List.replicate (zMl m - as.length) zJ) [] h := by
  show (if m = zRef then 5 ≤ d ∧ zRefuse as h Q else if as.length = zNa m ∧ zRc m as h.1 = true then zwp (zcall d) m Q (zB m 0) (as ++ List.replicate (zMl m - as.length) zJ) [] h else False) = _
  rw [if_neg h1, if_pos ⟨h2, h3⟩]
theorem zRc_t {m a t : Nat} {as : List Value} {s : zS} (h : zRcT.getD m 99 = t) (ht : s.tg a = t) (h6 : t ≠ 6) (h9 : t ≠ 99) : zRc m (.ref a :: as) s = true := by
  unfold zRc
  dsimp only
  rw [h, if_neg h9, if_neg h6, ht]
  exact beq_self_eq_true t
theorem zRc_9 {m : Nat} {as : List Value} {s : zS} (h : zRcT.getD m 99 = 99) : zRc m as s = true := by
  unfold zRc
  split
  · rw [if_pos h]
  · rw [h]; rfl
theorem zRc_6 {m a : Nat} {as : List Value} {s : zS} (h : zRcT.getD m 99 = 6) (ht : s.tg a = 0 ∨ s.tg a = 5) : zRc m (.ref a :: as) s = true := by
  unfold zRc
  dsimp only
  rw [h, if_neg (by decide), if_pos rfl]
  rcases ht with ht | ht <;> rw [ht] <;> rfl
/-- refuse(0) goes on; 1, 2, 3 throw -/
theorem zc_ref {d : Nat} {z : Int} {s : zS} {V : zV} {Q : zO → zH → Prop} (hz : 0 ≤ z) (hz2 : z ≤ 3) : zcall (d + 6) zRef [zi z] (s, V) Q = if z = 0 then Q (.inl none) (s, V) else Q (.inr z.toNat) (s.new (10 + z.toNat) 0 6, zrow V s.sz (fun _ => .null)) := by
  unfold zcall
  rw [if_pos rfl]
  rcases (by omega : z = 0 ∨ z = 1 ∨ z = 2 ∨ z = 3) with rfl | rfl | rfl | rfl <;> (refine propext ⟨fun q => q.2, fun q => ⟨by omega, q⟩⟩)
end
section
/-! rows of blocks, of entries; written by wip/whole/gen_code.py -/
theorem zb_0_0 : zB 0 0 = [.aload 0, .invokeinterface 57 1, .aload 0, .iconst 0, .newarray .int, .putfield 0, .return_] := rfl
theorem zb_1_0 : zB 1 0 = [.aload 1, .iload 2, .invokeinterface 91 2, .ifCond .ne 1, .iconst (-1), .ireturn] := rfl
theorem zb_1_1 : zB 1 1 = [.aload 0, .getfield 0, .arraylength, .ifCond .ne 2, .aload 0, .iconst 6012, .newarray .int, .putfield 0, .goto_w 2] := rfl
theorem zb_1_2 : zB 1 2 = [.aload 1, .iload 2, .invokeinterface 87 2, .istore 3, .iconst 0, .istore 4, .goto_w 3] := rfl
theorem zb_1_3 : zB 1 3 = [.iload 4, .iconst 1000, .if_icmp .gt 6, .aload 0, .aload 1, .iload 2, .iconst 0, .iload 4, .iconst 1, .invokeinterface 62 6, .invokeinterface 60 1, .ifCond .eq 4, .iload 4, .ireturn] := rfl
theorem zb_1_4 : zB 1 4 = [.iload 4, .iconst 500, .if_icmp .gt 5, .aload 0, .aload 1, .iload 3, .iload 4, .invokeinterface 2 4, .goto_w 5] := rfl
theorem zb_1_5 : zB 1 5 = [.iinc 4 1, .goto 3] := rfl
theorem zb_1_6 : zB 1 6 = [.iconst (-1), .ireturn] := rfl
theorem zb_2_0 : zB 2 0 = [.iconst 0, .istore 4, .goto_w 1] := rfl
theorem zb_2_1 : zB 2 1 = [.iload 4, .aload 1, .getfield 448, .if_icmp .ge 3, .iload 2, .iload 4, .invokeinterface 158 2, .ifCond .eq 2, .aload 0, .getfield 0, .iload 3, .iconst 12, .imul, .iload 4, .iadd, .aload 0, .aload 1, .iload 4, .iconst 0, .iload 3, .iconst 1, .invokeinterface 62 6, .iastore, .goto_w 2] := rfl
theorem zb_2_2 : zB 2 2 = [.iinc 4 1, .goto 1] := rfl
theorem zb_2_3 : zB 2 3 = [.return_] := rfl
theorem zb_3_0 : zB 3 0 = [.aload 0, .getfield 0, .iload 4, .iconst 12, .imul, .aload 1, .getfield 451, .iconst 1, .aaload, .iload 2, .iaload, .iadd, .iaload, .ireturn] := rfl
theorem zb_4_0 : zB 4 0 = [.return_] := rfl
theorem zb_5_0 : zB 5 0 = [.return_] := rfl
theorem zb_6_0 : zB 6 0 = [.aload 0, .monitorexit, .aload 0, .iconst 12, .iconst 64, .multianewarray 1 2, .putfield 64, .aload 0, .iconst 64, .newarray .long, .putfield 65, .aload 0, .iconst 0, .newarray .double, .putfield 66, .return_] := rfl
theorem zb_7_0 : zB 7 0 = [.iconst 1, .iconst 1, .aload 1, .getfield 448, .ishl, .iconst 6, .ishr, .invokeinterface 300 2, .istore 3, .iconst 0, .istore 4, .goto_w 1] := rfl
theorem zb_7_1 : zB 7 1 = [.iload 4, .aload 2, .invokeinterface 22 1, .if_icmp .ge 7, .aload 2, .iload 4, .invokeinterface 21 2, .istore 5, .iconst 0, .istore 6, .goto_w 2] := rfl
theorem zb_7_2 : zB 7 2 = [.iload 6, .iload 3, .if_icmp .ge 3, .aload 0, .getfield 64, .iload 5, .aaload, .iload 6, .iload 5, .iload 6, .invokeinterface 8 2, .lastore, .iinc 6 1, .goto 2] := rfl
theorem zb_7_3 : zB 7 3 = [.iconst 0, .istore 6, .goto_w 4] := rfl
theorem zb_7_4 : zB 7 4 = [.iload 6, .aload 1, .getfield 449, .if_icmp .ge 6, .aload 1, .iload 6, .iload 5, .invokeinterface 84 3, .ifCond .eq 5, .aload 1, .iload 6, .invokeinterface 86 2, .ifCond .eq 5, .aload 0, .aload 1, .iload 6, .iload 3, .invokeinterface 9 4, .goto_w 5] := rfl
theorem zb_7_5 : zB 7 5 = [.iinc 6 1, .goto 4] := rfl
theorem zb_7_6 : zB 7 6 = [.iinc 4 1, .goto 1] := rfl
theorem zb_7_7 : zB 7 7 = [.return_] := rfl
theorem zb_8_0 : zB 8 0 = [.iload 0, .iconst 6, .if_icmp .ge 1, .getstatic 3, .iload 0, .laload, .lreturn] := rfl
theorem zb_8_1 : zB 8 1 = [.iload 1, .iload 0, .iconst 6, .isub, .invokeinterface 158 2, .ifCond .eq 2, .jsr_w (-1), .goto 3] := rfl
theorem zb_8_2 : zB 8 2 = [.jsr_w 0, .goto_w 3] := rfl
theorem zb_8_3 : zB 8 3 = [.lreturn] := rfl
theorem zb_9_0 : zB 9 0 = [.iconst 0, .istore 4, .goto_w 1] := rfl
theorem zb_9_1 : zB 9 1 = [.iload 4, .iload 3, .if_icmp .ge 2, .aload 0, .getfield 65, .iload 4, .jsr_w (-1), .lastore, .iinc 4 1, .goto 1] := rfl
theorem zb_9_2 : zB 9 2 = [.iload 2, .istore 4, .goto_w 3] := rfl
theorem zb_9_3 : zB 9 3 = [.iload 4, .aload 1, .getfield 449, .if_icmp .ge 6, .aload 1, .iload 4, .iload 2, .invokeinterface 85 3, .ifCond .eq 5, .aload 0, .getfield 64, .aload 1, .getfield 451, .iconst 1, .aaload, .iload 4, .iaload, .aaload, .astore 5, .iconst 0, .istore 6, .goto_w 4] := rfl
theorem zb_9_4 : zB 9 4 = [.iload 6, .iload 3, .if_icmp .ge 5, .aload 0, .getfield 65, .iload 6, .dup2, .laload, .aload 5, .iload 6, .laload, .land, .lastore, .iinc 6 1, .goto 4] := rfl
theorem zb_9_5 : zB 9 5 = [.iinc 4 1, .goto 3] := rfl
theorem zb_9_6 : zB 9 6 = [.aload 0, .getfield 64, .aload 1, .getfield 451, .iconst 0, .aaload, .iload 2, .iaload, .aaload, .astore 4, .iconst 0, .istore 5, .goto_w 7] := rfl
theorem zb_9_7 : zB 9 7 = [.iload 5, .iload 3, .if_icmp .ge 8, .aload 4, .iload 5, .dup2, .laload, .aload 0, .getfield 65, .iload 5, .laload, .lor, .lastore, .iinc 5 1, .goto 7] := rfl
theorem zb_9_8 : zB 9 8 = [.return_] := rfl
theorem zb_10_0 : zB 10 0 = [.aload 0, .getfield 64, .iload 1, .aaload, .iload 2, .iconst 6, .ishr, .laload, .iload 2, .iconst 63, .iand, .lushr, .jsr_w 1, .land, .jsr_w 0, .lcmp, .ifCond .eq 1, .iconst 1, .goto 2] := rfl
theorem zb_10_1 : zB 10 1 = [.iconst 0, .goto_w 2] := rfl
theorem zb_10_2 : zB 10 2 = [.ireturn] := rfl
theorem zb_11_0 : zB 11 0 = [.aload 0, .iload 2, .iload 3, .invokeinterface 10 3, .ifCond .ne 1, .iconst 0, .ireturn] := rfl
theorem zb_11_1 : zB 11 1 = [.iconst 0, .istore 4, .goto_w 2] := rfl
theorem zb_11_2 : zB 11 2 = [.iload 4, .aload 1, .getfield 448, .if_icmp .ge 4, .iload 3, .iload 4, .invokeinterface 158 2, .ifCond .eq 3, .aload 0, .iload 2, .iload 3, .iconst 1, .iload 4, .ishl, .iconst (-1), .ixor, .iand, .invokeinterface 10 3, .ifCond .eq 3, .iconst 0, .ireturn] := rfl
theorem zb_11_3 : zB 11 3 = [.iinc 4 1, .goto 2] := rfl
theorem zb_11_4 : zB 11 4 = [.iconst 1, .ireturn] := rfl
theorem zb_12_0 : zB 12 0 = [.iconst 0, .istore 4, .iconst 0, .istore 5, .goto_w 1] := rfl
theorem zb_12_1 : zB 12 1 = [.iload 5, .iconst 1, .aload 1, .getfield 448, .ishl, .if_icmp .ge 3, .iload 5, .invokeinterface 302 1, .iload 3, .if_icmp .ne 2, .aload 0, .aload 1, .iload 2, .iload 5, .invokeinterface 11 4, .ifCond .eq 2, .iinc 4 1, .goto_w 2] := rfl
theorem zb_12_2 : zB 12 2 = [.iinc 5 1, .goto 1] := rfl
theorem zb_12_3 : zB 12 3 = [.iload 4, .ireturn] := rfl
theorem zb_13_0 : zB 13 0 = [.iconst 0, .istore 5, .iconst 0, .istore 6, .goto_w 1] := rfl
theorem zb_13_1 : zB 13 1 = [.iload 6, .iconst 1, .aload 1, .getfield 448, .ishl, .if_icmp .ge 4, .iload 6, .invokeinterface 302 1, .iload 3, .if_icmp .ne 3, .aload 0, .aload 1, .iload 2, .iload 6, .invokeinterface 11 4, .ifCond .eq 3, .iload 5, .iload 4, .if_icmp .ne 2, .iload 6, .ireturn] := rfl
theorem zb_13_2 : zB 13 2 = [.iinc 5 1, .goto_w 3] := rfl
theorem zb_13_3 : zB 13 3 = [.iinc 6 1, .goto 1] := rfl
theorem zb_13_4 : zB 13 4 = [.iconst (-1), .ireturn] := rfl
theorem zb_14_0 : zB 14 0 = [.aload 0, .aload 1, .iload 3, .invokeinterface 15 3, .jsr 0, .dstore 4, .iconst 0, .istore 6, .goto_w 1] := rfl
theorem zb_14_1 : zB 14 1 = [.iload 6, .iconst 1, .aload 1, .getfield 448, .ishl, .if_icmp .ge 3, .aload 0, .iload 2, .iload 6, .invokeinterface 10 3, .ifCond .ne 2, .dload 4, .aload 0, .getfield 66, .iload 6, .daload, .dadd, .dstore 4, .goto_w 2] := rfl
theorem zb_14_2 : zB 14 2 = [.iinc 6 1, .goto 1] := rfl
theorem zb_14_3 : zB 14 3 = [.dload 4, .dreturn] := rfl
theorem zb_15_0 : zB 15 0 = [.aload 0, .getfield 66, .arraylength, .ifCond .ne 1, .aload 0, .iconst 4096, .newarray .double, .putfield 66, .goto_w 1] := rfl
theorem zb_15_1 : zB 15 1 = [.aload 0, .getfield 66, .iconst 0, .jsr 4607182418800017408, .dastore, .iconst 0, .istore 3, .goto_w 2] := rfl
theorem zb_15_2 : zB 15 2 = [.iload 3, .aload 1, .getfield 448, .if_icmp .ge 7, .iload 3, .iload 2, .if_icmp .ne 3, .iconst 1000, .goto 4] := rfl
theorem zb_15_3 : zB 15 3 = [.aload 1, .getfield 450, .iconst 5, .aaload, .iload 3, .iaload, .goto_w 4] := rfl
theorem zb_15_4 : zB 15 4 = [.istore 4, .iload 4, .i2d, .jsr 4652007308841189376, .ddiv, .dstore 5, .iconst 1000, .iload 4, .isub, .i2d, .jsr 4652007308841189376, .ddiv, .dstore 7, .iconst 1, .iload 3, .ishl, .istore 9, .iconst 0, .istore 10, .goto_w 5] := rfl
theorem zb_15_5 : zB 15 5 = [.iload 10, .iload 9, .if_icmp .ge 6, .aload 0, .getfield 66, .iload 9, .iload 10, .iadd, .aload 0, .getfield 66, .iload 10, .daload, .dload 7, .dmul, .dastore, .aload 0, .getfield 66, .iload 10, .aload 0, .getfield 66, .iload 10, .daload, .dload 5, .dmul, .dastore, .iinc 10 1, .goto 5] := rfl
theorem zb_15_6 : zB 15 6 = [.iinc 3 1, .goto 2] := rfl
theorem zb_15_7 : zB 15 7 = [.return_] := rfl
theorem zb_16_0 : zB 16 0 = [.iconst 0, .istore 3, .aload 0, .aload 1, .iload 2, .iconst 0, .invokeinterface 14 4, .dstore 4, .iconst 1, .istore 6, .goto_w 1] := rfl
theorem zb_16_1 : zB 16 1 = [.iload 6, .aload 1, .getfield 448, .if_icmp .ge 3, .aload 0, .aload 1, .iload 2, .iload 6, .invokeinterface 14 4, .dstore 7, .dload 7, .dload 4, .dcmp .l, .ifCond .le 2, .iload 6, .istore 3, .dload 7, .dstore 4, .goto_w 2] := rfl
theorem zb_16_2 : zB 16 2 = [.iinc 6 1, .goto 1] := rfl
theorem zb_16_3 : zB 16 3 = [.iload 3, .ireturn] := rfl
theorem zb_17_0 : zB 17 0 = [.aload 0, .monitorexit, .aload 0, .iconst 12, .newarray .int, .putfield 128, .aload 0, .iconst 12, .newarray .int, .putfield 129, .aload 0, .iconst 0, .putfield 130, .aload 0, .iconst 12, .newarray .int, .putfield 131, .aload 0, .iconst 12, .newarray .int, .putfield 132, .return_] := rfl
theorem zb_18_0 : zB 18 0 = [.aload 0, .aload 1, .invokeinterface 19 2, .aload 0, .iconst 0, .putfield 130, .iconst 0, .istore 2, .iconst 0, .istore 3, .goto_w 1] := rfl
theorem zb_18_1 : zB 18 1 = [.iload 3, .aload 1, .getfield 448, .if_icmp .ge 3, .aload 0, .aload 1, .iload 2, .invokeinterface 20 3, .istore 4, .iload 4, .iconst (-1), .if_icmp .ne 2, .return_] := rfl
theorem zb_18_2 : zB 18 2 = [.aload 0, .getfield 129, .iload 3, .iload 4, .iastore, .iload 2, .iconst 1, .iload 4, .ishl, .ior, .istore 2, .aload 0, .dup, .getfield 130, .iconst 1, .iadd, .putfield 130, .iinc 3 1, .goto 1] := rfl
theorem zb_18_3 : zB 18 3 = [.return_] := rfl
theorem zb_19_0 : zB 19 0 = [.iconst 0, .istore 2, .goto_w 1] := rfl
theorem zb_19_1 : zB 19 1 = [.iload 2, .aload 1, .getfield 448, .if_icmp .ge 2, .aload 0, .getfield 128, .iload 2, .iconst 0, .iastore, .iinc 2 1, .goto 1] := rfl
theorem zb_19_2 : zB 19 2 = [.iconst 0, .istore 2, .goto_w 3] := rfl
theorem zb_19_3 : zB 19 3 = [.iload 2, .aload 1, .getfield 449, .if_icmp .ge 4, .aload 0, .getfield 128, .aload 1, .getfield 451, .iconst 0, .aaload, .iload 2, .iaload, .dup2, .iaload, .iconst 1, .aload 1, .getfield 451, .iconst 1, .aaload, .iload 2, .iaload, .ishl, .ior, .iastore, .iinc 2 1, .goto 3] := rfl
theorem zb_19_4 : zB 19 4 = [.return_] := rfl
theorem zb_20_0 : zB 20 0 = [.iconst 0, .istore 3, .goto_w 1] := rfl
theorem zb_20_1 : zB 20 1 = [.iload 3, .aload 1, .getfield 448, .if_icmp .ge 3, .iload 2, .iload 3, .invokeinterface 158 2, .ifCond .ne 2, .aload 0, .getfield 128, .iload 3, .iaload, .iload 2, .iconst (-1), .ixor, .iand, .ifCond .ne 2, .iload 3, .ireturn] := rfl
theorem zb_20_2 : zB 20 2 = [.iinc 3 1, .goto 1] := rfl
theorem zb_20_3 : zB 20 3 = [.iconst (-1), .ireturn] := rfl
theorem zb_21_0 : zB 21 0 = [.iload 1, .ifCond .lt 1, .iload 1, .aload 0, .getfield 130, .if_icmp .lt 2, .goto_w 1] := rfl
theorem zb_21_1 : zB 21 1 = [.iconst (-1), .goto 3] := rfl
theorem zb_21_2 : zB 21 2 = [.aload 0, .getfield 129, .iload 1, .iaload, .goto_w 3] := rfl
theorem zb_21_3 : zB 21 3 = [.ireturn] := rfl
theorem zb_22_0 : zB 22 0 = [.aload 0, .getfield 130, .ireturn] := rfl
theorem zb_23_0 : zB 23 0 = [.aload 0, .aload 1, .invokeinterface 18 2, .iconst 0, .istore 2, .goto_w 1] := rfl
theorem zb_23_1 : zB 23 1 = [.iload 2, .aload 0, .getfield 130, .if_icmp .ge 2, .aload 0, .getfield 131, .aload 0, .getfield 129, .iload 2, .iaload, .aload 0, .aload 1, .aload 0, .getfield 129, .iload 2, .iaload, .invokeinterface 24 3, .iastore, .iinc 2 1, .goto 1] := rfl
theorem zb_23_2 : zB 23 2 = [.return_] := rfl
theorem zb_24_0 : zB 24 0 = [.iconst 0, .istore 3, .iconst 0, .istore 4, .goto_w 1] := rfl
theorem zb_24_1 : zB 24 1 = [.iload 4, .aload 1, .getfield 449, .if_icmp .ge 3, .aload 1, .getfield 451, .iconst 0, .aaload, .iload 4, .iaload, .iload 2, .if_icmp .ne 2, .iload 3, .iconst 1, .aload 0, .getfield 131, .aload 1, .getfield 451, .iconst 1, .aaload, .iload 4, .iaload, .iaload, .iadd, .invokeinterface 300 2, .istore 3, .goto_w 2] := rfl
theorem zb_24_2 : zB 24 2 = [.iinc 4 1, .goto 1] := rfl
theorem zb_24_3 : zB 24 3 = [.iload 3, .ireturn] := rfl
theorem zb_25_0 : zB 25 0 = [.aload 0, .aload 1, .invokeinterface 18 2, .iconst 0, .istore 2, .goto_w 1] := rfl
theorem zb_25_1 : zB 25 1 = [.iload 2, .aload 0, .getfield 130, .if_icmp .ge 2, .aload 0, .getfield 132, .aload 0, .getfield 129, .iload 2, .iaload, .aload 0, .aload 1, .aload 0, .getfield 129, .iload 2, .iaload, .invokeinterface 26 3, .iastore, .iinc 2 1, .goto 1] := rfl
theorem zb_25_2 : zB 25 2 = [.return_] := rfl
theorem zb_26_0 : zB 26 0 = [.aload 1, .iload 2, .invokeinterface 81 2, .istore 3, .iconst 0, .istore 4, .goto_w 1] := rfl
theorem zb_26_1 : zB 26 1 = [.iload 4, .aload 1, .getfield 449, .if_icmp .ge 3, .aload 1, .getfield 451, .iconst 0, .aaload, .iload 4, .iaload, .iload 2, .if_icmp .ne 2, .aload 1, .getfield 451, .iconst 2, .aaload, .iload 4, .iaload, .istore 5, .iload 5, .aload 0, .getfield 132, .aload 1, .getfield 451, .iconst 1, .aaload, .iload 4, .iaload, .iaload, .invokeinterface 301 2, .istore 6, .iload 3, .aload 1, .getfield 451, .iconst 3, .aaload, .iload 4, .iaload, .iload 6, .imul, .iadd, .istore 3, .goto_w 2] := rfl
theorem zb_26_2 : zB 26 2 = [.iinc 4 1, .goto 1] := rfl
theorem zb_26_3 : zB 26 3 = [.iload 3, .iconst 100000, .invokeinterface 301 2, .ireturn] := rfl
theorem zb_27_0 : zB 27 0 = [.iconst 0, .istore 2, .iconst 0, .istore 3, .goto_w 1] := rfl
theorem zb_27_1 : zB 27 1 = [.iload 3, .aload 1, .getfield 449, .if_icmp .ge 3, .aload 1, .getfield 451, .iconst 2, .aaload, .iload 3, .iaload, .aload 0, .getfield 132, .aload 1, .getfield 451, .iconst 1, .aaload, .iload 3, .iaload, .iaload, .if_icmp .ge 2, .iinc 2 1, .goto_w 2] := rfl
theorem zb_27_2 : zB 27 2 = [.iinc 3 1, .goto 1] := rfl
theorem zb_27_3 : zB 27 3 = [.iload 2, .ireturn] := rfl
theorem zb_28_0 : zB 28 0 = [.aload 0, .aload 1, .invokeinterface 18 2, .iconst 0, .istore 2, .iconst 0, .istore 3, .goto_w 1] := rfl
theorem zb_28_1 : zB 28 1 = [.iload 3, .aload 0, .getfield 130, .if_icmp .ge 2, .aload 0, .getfield 129, .iload 3, .iaload, .istore 4, .aload 0, .getfield 132, .iload 4, .aload 0, .aload 1, .iload 4, .invokeinterface 26 3, .iastore, .iload 2, .aload 0, .aload 1, .iload 4, .aload 0, .getfield 132, .iload 4, .iaload, .iconst 500, .invokeinterface 301 2, .invokeinterface 29 4, .iadd, .istore 2, .iinc 3 1, .goto 1] := rfl
theorem zb_28_2 : zB 28 2 = [.iload 2, .ireturn] := rfl
theorem zb_29_0 : zB 29 0 = [.iconst 0, .istore 4, .iconst 0, .istore 5, .goto_w 1] := rfl
theorem zb_29_1 : zB 29 1 = [.iload 5, .aload 1, .getfield 449, .if_icmp .ge 3, .aload 1, .getfield 451, .iconst 1, .aaload, .iload 5, .iaload, .iload 2, .if_icmp .ne 2, .aload 1, .iload 5, .iload 3, .invokeinterface 79 3, .iload 3, .if_icmp .eq 2, .iinc 4 1, .goto_w 2] := rfl
theorem zb_29_2 : zB 29 2 = [.iinc 5 1, .goto 1] := rfl
theorem zb_29_3 : zB 29 3 = [.iload 4, .ireturn] := rfl
theorem zb_30_0 : zB 30 0 = [.iload 2, .istore 3, .iconst 0, .istore 4, .goto_w 1] := rfl
theorem zb_30_1 : zB 30 1 = [.iload 4, .aload 0, .getfield 130, .if_icmp .ge 3, .aload 1, .aload 0, .getfield 129, .iload 4, .iaload, .iload 3, .invokeinterface 89 3, .ifCond .eq 2, .iload 3, .iconst 1, .aload 0, .getfield 129, .iload 4, .iaload, .ishl, .ior, .istore 3, .goto_w 2] := rfl
theorem zb_30_2 : zB 30 2 = [.iinc 4 1, .goto 1] := rfl
theorem zb_30_3 : zB 30 3 = [.iload 3, .ireturn] := rfl
theorem zb_31_0 : zB 31 0 = [.aload 0, .monitorexit, .aload 0, .iconst 4, .anewarray 0, .putfield 192, .aload 0, .iconst 0, .putfield 193, .iconst 0, .istore 1, .goto_w 1] := rfl
theorem zb_31_1 : zB 31 1 = [.iload 1, .iconst 4, .if_icmp .ge 2, .aload 0, .getfield 192, .iload 1, .new 7, .dup, .invokeinterface 65 1, .aastore, .iinc 1 1, .goto 1] := rfl
theorem zb_31_2 : zB 31 2 = [.return_] := rfl
theorem zb_32_0 : zB 32 0 = [.aload 0, .getfield 193, .iconst 4, .if_icmp .ne 1, .aload 0, .invokeinterface 33 1, .goto_w 1] := rfl
theorem zb_32_1 : zB 32 1 = [.aload 0, .getfield 192, .aload 0, .getfield 193, .aaload, .aload 1, .invokeinterface 66 2, .aload 0, .dup, .getfield 193, .iconst 1, .iadd, .putfield 193, .return_] := rfl
theorem zb_33_0 : zB 33 0 = [.aload 0, .getfield 192, .iconst 0, .aaload, .astore 1, .iconst 1, .istore 2, .goto_w 1] := rfl
theorem zb_33_1 : zB 33 1 = [.iload 2, .iconst 4, .if_icmp .ge 2, .aload 0, .getfield 192, .iload 2, .iconst 1, .isub, .aload 0, .getfield 192, .iload 2, .aaload, .aastore, .iinc 2 1, .goto 1] := rfl
theorem zb_33_2 : zB 33 2 = [.aload 0, .getfield 192, .iconst 3, .aload 1, .aastore, .aload 0, .dup, .getfield 193, .iconst 1, .isub, .putfield 193, .return_] := rfl
theorem zb_34_0 : zB 34 0 = [.aload 0, .getfield 193, .ifCond .ne 1, .iconst 3, .goto 2] := rfl
theorem zb_34_1 : zB 34 1 = [.iconst 0, .goto_w 2] := rfl
theorem zb_34_2 : zB 34 2 = [.ireturn] := rfl
theorem zb_35_0 : zB 35 0 = [.aload 0, .dup, .getfield 193, .iconst 1, .isub, .putfield 193, .aload 1, .aload 0, .getfield 192, .aload 0, .getfield 193, .aaload, .invokeinterface 66 2, .aload 0, .getfield 193, .ireturn] := rfl
theorem zb_36_0 : zB 36 0 = [.aload 0, .monitorexit, .aload 0, .iconst 12, .newarray .int, .putfield 256, .aload 0, .iconst 12, .newarray .int, .putfield 257, .aload 0, .iconst 12, .newarray .int, .putfield 258, .aload 0, .iconst 0, .newarray .int, .putfield 259, .return_] := rfl
theorem zb_37_0 : zB 37 0 = [.aload 1, .invokeinterface 92 1, .istore 2, .iconst 0, .istore 3, .goto_w 1] := rfl
theorem zb_37_1 : zB 37 1 = [.iload 3, .aload 1, .getfield 448, .if_icmp .ge 3, .iload 2, .iload 3, .invokeinterface 158 2, .ifCond .eq 2, .aload 0, .getfield 256, .iload 3, .aload 1, .iload 3, .invokeinterface 87 2, .iload 2, .iand, .iastore, .goto_w 2] := rfl
theorem zb_37_2 : zB 37 2 = [.iinc 3 1, .goto 1] := rfl
theorem zb_37_3 : zB 37 3 = [.iload 2, .ireturn] := rfl
theorem zb_38_0 : zB 38 0 = [.aload 0, .aload 1, .invokeinterface 37 2, .istore 3, .iconst 0, .istore 4, .iconst 0, .istore 5, .iconst 0, .istore 6, .iconst 0, .istore 7, .goto_w 1] := rfl
theorem zb_38_1 : zB 38 1 = [.iload 7, .aload 1, .getfield 448, .if_icmp .gt 6, .aload 0, .aload 1, .iload 4, .iload 6, .invokeinterface 39 4, .istore 8, .iload 4, .iload 8, .iconst (-1), .ixor, .iand, .istore 4, .iload 5, .iload 8, .ior, .istore 5, .iload 2, .iload 4, .invokeinterface 302 1, .isub, .istore 9, .goto_w 2] := rfl
theorem zb_38_2 : zB 38 2 = [.iload 9, .ifCond .le 4, .aload 0, .aload 1, .iload 3, .iload 5, .invokeinterface 41 4, .istore 10, .iload 10, .iconst (-1), .if_icmp .ne 3, .goto 4] := rfl
theorem zb_38_3 : zB 38 3 = [.aload 0, .getfield 257, .iload 10, .iload 6, .iastore, .aload 0, .getfield 258, .iload 10, .iload 6, .aload 1, .getfield 450, .iconst 3, .aaload, .iload 10, .iaload, .iadd, .iastore, .iload 3, .iconst 1, .iload 10, .ishl, .iconst (-1), .ixor, .iand, .istore 3, .iload 4, .iconst 1, .iload 10, .ishl, .ior, .istore 4, .iinc 9 (-1), .goto 2] := rfl
theorem zb_38_4 : zB 38 4 = [.iload 4, .ifCond .ne 5, .iload 6, .ireturn] := rfl
theorem zb_38_5 : zB 38 5 = [.aload 0, .aload 1, .iload 4, .invokeinterface 40 3, .istore 6, .iinc 7 1, .goto 1] := rfl
theorem zb_38_6 : zB 38 6 = [.iload 6, .ireturn] := rfl
theorem zb_39_0 : zB 39 0 = [.iconst 0, .istore 4, .iconst 0, .istore 5, .goto_w 1] := rfl
theorem zb_39_1 : zB 39 1 = [.iload 5, .aload 1, .getfield 448, .if_icmp .ge 3, .iload 2, .iload 5, .invokeinterface 158 2, .ifCond .eq 2, .aload 0, .getfield 258, .iload 5, .iaload, .iload 3, .if_icmp .gt 2, .iload 4, .iconst 1, .iload 5, .ishl, .ior, .istore 4, .goto_w 2] := rfl
theorem zb_39_2 : zB 39 2 = [.iinc 5 1, .goto 1] := rfl
theorem zb_39_3 : zB 39 3 = [.iload 4, .ireturn] := rfl
theorem zb_40_0 : zB 40 0 = [.iconst (-1), .istore 3, .iconst 0, .istore 4, .goto_w 1] := rfl
theorem zb_40_1 : zB 40 1 = [.iload 4, .aload 1, .getfield 448, .if_icmp .ge 4, .iload 2, .iload 4, .invokeinterface 158 2, .ifCond .eq 3, .iload 3, .iconst (-1), .if_icmp .eq 2, .aload 0, .getfield 258, .iload 4, .iaload, .iload 3, .if_icmp .ge 3, .goto_w 2] := rfl
theorem zb_40_2 : zB 40 2 = [.aload 0, .getfield 258, .iload 4, .iaload, .istore 3, .goto_w 3] := rfl
theorem zb_40_3 : zB 40 3 = [.iinc 4 1, .goto 1] := rfl
theorem zb_40_4 : zB 40 4 = [.iload 3, .ireturn] := rfl
theorem zb_41_0 : zB 41 0 = [.iconst (-1), .istore 4, .iconst 0, .istore 5, .iconst 0, .istore 6, .goto_w 1] := rfl
theorem zb_41_1 : zB 41 1 = [.iload 6, .aload 1, .getfield 448, .if_icmp .ge 3, .iload 2, .iload 6, .invokeinterface 158 2, .ifCond .eq 2, .aload 0, .getfield 256, .iload 6, .iaload, .iload 3, .iconst (-1), .ixor, .iand, .ifCond .ne 2, .aload 1, .getfield 450, .iconst 4, .aaload, .iload 6, .iaload, .iload 5, .if_icmp .le 2, .iload 6, .istore 4, .aload 1, .getfield 450, .iconst 4, .aaload, .iload 6, .iaload, .istore 5, .goto_w 2] := rfl
theorem zb_41_2 : zB 41 2 = [.iinc 6 1, .goto 1] := rfl
theorem zb_41_3 : zB 41 3 = [.iload 4, .ireturn] := rfl
theorem zb_42_0 : zB 42 0 = [.aload 0, .aload 1, .invokeinterface 37 2, .istore 2, .aload 0, .getfield 259, .arraylength, .ifCond .ne 1, .aload 0, .iconst 4096, .newarray .int, .putfield 259, .goto_w 1] := rfl
theorem zb_42_1 : zB 42 1 = [.aload 0, .getfield 259, .iload 2, .iconst 0, .iastore, .iload 2, .istore 3, .goto_w 2] := rfl
theorem zb_42_2 : zB 42 2 = [.iload 3, .ifCond .le 3, .iload 3, .iconst 1, .isub, .iload 2, .iand, .istore 3, .aload 0, .aload 1, .iload 2, .iload 3, .invokeinterface 43 4, .pop, .goto 2] := rfl
theorem zb_42_3 : zB 42 3 = [.aload 0, .getfield 259, .iconst 0, .iaload, .ireturn] := rfl
theorem zb_43_0 : zB 43 0 = [.aload 1, .iload 3, .invokeinterface 44 2, .istore 4, .iconst (-1), .istore 5, .iconst 0, .istore 6, .iconst 0, .istore 7, .goto_w 1] := rfl
theorem zb_43_1 : zB 43 1 = [.iload 7, .aload 1, .getfield 448, .if_icmp .ge 5, .iload 2, .iload 3, .iconst (-1), .ixor, .iand, .iload 7, .invokeinterface 158 2, .ifCond .eq 4, .aload 0, .getfield 256, .iload 7, .iaload, .iload 3, .iconst (-1), .ixor, .iand, .ifCond .eq 2, .goto 4] := rfl
theorem zb_43_2 : zB 43 2 = [.iload 4, .aload 1, .getfield 450, .iconst 3, .aaload, .iload 7, .iaload, .iadd, .istore 8, .aload 1, .getfield 450, .iconst 4, .aaload, .iload 7, .iaload, .iload 8, .imul, .aload 0, .getfield 259, .iload 3, .iconst 1, .iload 7, .ishl, .ior, .iaload, .iadd, .istore 9, .iload 5, .iconst (-1), .if_icmp .eq 3, .iload 9, .iload 6, .if_icmp .ge 4, .goto_w 3] := rfl
theorem zb_43_3 : zB 43 3 = [.iload 7, .istore 5, .iload 9, .istore 6, .goto_w 4] := rfl
theorem zb_43_4 : zB 43 4 = [.iinc 7 1, .goto 1] := rfl
theorem zb_43_5 : zB 43 5 = [.aload 0, .getfield 259, .iload 3, .iload 6, .iastore, .iload 5, .ireturn] := rfl
theorem zb_44_0 : zB 44 0 = [.iconst 0, .istore 2, .iconst 0, .istore 3, .goto_w 1] := rfl
theorem zb_44_1 : zB 44 1 = [.iload 3, .aload 0, .getfield 448, .if_icmp .ge 3, .iload 1, .iload 3, .invokeinterface 158 2, .ifCond .eq 2, .iload 2, .aload 0, .getfield 450, .iconst 3, .aaload, .iload 3, .iaload, .iadd, .istore 2, .goto_w 2] := rfl
theorem zb_44_2 : zB 44 2 = [.iinc 3 1, .goto 1] := rfl
theorem zb_44_3 : zB 44 3 = [.iload 2, .ireturn] := rfl
theorem zb_45_0 : zB 45 0 = [.aload 1, .invokeinterface 92 1, .istore 3, .iload 2, .ifCond .lt 1, .iload 2, .iload 3, .invokeinterface 302 1, .if_icmp .lt 2, .goto_w 1] := rfl
theorem zb_45_1 : zB 45 1 = [.iconst (-1), .ireturn] := rfl
theorem zb_45_2 : zB 45 2 = [.aload 0, .aload 1, .invokeinterface 42 2, .pop, .iconst 0, .istore 4, .aload 0, .aload 1, .iload 3, .iload 4, .invokeinterface 43 4, .istore 5, .iconst 0, .istore 6, .goto_w 3] := rfl
theorem zb_45_3 : zB 45 3 = [.iload 6, .iload 2, .if_icmp .ge 4, .iload 5, .iconst (-1), .if_icmp .eq 4, .iload 4, .iconst 1, .iload 5, .ishl, .ior, .istore 4, .aload 0, .aload 1, .iload 3, .iload 4, .invokeinterface 43 4, .istore 5, .iinc 6 1, .goto 3] := rfl
theorem zb_45_4 : zB 45 4 = [.iload 5, .ireturn] := rfl
theorem zb_46_0 : zB 46 0 = [.aload 0, .invokeinterface 57 1, .aload 0, .iconst 0, .putfield 320, .aload 0, .iconst 0, .putfield 321, .aload 0, .iconst 0, .putfield 322, .aload 0, .iconst 0, .putfield 323, .aload 0, .iconst (-1), .putfield 324, .aload 0, .iconst (-1), .putfield 325, .aload 0, .iconst 0, .putfield 326, .aload 0, .iconst 0, .putfield 327, .aload 0, .iconst 4, .iconst 60, .multianewarray 0 2, .putfield 328, .aload 0, .iconst 4, .iconst 200, .multianewarray 0 2, .putfield 329, .return_] := rfl
theorem zb_47_0 : zB 47 0 = [.aload 0, .iconst 1, .putfield 320, .aload 0, .iconst 0, .putfield 322, .aload 0, .iconst 1, .putfield 323, .aload 0, .iconst (-1), .putfield 324, .aload 0, .iconst (-1), .putfield 325, .aload 0, .iconst 0, .putfield 326, .aload 0, .iconst 0, .putfield 327, .aload 0, .aload 0, .aload 1, .iload 2, .iconst 0, .iload 3, .iconst 1, .invokeinterface 62 6, .putfield 321, .aload 0, .getfield 321, .invokeinterface 60 1, .ireturn] := rfl
theorem zb_48_0 : zB 48 0 = [.iload 5, .iconst 12, .if_icmp .lt 1, .iconst 0, .invokeinterface 59 1, .ireturn] := rfl
theorem zb_48_1 : zB 48 1 = [.aload 0, .iload 2, .iload 3, .iload 4, .invokeinterface 49 4, .istore 6, .aload 0, .dup, .getfield 323, .iconst 1, .iadd, .putfield 323, .aload 0, .aload 1, .aload 1, .getfield 451, .iconst 1, .aaload, .iload 2, .iaload, .iload 3, .iload 4, .iload 5, .iconst 1, .iadd, .invokeinterface 62 6, .istore 7, .iload 6, .iconst (-1), .if_icmp .eq 2, .iload 7, .invokeinterface 60 1, .ifCond .eq 2, .aload 0, .getfield 329, .iconst 3, .aaload, .iload 6, .iconst 1, .iastore, .goto_w 2] := rfl
theorem zb_48_2 : zB 48 2 = [.iload 7, .ireturn] := rfl
theorem zb_49_0 : zB 49 0 = [.aload 0, .getfield 327, .iconst 200, .if_icmp .lt 1, .iconst (-1), .ireturn] := rfl
theorem zb_49_1 : zB 49 1 = [.aload 0, .getfield 327, .istore 4, .aload 0, .getfield 329, .iconst 0, .aaload, .iload 4, .iload 1, .iastore, .aload 0, .getfield 329, .iconst 1, .aaload, .iload 4, .iload 2, .iastore, .aload 0, .getfield 329, .iconst 2, .aaload, .iload 4, .iload 3, .iastore, .aload 0, .getfield 329, .iconst 3, .aaload, .iload 4, .iconst 0, .iastore, .aload 0, .dup, .getfield 327, .iconst 1, .iadd, .putfield 327, .iload 4, .ireturn] := rfl
theorem zb_50_0 : zB 50 0 = [.aload 0, .getfield 324, .iconst (-1), .if_icmp .ne 1, .aload 0, .iload 1, .putfield 324, .goto_w 1] := rfl
theorem zb_50_1 : zB 50 1 = [.aload 0, .getfield 325, .iconst (-1), .if_icmp .ne 3, .iload 2, .iconst 1, .if_icmp .eq 2, .iload 2, .iconst 2, .if_icmp .ne 3, .goto_w 2] := rfl
theorem zb_50_2 : zB 50 2 = [.aload 0, .iload 1, .putfield 325, .goto_w 3] := rfl
theorem zb_50_3 : zB 50 3 = [.aload 0, .getfield 326, .iconst 60, .if_icmp .ge 4, .aload 0, .getfield 328, .iconst 0, .aaload, .aload 0, .getfield 326, .iload 1, .iastore, .aload 0, .getfield 328, .iconst 1, .aaload, .aload 0, .getfield 326, .iload 2, .iastore, .aload 0, .getfield 328, .iconst 2, .aaload, .aload 0, .getfield 326, .iload 3, .iastore, .aload 0, .getfield 328, .iconst 3, .aaload, .aload 0, .getfield 326, .iload 4, .iastore, .aload 0, .dup, .getfield 326, .iconst 1, .iadd, .putfield 326, .goto_w 4] := rfl
theorem zb_50_4 : zB 50 4 = [.return_] := rfl
theorem zb_51_0 : zB 51 0 = [.aload 0, .dup, .getfield 322, .iconst 1, .iadd, .putfield 322, .return_] := rfl
theorem zb_52_0 : zB 52 0 = [.aload 0, .getfield 320, .ifCond .eq 1, .iconst 0, .goto 2] := rfl
theorem zb_52_1 : zB 52 1 = [.iconst 3, .goto_w 2] := rfl
theorem zb_52_2 : zB 52 2 = [.ireturn] := rfl
theorem zb_53_0 : zB 53 0 = [.iload 1, .lookupswitch 6 #[(0, 1), (1, 2), (2, 3), (3, 4), (4, 5)]] := rfl
theorem zb_53_1 : zB 53 1 = [.aload 0, .getfield 321, .invokeinterface 61 1, .ireturn] := rfl
theorem zb_53_2 : zB 53 2 = [.aload 0, .getfield 322, .ireturn] := rfl
theorem zb_53_3 : zB 53 3 = [.aload 0, .getfield 326, .ireturn] := rfl
theorem zb_53_4 : zB 53 4 = [.aload 0, .getfield 327, .ireturn] := rfl
theorem zb_53_5 : zB 53 5 = [.aload 0, .invokeinterface 54 1, .ireturn] := rfl
theorem zb_53_6 : zB 53 6 = [.aload 0, .getfield 323, .ireturn] := rfl
theorem zb_54_0 : zB 54 0 = [.aload 0, .getfield 321, .invokeinterface 60 1, .ifCond .eq 1, .iconst (-1), .ireturn] := rfl
theorem zb_54_1 : zB 54 1 = [.aload 0, .getfield 325, .iconst (-1), .if_icmp .eq 2, .aload 0, .getfield 325, .goto 3] := rfl
theorem zb_54_2 : zB 54 2 = [.aload 0, .getfield 324, .goto_w 3] := rfl
theorem zb_54_3 : zB 54 3 = [.ireturn] := rfl
theorem zb_55_0 : zB 55 0 = [.iload 1, .ifCond .lt 1, .iload 1, .aload 0, .getfield 326, .if_icmp .lt 2, .goto_w 1] := rfl
theorem zb_55_1 : zB 55 1 = [.iconst (-1), .goto 3] := rfl
theorem zb_55_2 : zB 55 2 = [.aload 0, .getfield 328, .iload 2, .aaload, .iload 1, .iaload, .goto_w 3] := rfl
theorem zb_55_3 : zB 55 3 = [.ireturn] := rfl
theorem zb_56_0 : zB 56 0 = [.iload 1, .ifCond .lt 1, .iload 1, .aload 0, .getfield 327, .if_icmp .lt 2, .goto_w 1] := rfl
theorem zb_56_1 : zB 56 1 = [.iconst (-1), .goto 3] := rfl
theorem zb_56_2 : zB 56 2 = [.aload 0, .getfield 329, .iload 2, .aaload, .iload 1, .iaload, .goto_w 3] := rfl
theorem zb_56_3 : zB 56 3 = [.ireturn] := rfl
theorem zb_57_0 : zB 57 0 = [.aload 0, .monitorexit, .return_] := rfl
theorem zb_58_0 : zB 58 0 = [.iconst 2, .iload 0, .imul, .iconst 1, .iadd, .ireturn] := rfl
theorem zb_59_0 : zB 59 0 = [.iconst 2, .iload 0, .imul, .ireturn] := rfl
theorem zb_60_0 : zB 60 0 = [.iload 0, .iconst 1, .iand, .ifCond .eq 1, .iconst 1, .goto 2] := rfl
theorem zb_60_1 : zB 60 1 = [.iconst 0, .goto_w 2] := rfl
theorem zb_60_2 : zB 60 2 = [.ireturn] := rfl
theorem zb_61_0 : zB 61 0 = [.iload 0, .iconst 1, .ishr, .ireturn] := rfl
theorem zb_62_0 : zB 62 0 = [.aload 1, .iload 2, .invokeinterface 91 2, .ifCond .ne 1, .aload 0, .iload 2, .iconst 1, .iload 3, .iload 4, .invokevirtual 1, .iconst 0, .invokeinterface 59 1, .ireturn] := rfl
theorem zb_62_1 : zB 62 1 = [.aload 1, .iload 2, .invokeinterface 81 2, .istore 6, .iload 6, .iload 4, .if_icmp .le 2, .aload 0, .iload 2, .iconst 2, .iload 3, .iload 4, .iadd, .iload 4, .invokevirtual 1, .iload 4, .invokeinterface 59 1, .ireturn] := rfl
theorem zb_62_2 : zB 62 2 = [.iconst 0, .istore 7, .goto_w 3] := rfl
theorem zb_62_3 : zB 62 3 = [.iload 7, .aload 1, .getfield 449, .if_icmp .ge 7, .aload 1, .iload 7, .iload 2, .invokeinterface 84 3, .ifCond .ne 4, .goto 6] := rfl
theorem zb_62_4 : zB 62 4 = [.aload 0, .aload 1, .iload 7, .iload 3, .iload 4, .iload 6, .iload 5, .invokeinterface 63 7, .istore 8, .iload 8, .invokeinterface 61 1, .istore 6, .iload 8, .invokeinterface 60 1, .ifCond .ne 5, .aload 1, .iload 7, .invokeinterface 86 2, .ifCond .eq 5, .aload 0, .iload 2, .iconst 4, .iload 3, .iload 6, .iadd, .iload 4, .invokevirtual 1, .iload 6, .invokeinterface 59 1, .ireturn] := rfl
theorem zb_62_5 : zB 62 5 = [.iload 8, .invokeinterface 60 1, .ifCond .ne 6, .aload 0, .invokevirtual 2, .goto_w 6] := rfl
theorem zb_62_6 : zB 62 6 = [.iinc 7 1, .goto 3] := rfl
theorem zb_62_7 : zB 62 7 = [.iload 6, .invokeinterface 58 1, .ireturn] := rfl
theorem zb_63_0 : zB 63 0 = [.iload 5, .istore 7, .iload 2, .istore 8, .goto_w 1] := rfl
theorem zb_63_1 : zB 63 1 = [.iload 8, .aload 1, .getfield 449, .if_icmp .ge 4, .aload 1, .iload 8, .iload 2, .invokeinterface 85 3, .ifCond .eq 3, .aload 0, .aload 1, .iload 8, .iload 3, .iload 4, .iload 7, .iload 6, .invokeinterface 64 7, .istore 9, .iload 9, .invokeinterface 60 1, .ifCond .eq 2, .iload 9, .ireturn] := rfl
theorem zb_63_2 : zB 63 2 = [.iload 9, .invokeinterface 61 1, .istore 7, .goto_w 3] := rfl
theorem zb_63_3 : zB 63 3 = [.iinc 8 1, .goto 1] := rfl
theorem zb_63_4 : zB 63 4 = [.iload 7, .invokeinterface 59 1, .ireturn] := rfl
theorem zb_64_0 : zB 64 0 = [.iload 5, .istore 7, .aload 1, .getfield 451, .iconst 3, .aaload, .iload 2, .iaload, .istore 8, .iconst 0, .istore 9, .goto_w 1] := rfl
theorem zb_64_1 : zB 64 1 = [.iload 9, .iload 8, .if_icmp .ge 4, .iload 7, .iload 4, .if_icmp .lt 2, .aload 0, .aload 1, .getfield 451, .iconst 0, .aaload, .iload 2, .iaload, .iconst 3, .iload 3, .iload 7, .iadd, .iload 4, .invokevirtual 1, .iload 7, .invokeinterface 59 1, .ireturn] := rfl
theorem zb_64_2 : zB 64 2 = [.aload 1, .getfield 451, .iconst 2, .aaload, .iload 2, .iaload, .iload 4, .iload 7, .isub, .invokeinterface 301 2, .istore 10, .aload 0, .aload 1, .iload 2, .iload 3, .iload 7, .iadd, .iload 10, .iload 6, .invokevirtual 0, .istore 11, .iload 7, .iload 11, .invokeinterface 61 1, .iadd, .istore 7, .iload 11, .invokeinterface 60 1, .ifCond .eq 3, .iload 7, .invokeinterface 58 1, .ireturn] := rfl
theorem zb_64_3 : zB 64 3 = [.iinc 9 1, .goto 1] := rfl
theorem zb_64_4 : zB 64 4 = [.iload 7, .invokeinterface 59 1, .ireturn] := rfl
theorem zb_65_0 : zB 65 0 = [.aload 0, .monitorexit, .aload 0, .iconst 0, .putfield 448, .aload 0, .iconst 0, .putfield 449, .aload 0, .iconst 9, .iconst 12, .multianewarray 0 2, .putfield 450, .aload 0, .iconst 6, .iconst 24, .multianewarray 0 2, .putfield 451, .return_] := rfl
theorem zb_66_0 : zB 66 0 = [.aload 0, .aload 1, .getfield 448, .putfield 448, .aload 0, .aload 1, .getfield 449, .putfield 449, .iconst 0, .istore 2, .goto_w 1] := rfl
theorem zb_66_1 : zB 66 1 = [.iload 2, .iconst 8, .if_icmp .gt 2, .aload 1, .getfield 450, .iload 2, .aaload, .iconst 0, .aload 0, .getfield 450, .iload 2, .aaload, .iconst 0, .iconst 12, .pop2, .iinc 2 1, .goto 1] := rfl
theorem zb_66_2 : zB 66 2 = [.iconst 0, .istore 2, .goto_w 3] := rfl
theorem zb_66_3 : zB 66 3 = [.iload 2, .iconst 5, .if_icmp .gt 4, .aload 1, .getfield 451, .iload 2, .aaload, .iconst 0, .aload 0, .getfield 451, .iload 2, .aaload, .iconst 0, .iconst 24, .pop2, .iinc 2 1, .goto 3] := rfl
theorem zb_66_4 : zB 66 4 = [.return_] := rfl
theorem zb_67_0 : zB 67 0 = [.iload 1, .ifCond .lt 1, .iload 1, .aload 0, .getfield 448, .if_icmp .lt 2, .goto_w 1] := rfl
theorem zb_67_1 : zB 67 1 = [.iconst 1, .goto 3] := rfl
theorem zb_67_2 : zB 67 2 = [.iconst 0, .goto_w 3] := rfl
theorem zb_67_3 : zB 67 3 = [.ireturn] := rfl
theorem zb_68_0 : zB 68 0 = [.iload 1, .ifCond .lt 1, .iload 1, .aload 0, .getfield 449, .if_icmp .lt 2, .goto_w 1] := rfl
theorem zb_68_1 : zB 68 1 = [.iconst 1, .goto 3] := rfl
theorem zb_68_2 : zB 68 2 = [.iconst 0, .goto_w 3] := rfl
theorem zb_68_3 : zB 68 3 = [.ireturn] := rfl
theorem zb_69_0 : zB 69 0 = [.iload 1, .aload 0, .getfield 448, .iushr, .ifCond .eq 1, .iconst 2, .goto 2] := rfl
theorem zb_69_1 : zB 69 1 = [.iconst 0, .goto_w 2] := rfl
theorem zb_69_2 : zB 69 2 = [.ireturn] := rfl
theorem zb_70_0 : zB 70 0 = [.iload 1, .getstatic 0, .iconst 0, .iaload, .if_icmp .lt 1, .iload 1, .getstatic 1, .iconst 0, .iaload, .if_icmp .le 2, .goto_w 1] := rfl
theorem zb_70_1 : zB 70 1 = [.iconst 2, .ireturn] := rfl
theorem zb_70_2 : zB 70 2 = [.aload 0, .getfield 448, .iconst 12, .if_icmp .lt 3, .iconst 3, .goto 4] := rfl
theorem zb_70_3 : zB 70 3 = [.iconst 0, .goto_w 4] := rfl
theorem zb_70_4 : zB 70 4 = [.ireturn] := rfl
theorem zb_71_0 : zB 71 0 = [.aload 0, .getfield 448, .istore 2, .iconst 0, .istore 3, .goto_w 1] := rfl
theorem zb_71_1 : zB 71 1 = [.iload 3, .iconst 5, .if_icmp .gt 2, .aload 0, .getfield 450, .iload 3, .aaload, .iload 2, .getstatic 2, .iload 3, .iaload, .iastore, .iinc 3 1, .goto 1] := rfl
theorem zb_71_2 : zB 71 2 = [.aload 0, .getfield 450, .iconst 0, .aaload, .iload 2, .iload 1, .iastore, .aload 0, .getfield 450, .iconst 6, .aaload, .iload 2, .iconst 1, .iastore, .aload 0, .getfield 450, .iconst 7, .aaload, .iload 2, .iconst 0, .iastore, .aload 0, .getfield 450, .iconst 8, .aaload, .iload 2, .iconst (-1), .iastore, .aload 0, .dup, .getfield 448, .iconst 1, .iadd, .putfield 448, .iload 2, .ireturn] := rfl
theorem zb_72_0 : zB 72 0 = [.aload 0, .iload 1, .invokeinterface 67 2, .ifCond .ne 1, .aload 0, .iload 2, .invokeinterface 67 2, .ifCond .eq 2, .goto_w 1] := rfl
theorem zb_72_1 : zB 72 1 = [.iconst 1, .ireturn] := rfl
theorem zb_72_2 : zB 72 2 = [.iload 3, .iconst 1, .iconst 500, .invokeinterface 157 3, .ifCond .ne 3, .iload 4, .iconst 1, .iconst 3, .invokeinterface 157 3, .ifCond .ne 3, .iload 5, .iconst 0, .iconst 2, .invokeinterface 157 3, .ifCond .eq 4, .goto_w 3] := rfl
theorem zb_72_3 : zB 72 3 = [.iconst 2, .ireturn] := rfl
theorem zb_72_4 : zB 72 4 = [.iload 1, .iload 2, .if_icmp .eq 5, .aload 0, .iload 2, .invokeinterface 87 2, .iload 1, .invokeinterface 158 2, .ifCond .eq 6, .goto_w 5] := rfl
theorem zb_72_5 : zB 72 5 = [.iconst 3, .ireturn] := rfl
theorem zb_72_6 : zB 72 6 = [.iload 5, .iconst 2, .if_icmp .ne 7, .aload 0, .iload 1, .invokeinterface 83 2, .iconst (-1), .if_icmp .ne 7, .iconst 3, .ireturn] := rfl
theorem zb_72_7 : zB 72 7 = [.aload 0, .getfield 449, .iconst 24, .if_icmp .lt 8, .iconst 3, .goto 9] := rfl
theorem zb_72_8 : zB 72 8 = [.iconst 0, .goto_w 9] := rfl
theorem zb_72_9 : zB 72 9 = [.ireturn] := rfl
theorem zb_73_0 : zB 73 0 = [.aload 0, .getfield 449, .istore 6, .aload 0, .getfield 451, .iconst 5, .aaload, .iload 6, .iload 5, .iconst 2, .if_icmp .ne 1, .aload 0, .iload 1, .invokeinterface 83 2, .goto 2] := rfl
theorem zb_73_1 : zB 73 1 = [.iconst (-1), .goto_w 2] := rfl
theorem zb_73_2 : zB 73 2 = [.iastore, .aload 0, .getfield 451, .iconst 0, .aaload, .iload 6, .iload 1, .iastore, .aload 0, .getfield 451, .iconst 1, .aaload, .iload 6, .iload 2, .iastore, .aload 0, .getfield 451, .iconst 2, .aaload, .iload 6, .iload 3, .iastore, .aload 0, .getfield 451, .iconst 3, .aaload, .iload 6, .iload 4, .iastore, .aload 0, .getfield 451, .iconst 4, .aaload, .iload 6, .iload 5, .iastore, .aload 0, .dup, .getfield 449, .iconst 1, .iadd, .putfield 449, .iload 6, .ireturn] := rfl
theorem zb_74_0 : zB 74 0 = [.aload 0, .iload 1, .invokeinterface 68 2, .ifCond .eq 1, .iconst 1, .ireturn] := rfl
theorem zb_74_1 : zB 74 1 = [.iconst 0, .istore 2, .goto_w 2] := rfl
theorem zb_74_2 : zB 74 2 = [.iload 2, .aload 0, .getfield 449, .if_icmp .ge 4, .aload 0, .getfield 451, .iconst 5, .aaload, .iload 2, .iaload, .iload 1, .if_icmp .ne 3, .iconst 3, .ireturn] := rfl
theorem zb_74_3 : zB 74 3 = [.iinc 2 1, .goto 2] := rfl
theorem zb_74_4 : zB 74 4 = [.iconst 0, .ireturn] := rfl
theorem zb_75_0 : zB 75 0 = [.aload 0, .dup, .getfield 449, .iconst 1, .isub, .putfield 449, .iconst 0, .istore 2, .goto_w 1] := rfl
theorem zb_75_1 : zB 75 1 = [.iload 2, .iconst 5, .if_icmp .gt 2, .aload 0, .getfield 451, .iload 2, .aaload, .iload 1, .iconst 1, .iadd, .aload 0, .getfield 451, .iload 2, .aaload, .iload 1, .aload 0, .getfield 449, .iload 1, .isub, .pop2, .iinc 2 1, .goto 1] := rfl
theorem zb_75_2 : zB 75 2 = [.iconst 0, .istore 2, .goto_w 3] := rfl
theorem zb_75_3 : zB 75 3 = [.iload 2, .aload 0, .getfield 449, .if_icmp .ge 5, .aload 0, .getfield 451, .iconst 5, .aaload, .iload 2, .iaload, .iload 1, .if_icmp .le 4, .aload 0, .getfield 451, .iconst 5, .aaload, .iload 2, .dup2, .iaload, .iconst 1, .isub, .iastore, .goto_w 4] := rfl
theorem zb_75_4 : zB 75 4 = [.iinc 2 1, .goto 3] := rfl
theorem zb_75_5 : zB 75 5 = [.aload 0, .getfield 449, .ireturn] := rfl
theorem zb_76_0 : zB 76 0 = [.aload 0, .iload 2, .invokeinterface 67 2, .ifCond .eq 1, .iconst 1, .ireturn] := rfl
theorem zb_76_1 : zB 76 1 = [.iload 1, .ifCond .lt 2, .iload 1, .iconst 5, .if_icmp .le 3, .goto_w 2] := rfl
theorem zb_76_2 : zB 76 2 = [.iconst 2, .ireturn] := rfl
theorem zb_76_3 : zB 76 3 = [.iload 3, .getstatic 0, .iload 1, .iaload, .getstatic 1, .iload 1, .iaload, .invokeinterface 157 3, .ireturn] := rfl
theorem zb_77_0 : zB 77 0 = [.aload 0, .getfield 450, .iload 1, .aaload, .iload 2, .iaload, .istore 4, .aload 0, .getfield 450, .iload 1, .aaload, .iload 2, .iload 3, .iastore, .iload 4, .ireturn] := rfl
theorem zb_78_0 : zB 78 0 = [.aload 0, .iload 1, .invokeinterface 68 2, .ifCond .eq 1, .iconst 1, .goto 2] := rfl
theorem zb_78_1 : zB 78 1 = [.iload 2, .iconst 1, .iconst 500, .invokeinterface 157 3, .goto_w 2] := rfl
theorem zb_78_2 : zB 78 2 = [.ireturn] := rfl
theorem zb_79_0 : zB 79 0 = [.aload 0, .getfield 451, .iconst 2, .aaload, .iload 1, .iaload, .istore 3, .aload 0, .getfield 451, .iconst 2, .aaload, .iload 1, .iload 2, .iastore, .iload 3, .ireturn] := rfl
theorem zb_80_0 : zB 80 0 = [.iload 2, .iconst 8, .if_icmp .gt 1, .aload 0, .getfield 450, .iload 2, .aaload, .iload 1, .iaload, .ireturn] := rfl
theorem zb_80_1 : zB 80 1 = [.iload 2, .iconst 9, .if_icmp .ne 2, .aload 0, .iload 1, .invokeinterface 81 2, .goto 3] := rfl
theorem zb_80_2 : zB 80 2 = [.aload 0, .iload 1, .invokeinterface 82 2, .goto_w 3] := rfl
theorem zb_80_3 : zB 80 3 = [.ireturn] := rfl
theorem zb_81_0 : zB 81 0 = [.aload 0, .getfield 450, .iconst 0, .aaload, .iload 1, .iaload, .aload 0, .getfield 450, .iconst 1, .aaload, .iload 1, .iaload, .imul, .iconst 99, .iadd, .iconst 100, .idiv, .ireturn] := rfl
theorem zb_82_0 : zB 82 0 = [.iconst 0, .istore 2, .iconst 0, .istore 3, .goto_w 1] := rfl
theorem zb_82_1 : zB 82 1 = [.iload 3, .aload 0, .getfield 449, .if_icmp .ge 3, .aload 0, .getfield 451, .iconst 0, .aaload, .iload 3, .iaload, .iload 1, .if_icmp .ne 2, .iinc 2 1, .goto_w 2] := rfl
theorem zb_82_2 : zB 82 2 = [.iinc 3 1, .goto 1] := rfl
theorem zb_82_3 : zB 82 3 = [.iload 2, .ireturn] := rfl
theorem zb_83_0 : zB 83 0 = [.aload 0, .getfield 449, .iconst 1, .isub, .istore 2, .goto_w 1] := rfl
theorem zb_83_1 : zB 83 1 = [.iload 2, .ifCond .lt 3, .aload 0, .iload 2, .iload 1, .invokeinterface 84 3, .ifCond .eq 2, .iload 2, .ireturn] := rfl
theorem zb_83_2 : zB 83 2 = [.iinc 2 (-1), .goto 1] := rfl
theorem zb_83_3 : zB 83 3 = [.iconst (-1), .ireturn] := rfl
theorem zb_84_0 : zB 84 0 = [.aload 0, .getfield 451, .iconst 0, .aaload, .iload 1, .iaload, .iload 2, .if_icmp .ne 1, .aload 0, .getfield 451, .iconst 4, .aaload, .iload 1, .iaload, .iconst 2, .if_icmp .eq 1, .iconst 1, .goto 2] := rfl
theorem zb_84_1 : zB 84 1 = [.iconst 0, .goto_w 2] := rfl
theorem zb_84_2 : zB 84 2 = [.ireturn] := rfl
theorem zb_85_0 : zB 85 0 = [.iload 1, .iload 2, .if_icmp .eq 1, .aload 0, .getfield 451, .iconst 5, .aaload, .iload 1, .iaload, .iload 2, .if_icmp .ne 2, .goto_w 1] := rfl
theorem zb_85_1 : zB 85 1 = [.iconst 1, .goto 3] := rfl
theorem zb_85_2 : zB 85 2 = [.iconst 0, .goto_w 3] := rfl
theorem zb_85_3 : zB 85 3 = [.ireturn] := rfl
theorem zb_86_0 : zB 86 0 = [.aload 0, .getfield 451, .iconst 4, .aaload, .iload 1, .iaload, .ifCond .ne 1, .iconst 1, .goto 2] := rfl
theorem zb_86_1 : zB 86 1 = [.iconst 0, .goto_w 2] := rfl
theorem zb_86_2 : zB 86 2 = [.ireturn] := rfl
theorem zb_87_0 : zB 87 0 = [.iconst 1, .iload 1, .ishl, .istore 2, .iconst 0, .istore 3, .iconst 0, .istore 4, .goto_w 1] := rfl
theorem zb_87_1 : zB 87 1 = [.iload 4, .aload 0, .getfield 448, .if_icmp .ge 3, .aload 0, .iload 2, .invokeinterface 88 2, .istore 5, .iload 5, .iload 3, .iconst (-1), .ixor, .iand, .ifCond .ne 2, .iload 3, .ireturn] := rfl
theorem zb_87_2 : zB 87 2 = [.iload 3, .iload 5, .ior, .istore 3, .iload 2, .iload 5, .ior, .istore 2, .iinc 4 1, .goto 1] := rfl
theorem zb_87_3 : zB 87 3 = [.iload 3, .ireturn] := rfl
theorem zb_88_0 : zB 88 0 = [.iconst 0, .istore 2, .iconst 0, .istore 3, .goto_w 1] := rfl
theorem zb_88_1 : zB 88 1 = [.iload 3, .aload 0, .getfield 449, .if_icmp .ge 3, .iload 1, .aload 0, .getfield 451, .iconst 0, .aaload, .iload 3, .iaload, .invokeinterface 158 2, .ifCond .eq 2, .iload 2, .iconst 1, .aload 0, .getfield 451, .iconst 1, .aaload, .iload 3, .iaload, .ishl, .ior, .istore 2, .goto_w 2] := rfl
theorem zb_88_2 : zB 88 2 = [.iinc 3 1, .goto 1] := rfl
theorem zb_88_3 : zB 88 3 = [.iload 2, .ireturn] := rfl
theorem zb_89_0 : zB 89 0 = [.iconst 0, .istore 3, .goto_w 1] := rfl
theorem zb_89_1 : zB 89 1 = [.iload 3, .aload 0, .getfield 449, .if_icmp .ge 3, .aload 0, .iload 3, .iload 1, .invokeinterface 84 3, .ifCond .eq 2, .aload 0, .iload 3, .invokeinterface 86 2, .ifCond .eq 2, .aload 0, .iload 3, .iload 2, .invokeinterface 90 3, .ifCond .eq 2, .iconst 1, .ireturn] := rfl
theorem zb_89_2 : zB 89 2 = [.iinc 3 1, .goto 1] := rfl
theorem zb_89_3 : zB 89 3 = [.iconst 0, .ireturn] := rfl
theorem zb_90_0 : zB 90 0 = [.iload 1, .istore 3, .goto_w 1] := rfl
theorem zb_90_1 : zB 90 1 = [.iload 3, .aload 0, .getfield 449, .if_icmp .ge 3, .aload 0, .iload 3, .iload 1, .invokeinterface 85 3, .ifCond .eq 2, .iload 2, .aload 0, .getfield 451, .iconst 1, .aaload, .iload 3, .iaload, .invokeinterface 158 2, .ifCond .ne 2, .iconst 0, .ireturn] := rfl
theorem zb_90_2 : zB 90 2 = [.iinc 3 1, .goto 1] := rfl
theorem zb_90_3 : zB 90 3 = [.iconst 1, .ireturn] := rfl
theorem zb_91_0 : zB 91 0 = [.aload 0, .getfield 450, .iconst 6, .aaload, .iload 1, .iaload, .iconst 1, .if_icmp .ne 1, .iconst 1, .goto 2] := rfl
theorem zb_91_1 : zB 91 1 = [.iconst 0, .goto_w 2] := rfl
theorem zb_91_2 : zB 91 2 = [.ireturn] := rfl
theorem zb_92_0 : zB 92 0 = [.iconst 0, .istore 1, .iconst 0, .istore 2, .goto_w 1] := rfl
theorem zb_92_1 : zB 92 1 = [.iload 2, .aload 0, .getfield 448, .if_icmp .ge 3, .aload 0, .iload 2, .invokeinterface 91 2, .ifCond .ne 2, .iload 1, .iconst 1, .iload 2, .ishl, .ior, .istore 1, .goto_w 2] := rfl
theorem zb_92_2 : zB 92 2 = [.iinc 2 1, .goto 1] := rfl
theorem zb_92_3 : zB 92 3 = [.iload 1, .ireturn] := rfl
theorem zb_93_0 : zB 93 0 = [.aload 0, .getfield 448, .aload 0, .invokeinterface 92 1, .invokeinterface 302 1, .isub, .ireturn] := rfl
theorem zb_94_0 : zB 94 0 = [.aload 0, .iload 1, .invokeinterface 67 2, .ifCond .eq 1, .iconst 1, .ireturn] := rfl
theorem zb_94_1 : zB 94 1 = [.aload 0, .iload 1, .invokeinterface 91 2, .ifCond .eq 2, .iconst 0, .goto 3] := rfl
theorem zb_94_2 : zB 94 2 = [.iconst 3, .goto_w 3] := rfl
theorem zb_94_3 : zB 94 3 = [.ireturn] := rfl
theorem zb_95_0 : zB 95 0 = [.aload 0, .getfield 450, .iconst 6, .aaload, .iload 1, .iconst 0, .iastore, .aload 0, .getfield 450, .iconst 7, .aaload, .iload 1, .iconst 0, .iastore, .aload 0, .getfield 450, .iconst 8, .aaload, .iload 1, .iconst (-1), .iastore, .return_] := rfl
theorem zb_96_0 : zB 96 0 = [.aload 0, .iload 1, .invokeinterface 67 2, .ifCond .eq 1, .iconst 1, .ireturn] := rfl
theorem zb_96_1 : zB 96 1 = [.aload 0, .iload 1, .invokeinterface 91 2, .ifCond .ne 2, .aload 0, .getfield 450, .iconst 8, .aaload, .iload 1, .iaload, .iconst (-1), .if_icmp .eq 3, .goto_w 2] := rfl
theorem zb_96_2 : zB 96 2 = [.iconst 3, .goto 4] := rfl
theorem zb_96_3 : zB 96 3 = [.iconst 0, .goto_w 4] := rfl
theorem zb_96_4 : zB 96 4 = [.ireturn] := rfl
theorem zb_97_0 : zB 97 0 = [.aload 0, .getfield 450, .iconst 8, .aaload, .iload 1, .aload 0, .getfield 450, .iconst 3, .aaload, .iload 1, .iaload, .iastore, .aload 0, .getfield 450, .iconst 8, .aaload, .iload 1, .iaload, .ireturn] := rfl
theorem zb_98_0 : zB 98 0 = [.iconst 0, .istore 2, .goto_w 1] := rfl
theorem zb_98_1 : zB 98 1 = [.iload 2, .iload 1, .if_icmp .ge 2, .aload 0, .invokeinterface 99 1, .pop, .iinc 2 1, .goto 1] := rfl
theorem zb_98_2 : zB 98 2 = [.return_] := rfl
theorem zb_99_0 : zB 99 0 = [.aload 0, .invokeinterface 92 1, .istore 1, .iconst 0, .istore 2, .iconst 0, .istore 3, .goto_w 1] := rfl
theorem zb_99_1 : zB 99 1 = [.iload 3, .aload 0, .getfield 448, .if_icmp .ge 4, .aload 0, .iload 3, .iload 1, .invokeinterface 89 3, .istore 4, .iload 1, .iload 3, .invokeinterface 158 2, .ifCond .eq 2, .aload 0, .iload 3, .iload 4, .invokeinterface 100 3, .goto 3] := rfl
theorem zb_99_2 : zB 99 2 = [.aload 0, .iload 3, .iload 4, .invokeinterface 101 3, .aload 0, .getfield 450, .iconst 7, .aaload, .iload 3, .iaload, .aload 0, .getfield 450, .iconst 2, .aaload, .iload 3, .iaload, .if_icmp .lt 3, .aload 0, .iload 3, .invokeinterface 95 2, .iload 2, .iconst 1, .iload 3, .ishl, .ior, .istore 2, .goto_w 3] := rfl
theorem zb_99_3 : zB 99 3 = [.iinc 3 1, .goto 1] := rfl
theorem zb_99_4 : zB 99 4 = [.iload 2, .ireturn] := rfl
theorem zb_100_0 : zB 100 0 = [.aload 0, .getfield 450, .iconst 8, .aaload, .iload 1, .iaload, .istore 3, .iload 3, .iconst (-1), .if_icmp .ne 1, .return_] := rfl
theorem zb_100_1 : zB 100 1 = [.iload 3, .ifCond .le 2, .iinc 3 (-1), .goto_w 2] := rfl
theorem zb_100_2 : zB 100 2 = [.aload 0, .getfield 450, .iconst 8, .aaload, .iload 1, .iload 3, .iastore, .iload 3, .ifCond .ne 3, .iload 2, .ifCond .ne 3, .aload 0, .getfield 450, .iconst 6, .aaload, .iload 1, .iconst 1, .iastore, .aload 0, .getfield 450, .iconst 7, .aaload, .iload 1, .iconst 0, .iastore, .aload 0, .getfield 450, .iconst 8, .aaload, .iload 1, .iconst (-1), .iastore, .goto_w 3] := rfl
theorem zb_100_3 : zB 100 3 = [.return_] := rfl
theorem zb_101_0 : zB 101 0 = [.iload 2, .ifCond .eq 1, .aload 0, .getfield 450, .iconst 7, .aaload, .iload 1, .dup2, .iaload, .iconst 1, .iadd, .iastore, .goto 2] := rfl
theorem zb_101_1 : zB 101 1 = [.aload 0, .getfield 450, .iconst 7, .aaload, .iload 1, .iaload, .ifCond .le 2, .aload 0, .getfield 450, .iconst 7, .aaload, .iload 1, .dup2, .iaload, .iconst 1, .isub, .iastore, .goto_w 2] := rfl
theorem zb_101_2 : zB 101 2 = [.return_] := rfl
theorem zb_102_0 : zB 102 0 = [.aload 0, .monitorexit, .aload 0, .iconst 120, .newarray .int, .putfield 512, .aload 0, .iconst 0, .putfield 513, .aload 0, .iconst 40, .newarray .int, .putfield 514, .aload 0, .iconst 5, .iconst 40, .multianewarray 0 2, .putfield 515, .return_] := rfl
theorem zb_103_0 : zB 103 0 = [.aload 0, .getfield 513, .iconst 120, .if_icmp .lt 1, .iconst 3, .goto 2] := rfl
theorem zb_103_1 : zB 103 1 = [.iconst 0, .goto_w 2] := rfl
theorem zb_103_2 : zB 103 2 = [.ireturn] := rfl
theorem zb_104_0 : zB 104 0 = [.aload 0, .getfield 512, .aload 0, .getfield 513, .iload 1, .iastore, .aload 0, .dup, .getfield 513, .iconst 1, .iadd, .putfield 513, .aload 0, .getfield 513, .ireturn] := rfl
theorem zb_105_0 : zB 105 0 = [.aload 0, .getfield 513, .istore 1, .aload 0, .iconst 0, .putfield 513, .iload 1, .ireturn] := rfl
theorem zb_106_0 : zB 106 0 = [.iconst 0, .istore 1, .iconst 0, .istore 2, .goto_w 1] := rfl
theorem zb_106_1 : zB 106 1 = [.iload 2, .aload 0, .getfield 513, .if_icmp .ge 3, .iload 1, .iconst 40, .if_icmp .ge 3, .aload 0, .iload 2, .iload 1, .invokeinterface 109 3, .istore 2, .iload 2, .ifCond .ge 2, .iconst (-10), .iload 2, .invokeinterface 108 1, .isub, .ireturn] := rfl
theorem zb_106_2 : zB 106 2 = [.iinc 1 1, .goto 1] := rfl
theorem zb_106_3 : zB 106 3 = [.iload 1, .ireturn] := rfl
theorem zb_107_0 : zB 107 0 = [.iconst (-1), .iload 0, .isub, .ireturn] := rfl
theorem zb_108_0 : zB 108 0 = [.iconst (-1), .iload 0, .isub, .ireturn] := rfl
theorem zb_109_0 : zB 109 0 = [.aload 0, .getfield 512, .iload 1, .iaload, .invokeinterface 110 1, .istore 3, .iload 3, .ifCond .ne 1, .iload 1, .invokeinterface 107 1, .ireturn] := rfl
theorem zb_109_1 : zB 109 1 = [.aload 0, .getfield 514, .iload 2, .aload 0, .getfield 512, .iload 1, .iaload, .iastore, .iload 1, .iconst 1, .iadd, .istore 4, .iconst 0, .istore 5, .goto_w 2] := rfl
theorem zb_109_2 : zB 109 2 = [.iload 5, .iload 3, .if_icmp .ge 7, .aload 0, .iload 4, .invokeinterface 111 2, .istore 6, .iload 6, .iload 4, .if_icmp .eq 5, .iload 6, .aload 0, .getfield 513, .if_icmp .ge 5, .aload 0, .getfield 512, .iload 6, .iaload, .iload 5, .iconst 1, .iadd, .iload 3, .if_icmp .ge 3, .iconst 44, .goto 4] := rfl
theorem zb_109_3 : zB 109 3 = [.iconst 59, .goto_w 4] := rfl
theorem zb_109_4 : zB 109 4 = [.if_icmp .eq 6, .goto_w 5] := rfl
theorem zb_109_5 : zB 109 5 = [.iload 6, .invokeinterface 107 1, .ireturn] := rfl
theorem zb_109_6 : zB 109 6 = [.aload 0, .getfield 515, .iload 5, .aaload, .iload 2, .aload 0, .iload 4, .iload 6, .invokeinterface 112 3, .iastore, .iload 6, .iconst 1, .iadd, .istore 4, .iinc 5 1, .goto 2] := rfl
theorem zb_109_7 : zB 109 7 = [.iload 4, .ireturn] := rfl
theorem zb_110_0 : zB 110 0 = [.iload 0, .lookupswitch 4 #[(97, 1), (98, 4), (99, 3), (100, 1), (101, 4), (102, 4), (103, 4), (104, 4), (105, 4), (106, 4), (107, 4), (108, 4), (109, 4), (110, 4), (111, 4), (112, 2), (113, 4), (114, 1), (115, 1)]] := rfl
theorem zb_110_1 : zB 110 1 = [.iconst 1, .ireturn] := rfl
theorem zb_110_2 : zB 110 2 = [.iconst 3, .ireturn] := rfl
theorem zb_110_3 : zB 110 3 = [.iconst 5, .ireturn] := rfl
theorem zb_110_4 : zB 110 4 = [.iconst 0, .ireturn] := rfl
theorem zb_111_0 : zB 111 0 = [.iload 1, .istore 2, .goto_w 1] := rfl
theorem zb_111_1 : zB 111 1 = [.iload 2, .aload 0, .getfield 513, .if_icmp .ge 2, .iload 2, .iload 1, .iconst 3, .iadd, .if_icmp .ge 2, .aload 0, .getfield 512, .iload 2, .iaload, .iconst 48, .if_icmp .lt 2, .aload 0, .getfield 512, .iload 2, .iaload, .iconst 57, .if_icmp .gt 2, .iinc 2 1, .goto 1] := rfl
theorem zb_111_2 : zB 111 2 = [.iload 2, .ireturn] := rfl
theorem zb_112_0 : zB 112 0 = [.iconst 0, .istore 3, .iload 1, .istore 4, .goto_w 1] := rfl
theorem zb_112_1 : zB 112 1 = [.iload 4, .iload 2, .if_icmp .ge 2, .iconst 10, .iload 3, .imul, .aload 0, .getfield 512, .iload 4, .iaload, .iadd, .iconst 48, .isub, .istore 3, .iinc 4 1, .goto 1] := rfl
theorem zb_112_2 : zB 112 2 = [.iload 3, .ireturn] := rfl
theorem zb_113_0 : zB 113 0 = [.aload 0, .getfield 515, .iconst 0, .aaload, .iload 2, .iaload, .istore 3, .aload 0, .getfield 515, .iconst 1, .aaload, .iload 2, .iaload, .istore 4, .aload 0, .getfield 515, .iconst 2, .aaload, .iload 2, .iaload, .istore 5, .aload 0, .getfield 514, .iload 2, .iaload, .lookupswitch 6 #[(97, 1), (99, 2), (100, 3), (114, 4), (115, 5)]] := rfl
theorem zb_113_1 : zB 113 1 = [.aload 1, .iload 3, .invokeinterface 70 2, .ireturn] := rfl
theorem zb_113_2 : zB 113 2 = [.aload 1, .iload 3, .iload 4, .iload 5, .aload 0, .getfield 515, .iconst 3, .aaload, .iload 2, .iaload, .aload 0, .getfield 515, .iconst 4, .aaload, .iload 2, .iaload, .invokeinterface 72 6, .ireturn] := rfl
theorem zb_113_3 : zB 113 3 = [.aload 1, .iload 3, .invokeinterface 94 2, .ireturn] := rfl
theorem zb_113_4 : zB 113 4 = [.aload 1, .iload 3, .invokeinterface 96 2, .ireturn] := rfl
theorem zb_113_5 : zB 113 5 = [.iload 3, .iconst 1, .iconst 50, .invokeinterface 157 3, .ireturn] := rfl
theorem zb_113_6 : zB 113 6 = [.aload 1, .iload 3, .iload 4, .iload 5, .invokeinterface 76 4, .ireturn] := rfl
theorem zb_114_0 : zB 114 0 = [.aload 0, .getfield 515, .iconst 0, .aaload, .iload 2, .iaload, .istore 3, .aload 0, .getfield 515, .iconst 1, .aaload, .iload 2, .iaload, .istore 4, .aload 0, .getfield 515, .iconst 2, .aaload, .iload 2, .iaload, .istore 5, .aload 0, .getfield 514, .iload 2, .iaload, .lookupswitch 6 #[(97, 1), (99, 2), (100, 3), (114, 4), (115, 5)]] := rfl
theorem zb_114_1 : zB 114 1 = [.aload 1, .iload 3, .invokeinterface 71 2, .pop, .goto 7] := rfl
theorem zb_114_2 : zB 114 2 = [.aload 1, .iload 3, .iload 4, .iload 5, .aload 0, .getfield 515, .iconst 3, .aaload, .iload 2, .iaload, .aload 0, .getfield 515, .iconst 4, .aaload, .iload 2, .iaload, .invokeinterface 73 6, .pop, .goto 7] := rfl
theorem zb_114_3 : zB 114 3 = [.aload 1, .iload 3, .invokeinterface 95 2, .goto 7] := rfl
theorem zb_114_4 : zB 114 4 = [.aload 1, .iload 3, .invokeinterface 97 2, .pop, .goto 7] := rfl
theorem zb_114_5 : zB 114 5 = [.aload 1, .iload 3, .invokeinterface 98 2, .goto 7] := rfl
theorem zb_114_6 : zB 114 6 = [.aload 1, .iload 3, .iload 4, .iload 5, .invokeinterface 77 4, .pop, .goto_w 7] := rfl
theorem zb_114_7 : zB 114 7 = [.return_] := rfl
theorem zb_115_0 : zB 115 0 = [.aload 0, .monitorexit, .aload 0, .new 7, .dup, .invokeinterface 65 1, .putfield 576, .aload 0, .new 7, .dup, .invokeinterface 65 1, .putfield 577, .aload 0, .new 3, .dup, .invokeinterface 31 1, .putfield 578, .aload 0, .new 2, .dup, .invokeinterface 17 1, .putfield 579, .aload 0, .new 5, .dup, .invokeinterface 46 1, .putfield 580, .aload 0, .new 0, .dup, .invokeinterface 0 1, .putfield 581, .aload 0, .new 4, .dup, .invokeinterface 36 1, .putfield 582, .aload 0, .new 1, .dup, .invokeinterface 6 1, .putfield 583, .aload 0, .new 8, .dup, .invokeinterface 102 1, .putfield 584, .return_] := rfl
theorem zb_116_0 : zB 116 0 = [.aload 0, .getfield 576, .iload 1, .invokeinterface 70 2, .invokeinterface 156 1, .aload 0, .getfield 578, .aload 0, .getfield 576, .invokeinterface 32 2, .aload 0, .getfield 576, .iload 1, .invokeinterface 71 2, .ireturn] := rfl
theorem zb_117_0 : zB 117 0 = [.aload 0, .getfield 576, .iload 1, .iload 2, .iload 3, .iload 4, .iload 5, .invokeinterface 72 6, .invokeinterface 156 1, .aload 0, .getfield 578, .aload 0, .getfield 576, .invokeinterface 32 2, .aload 0, .getfield 576, .iload 1, .iload 2, .iload 3, .iload 4, .iload 5, .invokeinterface 73 6, .ireturn] := rfl
theorem zb_118_0 : zB 118 0 = [.aload 0, .getfield 576, .iload 1, .invokeinterface 74 2, .invokeinterface 156 1, .aload 0, .getfield 578, .aload 0, .getfield 576, .invokeinterface 32 2, .aload 0, .getfield 576, .iload 1, .invokeinterface 75 2, .ireturn] := rfl
theorem zb_119_0 : zB 119 0 = [.aload 0, .getfield 576, .iload 1, .iload 2, .iload 3, .invokeinterface 76 4, .invokeinterface 156 1, .aload 0, .getfield 578, .aload 0, .getfield 576, .invokeinterface 32 2, .aload 0, .getfield 576, .iload 1, .iload 2, .iload 3, .invokeinterface 77 4, .ireturn] := rfl
theorem zb_120_0 : zB 120 0 = [.aload 0, .getfield 576, .iload 1, .iload 2, .invokeinterface 78 3, .invokeinterface 156 1, .aload 0, .getfield 578, .aload 0, .getfield 576, .invokeinterface 32 2, .aload 0, .getfield 576, .iload 1, .iload 2, .invokeinterface 79 3, .ireturn] := rfl
theorem zb_121_0 : zB 121 0 = [.aload 0, .getfield 576, .getfield 448, .ireturn] := rfl
theorem zb_122_0 : zB 122 0 = [.aload 0, .getfield 576, .getfield 449, .ireturn] := rfl
theorem zb_123_0 : zB 123 0 = [.aload 0, .getfield 576, .iload 1, .invokeinterface 67 2, .invokeinterface 156 1, .iload 2, .iconst 0, .iconst 10, .invokeinterface 157 3, .invokeinterface 156 1, .aload 0, .getfield 576, .iload 1, .iload 2, .invokeinterface 80 3, .ireturn] := rfl
theorem zb_124_0 : zB 124 0 = [.aload 0, .getfield 576, .iload 1, .invokeinterface 68 2, .invokeinterface 156 1, .iload 2, .iconst 0, .iconst 5, .invokeinterface 157 3, .invokeinterface 156 1, .aload 0, .getfield 576, .getfield 451, .iload 2, .aaload, .iload 1, .iaload, .ireturn] := rfl
theorem zb_125_0 : zB 125 0 = [.aload 0, .getfield 576, .iload 1, .invokeinterface 67 2, .invokeinterface 156 1, .aload 0, .getfield 576, .iload 2, .invokeinterface 67 2, .invokeinterface 156 1, .aload 0, .getfield 576, .iload 1, .invokeinterface 87 2, .iload 2, .invokeinterface 158 2, .ireturn] := rfl
theorem zb_126_0 : zB 126 0 = [.aload 0, .getfield 579, .aload 0, .getfield 576, .invokeinterface 18 2, .aload 0, .getfield 579, .iload 1, .invokeinterface 21 2, .ireturn] := rfl
theorem zb_127_0 : zB 127 0 = [.aload 0, .getfield 576, .iload 1, .invokeinterface 67 2, .invokeinterface 156 1, .aload 0, .getfield 579, .aload 0, .getfield 576, .invokeinterface 23 2, .aload 0, .getfield 579, .getfield 131, .iload 1, .iaload, .ireturn] := rfl
theorem zb_128_0 : zB 128 0 = [.aload 0, .getfield 576, .iload 1, .invokeinterface 67 2, .invokeinterface 156 1, .iload 2, .iconst 0, .iconst 1000, .invokeinterface 157 3, .invokeinterface 156 1, .aload 0, .getfield 580, .aload 0, .getfield 576, .iload 1, .iload 2, .invokeinterface 47 4, .ireturn] := rfl
theorem zb_129_0 : zB 129 0 = [.iload 1, .iconst 0, .iconst 5, .invokeinterface 157 3, .invokeinterface 156 1, .aload 0, .getfield 580, .invokeinterface 52 1, .invokeinterface 156 1, .aload 0, .getfield 580, .iload 1, .invokeinterface 53 2, .ireturn] := rfl
theorem zb_130_0 : zB 130 0 = [.iload 2, .iconst 0, .iconst 3, .invokeinterface 157 3, .invokeinterface 156 1, .aload 0, .getfield 580, .iload 1, .iload 2, .invokeinterface 55 3, .ireturn] := rfl
theorem zb_131_0 : zB 131 0 = [.iload 2, .iconst 0, .iconst 3, .invokeinterface 157 3, .invokeinterface 156 1, .aload 0, .getfield 580, .iload 1, .iload 2, .invokeinterface 56 3, .ireturn] := rfl
theorem zb_132_0 : zB 132 0 = [.aload 0, .getfield 576, .iload 1, .invokeinterface 67 2, .invokeinterface 156 1, .aload 0, .getfield 581, .aload 0, .getfield 576, .iload 1, .invokeinterface 1 3, .ireturn] := rfl
theorem zb_133_0 : zB 133 0 = [.aload 0, .getfield 576, .iload 1, .invokeinterface 67 2, .invokeinterface 156 1, .aload 0, .getfield 579, .aload 0, .getfield 576, .invokeinterface 25 2, .aload 0, .getfield 579, .getfield 132, .iload 1, .iaload, .ireturn] := rfl
theorem zb_134_0 : zB 134 0 = [.aload 0, .getfield 579, .aload 0, .getfield 576, .invokeinterface 25 2, .aload 0, .getfield 579, .aload 0, .getfield 576, .invokeinterface 27 2, .ireturn] := rfl
theorem zb_135_0 : zB 135 0 = [.aload 0, .getfield 578, .aload 0, .getfield 576, .invokeinterface 32 2, .aload 0, .getfield 579, .aload 0, .getfield 576, .invokeinterface 28 2, .ireturn] := rfl
theorem zb_136_0 : zB 136 0 = [.aload 0, .getfield 576, .iload 1, .invokeinterface 94 2, .invokeinterface 156 1, .aload 0, .getfield 578, .aload 0, .getfield 576, .invokeinterface 32 2, .aload 0, .getfield 576, .iload 1, .invokeinterface 95 2, .aload 0, .getfield 576, .invokeinterface 93 1, .ireturn] := rfl
theorem zb_137_0 : zB 137 0 = [.aload 0, .getfield 576, .iload 1, .invokeinterface 96 2, .invokeinterface 156 1, .aload 0, .getfield 578, .aload 0, .getfield 576, .invokeinterface 32 2, .aload 0, .getfield 576, .iload 1, .invokeinterface 97 2, .ireturn] := rfl
theorem zb_138_0 : zB 138 0 = [.iload 1, .iconst 1, .iconst 50, .invokeinterface 157 3, .invokeinterface 156 1, .aload 0, .getfield 578, .aload 0, .getfield 576, .invokeinterface 32 2, .aload 0, .getfield 576, .iload 1, .invokeinterface 98 2, .aload 0, .getfield 576, .invokeinterface 93 1, .ireturn] := rfl
theorem zb_139_0 : zB 139 0 = [.aload 0, .getfield 576, .invokeinterface 92 1, .ireturn] := rfl
theorem zb_140_0 : zB 140 0 = [.aload 0, .getfield 576, .iload 1, .invokeinterface 94 2, .invokeinterface 156 1, .aload 0, .getfield 577, .aload 0, .getfield 576, .invokeinterface 66 2, .aload 0, .getfield 577, .iload 1, .invokeinterface 95 2, .aload 0, .getfield 577, .iconst 40, .invokeinterface 98 2, .aload 0, .getfield 577, .invokeinterface 92 1, .ireturn] := rfl
theorem zb_141_0 : zB 141 0 = [.aload 0, .getfield 576, .iload 1, .invokeinterface 94 2, .invokeinterface 156 1, .aload 0, .getfield 577, .aload 0, .getfield 576, .invokeinterface 66 2, .aload 0, .getfield 577, .iload 1, .invokeinterface 95 2, .iconst 1, .istore 2, .goto_w 1] := rfl
theorem zb_141_1 : zB 141 1 = [.iload 2, .iconst 40, .if_icmp .gt 3, .aload 0, .getfield 577, .invokeinterface 99 1, .ifCond .eq 2, .iload 2, .ireturn] := rfl
theorem zb_141_2 : zB 141 2 = [.iinc 2 1, .goto 1] := rfl
theorem zb_141_3 : zB 141 3 = [.iconst (-1), .ireturn] := rfl
theorem zb_142_0 : zB 142 0 = [.iload 1, .iconst 1, .iconst 4, .invokeinterface 157 3, .invokeinterface 156 1, .aload 0, .getfield 582, .aload 0, .getfield 576, .iload 1, .invokeinterface 38 3, .ireturn] := rfl
theorem zb_143_0 : zB 143 0 = [.iload 1, .iconst 1, .iconst 4, .invokeinterface 157 3, .invokeinterface 156 1, .aload 0, .getfield 576, .iload 2, .invokeinterface 67 2, .invokeinterface 156 1, .aload 0, .getfield 576, .iload 2, .invokeinterface 91 2, .ifCond .eq 1, .iconst (-1), .ireturn] := rfl
theorem zb_143_1 : zB 143 1 = [.aload 0, .getfield 582, .aload 0, .getfield 576, .iload 1, .invokeinterface 38 3, .pop, .aload 0, .getfield 582, .getfield 257, .iload 2, .iaload, .ireturn] := rfl
theorem zb_144_0 : zB 144 0 = [.aload 0, .getfield 582, .aload 0, .getfield 576, .invokeinterface 42 2, .ireturn] := rfl
theorem zb_145_0 : zB 145 0 = [.aload 0, .getfield 582, .aload 0, .getfield 576, .iload 1, .invokeinterface 45 3, .ireturn] := rfl
theorem zb_146_0 : zB 146 0 = [.aload 0, .getfield 576, .iload 1, .invokeinterface 67 2, .invokeinterface 156 1, .aload 0, .getfield 576, .iload 2, .invokeinterface 69 2, .invokeinterface 156 1, .aload 0, .getfield 579, .aload 0, .getfield 576, .invokeinterface 18 2, .aload 0, .getfield 579, .aload 0, .getfield 576, .iload 2, .invokeinterface 30 3, .iload 1, .invokeinterface 158 2, .ireturn] := rfl
theorem zb_147_0 : zB 147 0 = [.aload 0, .getfield 576, .iload 1, .invokeinterface 67 2, .invokeinterface 156 1, .iload 2, .iconst 1, .iconst 12, .invokeinterface 157 3, .invokeinterface 156 1, .aload 0, .getfield 579, .aload 0, .getfield 576, .invokeinterface 18 2, .aload 0, .getfield 583, .aload 0, .getfield 576, .aload 0, .getfield 579, .invokeinterface 7 3, .aload 0, .getfield 583, .aload 0, .getfield 576, .iload 1, .iload 2, .invokeinterface 12 4, .ireturn] := rfl
theorem zb_148_0 : zB 148 0 = [.aload 0, .getfield 576, .iload 1, .invokeinterface 67 2, .invokeinterface 156 1, .iload 2, .iconst 1, .iconst 12, .invokeinterface 157 3, .invokeinterface 156 1, .aload 0, .getfield 579, .aload 0, .getfield 576, .invokeinterface 18 2, .aload 0, .getfield 583, .aload 0, .getfield 576, .aload 0, .getfield 579, .invokeinterface 7 3, .aload 0, .getfield 583, .aload 0, .getfield 576, .iload 1, .iload 2, .iload 3, .invokeinterface 13 5, .ireturn] := rfl
theorem zb_149_0 : zB 149 0 = [.aload 0, .getfield 576, .iload 1, .invokeinterface 67 2, .invokeinterface 156 1, .aload 0, .getfield 579, .aload 0, .getfield 576, .invokeinterface 18 2, .aload 0, .getfield 583, .aload 0, .getfield 576, .aload 0, .getfield 579, .invokeinterface 7 3, .aload 0, .getfield 583, .aload 0, .getfield 576, .iload 1, .iconst (-1), .invokeinterface 14 4, .d2f, .invokeinterface 159 1, .ireturn] := rfl
theorem zb_150_0 : zB 150 0 = [.aload 0, .getfield 576, .iload 1, .invokeinterface 67 2, .invokeinterface 156 1, .aload 0, .getfield 579, .aload 0, .getfield 576, .invokeinterface 18 2, .aload 0, .getfield 583, .aload 0, .getfield 576, .aload 0, .getfield 579, .invokeinterface 7 3, .aload 0, .getfield 583, .aload 0, .getfield 576, .iload 1, .invokeinterface 16 3, .ireturn] := rfl
theorem zb_151_0 : zB 151 0 = [.iload 1, .iconst 0, .iconst 127, .invokeinterface 157 3, .invokeinterface 156 1, .aload 0, .getfield 584, .invokeinterface 103 1, .invokeinterface 156 1, .aload 0, .getfield 584, .iload 1, .invokeinterface 104 2, .ireturn] := rfl
theorem zb_152_0 : zB 152 0 = [.aload 0, .getfield 584, .invokeinterface 105 1, .ireturn] := rfl
theorem zb_153_0 : zB 153 0 = [.aload 0, .getfield 584, .invokeinterface 106 1, .istore 1, .iload 1, .ifCond .ge 1, .iload 1, .ireturn] := rfl
theorem zb_153_1 : zB 153 1 = [.aload 0, .getfield 577, .aload 0, .getfield 576, .invokeinterface 66 2, .iconst 0, .istore 2, .goto_w 2] := rfl
theorem zb_153_2 : zB 153 2 = [.iload 2, .iload 1, .if_icmp .ge 4, .aload 0, .getfield 584, .aload 0, .getfield 576, .iload 2, .invokeinterface 113 3, .ifCond .eq 3, .aload 0, .getfield 576, .aload 0, .getfield 577, .invokeinterface 66 2, .iconst (-1000), .iload 2, .isub, .ireturn] := rfl
theorem zb_153_3 : zB 153 3 = [.aload 0, .getfield 584, .aload 0, .getfield 576, .iload 2, .invokeinterface 114 3, .iinc 2 1, .goto 2] := rfl
theorem zb_153_4 : zB 153 4 = [.aload 0, .getfield 578, .aload 0, .getfield 577, .invokeinterface 32 2, .iload 1, .ireturn] := rfl
theorem zb_154_0 : zB 154 0 = [.aload 0, .getfield 578, .invokeinterface 34 1, .invokeinterface 156 1, .aload 0, .getfield 578, .aload 0, .getfield 576, .invokeinterface 35 2, .ireturn] := rfl
theorem zb_155_0 : zB 155 0 = [.aload 0, .getfield 579, .aload 0, .getfield 576, .invokeinterface 25 2, .jsr_w 57381, .aload 0, .getfield 576, .getfield 448, .i2l, .ladd, .lstore 1, .iconst 0, .istore 3, .goto_w 1] := rfl
theorem zb_155_1 : zB 155 1 = [.iload 3, .aload 0, .getfield 576, .getfield 448, .if_icmp .ge 4, .iconst 0, .istore 4, .goto_w 2] := rfl
theorem zb_155_2 : zB 155 2 = [.iload 4, .iconst 10, .if_icmp .gt 3, .jsr_w 31, .lload 1, .lmul, .aload 0, .getfield 576, .iload 3, .iload 4, .invokeinterface 80 3, .i2l, .ladd, .lstore 1, .iinc 4 1, .goto 2] := rfl
theorem zb_155_3 : zB 155 3 = [.jsr_w 31, .lload 1, .lmul, .aload 0, .getfield 579, .getfield 132, .iload 3, .iaload, .i2l, .ladd, .lstore 1, .iinc 3 1, .goto 1] := rfl
theorem zb_155_4 : zB 155 4 = [.jsr_w 31, .lload 1, .lmul, .aload 0, .getfield 576, .getfield 449, .i2l, .ladd, .lstore 1, .iconst 0, .istore 3, .goto_w 5] := rfl
theorem zb_155_5 : zB 155 5 = [.iload 3, .aload 0, .getfield 576, .getfield 449, .if_icmp .ge 8, .iconst 0, .istore 4, .goto_w 6] := rfl
theorem zb_155_6 : zB 155 6 = [.iload 4, .iconst 5, .if_icmp .gt 7, .jsr_w 31, .lload 1, .lmul, .aload 0, .getfield 576, .getfield 451, .iload 4, .aaload, .iload 3, .iaload, .i2l, .ladd, .lstore 1, .iinc 4 1, .goto 6] := rfl
theorem zb_155_7 : zB 155 7 = [.iinc 3 1, .goto 5] := rfl
theorem zb_155_8 : zB 155 8 = [.jsr_w 31, .lload 1, .lmul, .aload 0, .getfield 579, .aload 0, .getfield 576, .invokeinterface 27 2, .i2l, .ladd, .lstore 1, .jsr_w 31, .lload 1, .lmul, .aload 0, .getfield 576, .invokeinterface 92 1, .i2l, .ladd, .lstore 1, .jsr_w 31, .lload 1, .lmul, .aload 0, .getfield 582, .aload 0, .getfield 576, .iconst 2, .invokeinterface 38 3, .i2l, .ladd, .lstore 1, .jsr_w 31, .lload 1, .lmul, .aload 0, .getfield 582, .aload 0, .getfield 576, .invokeinterface 42 2, .i2l, .ladd, .lstore 1, .jsr_w 31, .lload 1, .lmul, .aload 0, .getfield 584, .getfield 513, .i2l, .ladd, .lstore 1, .jsr_w 31, .lload 1, .lmul, .aload 0, .getfield 578, .getfield 193, .i2l, .ladd, .lreturn] := rfl
theorem zb_157_0 : zB 157 0 = [.iload 0, .iload 1, .if_icmp .lt 1, .iload 0, .iload 2, .if_icmp .le 2, .goto_w 1] := rfl
theorem zb_157_1 : zB 157 1 = [.iconst 2, .goto 3] := rfl
theorem zb_157_2 : zB 157 2 = [.iconst 0, .goto_w 3] := rfl
theorem zb_157_3 : zB 157 3 = [.ireturn] := rfl
theorem zb_158_0 : zB 158 0 = [.iload 0, .iload 1, .ishr, .iconst 1, .iand, .ifCond .eq 1, .iconst 1, .goto 2] := rfl
theorem zb_158_1 : zB 158 1 = [.iconst 0, .goto_w 2] := rfl
theorem zb_158_2 : zB 158 2 = [.ireturn] := rfl
theorem zb_159_0 : zB 159 0 = [.fload 0, .f2d, .dstore 1, .dload 1, .jsr 0, .dcmp .g, .ifCond .gt 1, .iconst 0, .ireturn] := rfl
theorem zb_159_1 : zB 159 1 = [.iconst 127, .istore 3, .goto_w 2] := rfl
theorem zb_159_2 : zB 159 2 = [.dload 1, .jsr 4607182418800017408, .dcmp .g, .ifCond .ge 3, .iload 3, .iconst 1, .if_icmp .le 3, .dload 1, .jsr 4611686018427387904, .dmul, .dstore 1, .iinc 3 (-1), .goto 2] := rfl
theorem zb_159_3 : zB 159 3 = [.dload 1, .jsr 4607182418800017408, .dcmp .g, .ifCond .ge 4, .dload 1, .jsr 4710765210229538816, .dmul, .d2i, .ireturn] := rfl
theorem zb_159_4 : zB 159 4 = [.iload 3, .iconst 23, .ishl, .dload 1, .jsr 4607182418800017408, .dsub, .jsr 4710765210229538816, .dmul, .d2i, .iadd, .ireturn] := rfl
theorem zb_160_0 : zB 160 0 = [.aload 0, .monitorexit, .aload 0, .iconst 230, .newarray .int, .putfield 640, .aload 0, .iconst 920, .newarray .int, .putfield 641, .aload 0, .iconst 230, .newarray .int, .putfield 642, .aload 0, .iconst 120, .newarray .int, .putfield 644, .aload 0, .iconst 12, .newarray .int, .putfield 647, .aload 0, .iconst 12, .newarray .int, .putfield 648, .aload 0, .iconst 12, .newarray .int, .putfield 650, .aload 0, .iconst 13, .newarray .int, .putfield 651, .aload 0, .iconst 13, .newarray .int, .putfield 652, .aload 0, .iconst 13, .newarray .int, .putfield 653, .aload 0, .iconst 13, .newarray .int, .putfield 654, .aload 0, .iconst 13, .newarray .int, .putfield 655, .aload 0, .iconst 13, .newarray .int, .putfield 656, .aload 0, .iconst 13, .newarray .int, .putfield 657, .aload 0, .iconst 13, .newarray .boolean, .putfield 658, .aload 0, .iconst 13, .newarray .int, .putfield 659, .aload 0, .iconst 240, .newarray .int, .putfield 668, .aload 0, .iconst 800, .newarray .int, .putfield 669, .aload 0, .iconst 6, .newarray .int, .putfield 670, .aload 0, .iconst 240, .newarray .int, .putfield 671, .aload 0, .iconst 800, .newarray .int, .putfield 672, .aload 0, .iconst 12, .newarray .int, .putfield 675, .aload 0, .iconst 12, .newarray .int, .putfield 677, .aload 0, .iconst 4096, .newarray .int, .putfield 678, .aload 0, .iconst 4096, .newarray .boolean, .putfield 679, .aload 0, .iconst 5, .newarray .int, .putfield 682, .aload 0, .getfield 640, .iconst 0, .iconst 0, .iastore, .return_] := rfl
theorem zb_161_0 : zB 161 0 = [.aload 0, .getfield 646, .ireturn] := rfl
theorem zb_162_0 : zB 162 0 = [.iload 0, .iload 1, .if_icmp .lt 1, .iload 0, .iload 2, .if_icmp .gt 1, .iconst 1, .goto 2] := rfl
theorem zb_162_1 : zB 162 1 = [.iconst 0, .goto_w 2] := rfl
theorem zb_162_2 : zB 162 2 = [.ireturn] := rfl
theorem zb_163_0 : zB 163 0 = [.aload 0, .iload 1, .putfield 646, .iconst 0, .ireturn] := rfl
theorem zb_164_0 : zB 164 0 = [.aload 0, .iconst 0, .putfield 646, .iload 1, .ireturn] := rfl
theorem zb_165_0 : zB 165 0 = [.iconst 0, .istore 1, .goto_w 1] := rfl
theorem zb_165_1 : zB 165 1 = [.iload 1, .iconst 230, .if_icmp .ge 2, .aload 0, .getfield 642, .iload 1, .aload 0, .getfield 640, .iload 1, .iaload, .iastore, .iinc 1 1, .goto 1] := rfl
theorem zb_165_2 : zB 165 2 = [.return_] := rfl
theorem zb_166_0 : zB 166 0 = [.iconst 0, .istore 1, .goto_w 1] := rfl
theorem zb_166_1 : zB 166 1 = [.iload 1, .iconst 230, .if_icmp .ge 2, .aload 0, .getfield 640, .iload 1, .aload 0, .getfield 642, .iload 1, .iaload, .iastore, .iinc 1 1, .goto 1] := rfl
theorem zb_166_2 : zB 166 2 = [.return_] := rfl
theorem zb_167_0 : zB 167 0 = [.aload 0, .getfield 643, .iconst 4, .if_icmp .ne 3, .iconst 0, .istore 2, .goto_w 1] := rfl
theorem zb_167_1 : zB 167 1 = [.iload 2, .iconst 690, .if_icmp .ge 2, .aload 0, .getfield 641, .iload 2, .aload 0, .getfield 641, .iload 2, .iconst 230, .iadd, .iaload, .iastore, .iinc 2 1, .goto 1] := rfl
theorem zb_167_2 : zB 167 2 = [.aload 0, .dup, .getfield 643, .iconst 1, .isub, .putfield 643, .goto_w 3] := rfl
theorem zb_167_3 : zB 167 3 = [.iconst 0, .istore 2, .goto_w 4] := rfl
theorem zb_167_4 : zB 167 4 = [.iload 2, .iconst 230, .if_icmp .ge 5, .aload 0, .getfield 641, .iconst 230, .aload 0, .getfield 643, .imul, .iload 2, .iadd, .aload 0, .getfield 642, .iload 2, .iaload, .iastore, .iinc 2 1, .goto 4] := rfl
theorem zb_167_5 : zB 167 5 = [.aload 0, .dup, .getfield 643, .iconst 1, .iadd, .putfield 643, .aload 0, .iload 1, .invokeinterface 164 2, .ireturn] := rfl
theorem zb_168_0 : zB 168 0 = [.aload 0, .getfield 640, .iconst 2, .iconst 9, .iload 1, .imul, .iadd, .iload 2, .iadd, .iaload, .ireturn] := rfl
theorem zb_169_0 : zB 169 0 = [.aload 0, .getfield 640, .iconst 2, .iconst 9, .iload 1, .imul, .iadd, .iload 2, .iadd, .iload 3, .iastore, .return_] := rfl
theorem zb_170_0 : zB 170 0 = [.aload 0, .getfield 640, .iconst 110, .iconst 5, .iload 1, .imul, .iadd, .iload 2, .iadd, .iaload, .ireturn] := rfl
theorem zb_171_0 : zB 171 0 = [.aload 0, .iload 1, .iconst 0, .invokeinterface 170 3, .ireturn] := rfl
theorem zb_172_0 : zB 172 0 = [.aload 0, .iload 1, .iconst 1, .invokeinterface 170 3, .ireturn] := rfl
theorem zb_173_0 : zB 173 0 = [.aload 0, .iload 1, .iconst 4, .invokeinterface 170 3, .iconst 2, .if_icmp .ne 1, .iconst 1, .goto 2] := rfl
theorem zb_173_1 : zB 173 1 = [.iconst 0, .goto_w 2] := rfl
theorem zb_173_2 : zB 173 2 = [.ireturn] := rfl
theorem zb_174_0 : zB 174 0 = [.iload 1, .iconst 0, .aload 0, .getfield 640, .iconst 0, .iaload, .iconst 1, .isub, .invokeinterface 162 3, .ireturn] := rfl
theorem zb_175_0 : zB 175 0 = [.iload 1, .iconst 0, .aload 0, .getfield 640, .iconst 1, .iaload, .iconst 1, .isub, .invokeinterface 162 3, .ireturn] := rfl
theorem zb_176_0 : zB 176 0 = [.aload 0, .iload 1, .iconst 6, .invokeinterface 168 3, .iconst 1, .if_icmp .ne 1, .iconst 1, .goto 2] := rfl
theorem zb_176_1 : zB 176 1 = [.iconst 0, .goto_w 2] := rfl
theorem zb_176_2 : zB 176 2 = [.ireturn] := rfl
theorem zb_177_0 : zB 177 0 = [.aload 0, .iload 1, .iconst 0, .invokeinterface 168 3, .aload 0, .iload 1, .iconst 1, .invokeinterface 168 3, .imul, .iconst 99, .iadd, .iconst 100, .idiv, .ireturn] := rfl
theorem zb_178_0 : zB 178 0 = [.iload 2, .iconst 1, .iadd, .istore 3, .goto_w 1] := rfl
theorem zb_178_1 : zB 178 1 = [.iload 3, .aload 0, .getfield 640, .iconst 1, .iaload, .if_icmp .ge 2, .aload 0, .iload 3, .invokeinterface 171 2, .iload 1, .if_icmp .eq 2, .iinc 3 1, .goto 1] := rfl
theorem zb_178_2 : zB 178 2 = [.iload 3, .ireturn] := rfl
theorem zb_179_0 : zB 179 0 = [.iconst 0, .istore 2, .iconst 0, .istore 3, .goto_w 1] := rfl
theorem zb_179_1 : zB 179 1 = [.iload 3, .aload 0, .getfield 640, .iconst 1, .iaload, .if_icmp .ge 4, .iload 2, .aload 0, .iload 3, .invokeinterface 171 2, .iload 1, .if_icmp .ne 2, .iconst 1, .goto 3] := rfl
theorem zb_179_2 : zB 179 2 = [.iconst 0, .goto_w 3] := rfl
theorem zb_179_3 : zB 179 3 = [.iadd, .istore 2, .iinc 3 1, .goto 1] := rfl
theorem zb_179_4 : zB 179 4 = [.iload 2, .ireturn] := rfl
theorem zb_180_0 : zB 180 0 = [.iconst 0, .istore 1, .goto_w 1] := rfl
theorem zb_180_1 : zB 180 1 = [.iload 1, .iconst 12, .if_icmp .ge 2, .aload 0, .getfield 647, .iload 1, .iconst 0, .iastore, .iinc 1 1, .goto 1] := rfl
theorem zb_180_2 : zB 180 2 = [.iconst 1, .istore 1, .goto_w 3] := rfl
theorem zb_180_3 : zB 180 3 = [.iload 1, .ifCond .eq 9, .iconst 0, .istore 1, .iconst 0, .istore 2, .goto_w 4] := rfl
theorem zb_180_4 : zB 180 4 = [.iload 2, .aload 0, .getfield 640, .iconst 1, .iaload, .if_icmp .ge 8, .aload 0, .getfield 647, .aload 0, .iload 2, .invokeinterface 171 2, .iaload, .iconst 1, .aload 0, .iload 2, .invokeinterface 172 2, .ishl, .ior, .aload 0, .getfield 647, .aload 0, .iload 2, .invokeinterface 172 2, .iaload, .ior, .istore 3, .iload 1, .ifCond .ne 5, .iload 3, .aload 0, .getfield 647, .aload 0, .iload 2, .invokeinterface 171 2, .iaload, .if_icmp .eq 6, .goto_w 5] := rfl
theorem zb_180_5 : zB 180 5 = [.iconst 1, .goto 7] := rfl
theorem zb_180_6 : zB 180 6 = [.iconst 0, .goto_w 7] := rfl
theorem zb_180_7 : zB 180 7 = [.istore 1, .aload 0, .getfield 647, .aload 0, .iload 2, .invokeinterface 171 2, .iload 3, .iastore, .iinc 2 1, .goto 4] := rfl
theorem zb_180_8 : zB 180 8 = [.goto 3] := rfl
theorem zb_180_9 : zB 180 9 = [.return_] := rfl
theorem zb_181_0 : zB 181 0 = [.aload 0, .invokeinterface 180 1, .iconst 0, .istore 1, .iconst 0, .istore 2, .goto_w 1] := rfl
theorem zb_181_1 : zB 181 1 = [.iload 2, .aload 0, .getfield 640, .iconst 0, .iaload, .if_icmp .ge 5, .iconst 0, .istore 3, .goto_w 2] := rfl
theorem zb_181_2 : zB 181 2 = [.iload 1, .iload 3, .ishr, .iconst 1, .iand, .iconst 1, .if_icmp .eq 3, .aload 0, .getfield 647, .iload 3, .iaload, .iload 1, .iconst (-1), .ixor, .iand, .ifCond .eq 4, .goto_w 3] := rfl
theorem zb_181_3 : zB 181 3 = [.iinc 3 1, .goto 2] := rfl
theorem zb_181_4 : zB 181 4 = [.aload 0, .getfield 648, .iload 2, .iload 3, .iastore, .iload 1, .iconst 1, .iload 3, .ishl, .ior, .istore 1, .iinc 2 1, .goto 1] := rfl
theorem zb_181_5 : zB 181 5 = [.return_] := rfl
theorem zb_182_0 : zB 182 0 = [.aload 0, .invokeinterface 180 1, .aload 0, .getfield 647, .iload 1, .iaload, .iload 2, .ishr, .iconst 1, .iand, .iconst 1, .if_icmp .ne 1, .iconst 1, .goto 2] := rfl
theorem zb_182_1 : zB 182 1 = [.iconst 0, .goto_w 2] := rfl
theorem zb_182_2 : zB 182 2 = [.ireturn] := rfl
theorem zb_183_0 : zB 183 0 = [.iload 1, .iconst 1, .iconst 100, .invokeinterface 162 3, .ifCond .ne 1, .iconst 1, .ireturn] := rfl
theorem zb_183_1 : zB 183 1 = [.aload 0, .getfield 640, .iconst 0, .iaload, .iconst 12, .if_icmp .ne 2, .iconst 2, .ireturn] := rfl
theorem zb_183_2 : zB 183 2 = [.aload 0, .getfield 640, .iconst 0, .iaload, .istore 2, .aload 0, .iload 2, .iconst 0, .iload 1, .invokeinterface 169 4, .aload 0, .iload 2, .iconst 1, .iconst 100, .invokeinterface 169 4, .aload 0, .iload 2, .iconst 2, .iconst 2, .invokeinterface 169 4, .aload 0, .iload 2, .iconst 3, .iconst 3, .invokeinterface 169 4, .aload 0, .iload 2, .iconst 4, .iconst 1, .invokeinterface 169 4, .aload 0, .iload 2, .iconst 5, .iconst 990, .invokeinterface 169 4, .aload 0, .iload 2, .iconst 6, .iconst 1, .invokeinterface 169 4, .aload 0, .iload 2, .iconst 7, .iconst 0, .invokeinterface 169 4, .aload 0, .iload 2, .iconst 8, .iconst (-1), .invokeinterface 169 4, .aload 0, .getfield 640, .iconst 0, .dup2, .iaload, .iconst 1, .iadd, .iastore, .aload 0, .iload 2, .putfield 649, .iconst 0, .ireturn] := rfl
theorem zb_184_0 : zB 184 0 = [.aload 0, .iload 1, .invokeinterface 174 2, .ifCond .eq 1, .aload 0, .iload 2, .invokeinterface 174 2, .ifCond .ne 2, .goto_w 1] := rfl
theorem zb_184_1 : zB 184 1 = [.iconst 1, .ireturn] := rfl
theorem zb_184_2 : zB 184 2 = [.iload 3, .iconst 1, .iconst 500, .invokeinterface 162 3, .ifCond .eq 3, .iload 4, .iconst 1, .iconst 3, .invokeinterface 162 3, .ifCond .eq 3, .iload 5, .iconst 0, .iconst 2, .invokeinterface 162 3, .ifCond .ne 4, .goto_w 3] := rfl
theorem zb_184_3 : zB 184 3 = [.iconst 2, .ireturn] := rfl
theorem zb_184_4 : zB 184 4 = [.iload 1, .iload 2, .if_icmp .eq 6, .aload 0, .iload 2, .iload 1, .invokeinterface 182 3, .ifCond .ne 6, .iload 5, .iconst 2, .if_icmp .ne 5, .aload 0, .iload 1, .invokeinterface 179 2, .ifCond .eq 6, .goto_w 5] := rfl
theorem zb_184_5 : zB 184 5 = [.aload 0, .getfield 640, .iconst 1, .iaload, .iconst 24, .if_icmp .ne 7, .goto_w 6] := rfl
theorem zb_184_6 : zB 184 6 = [.iconst 3, .ireturn] := rfl
theorem zb_184_7 : zB 184 7 = [.iconst 110, .iconst 5, .aload 0, .getfield 640, .iconst 1, .iaload, .imul, .iadd, .istore 6, .aload 0, .getfield 640, .iload 6, .iload 1, .iastore, .aload 0, .getfield 640, .iload 6, .iconst 1, .iadd, .iload 2, .iastore, .aload 0, .getfield 640, .iload 6, .iconst 2, .iadd, .iload 3, .iastore, .aload 0, .getfield 640, .iload 6, .iconst 3, .iadd, .iload 4, .iastore, .aload 0, .getfield 640, .iload 6, .iconst 4, .iadd, .iload 5, .iastore, .aload 0, .aload 0, .getfield 640, .iconst 1, .iaload, .putfield 649, .aload 0, .getfield 640, .iconst 1, .dup2, .iaload, .iconst 1, .iadd, .iastore, .iconst 0, .ireturn] := rfl
theorem zb_185_0 : zB 185 0 = [.iload 0, .lookupswitch 6 #[(0, 1), (1, 2), (2, 3), (3, 4), (4, 3), (5, 5)]] := rfl
theorem zb_185_1 : zB 185 1 = [.iload 1, .iconst 1, .iconst 100, .invokeinterface 162 3, .ireturn] := rfl
theorem zb_185_2 : zB 185 2 = [.iload 1, .iconst 50, .iconst 400, .invokeinterface 162 3, .ireturn] := rfl
theorem zb_185_3 : zB 185 3 = [.iload 1, .iconst 1, .iconst 9, .invokeinterface 162 3, .ireturn] := rfl
theorem zb_185_4 : zB 185 4 = [.iload 1, .iconst 1, .iconst 20, .invokeinterface 162 3, .ireturn] := rfl
theorem zb_185_5 : zB 185 5 = [.iload 1, .iconst 0, .iconst 1000, .invokeinterface 162 3, .ireturn] := rfl
theorem zb_185_6 : zB 185 6 = [.iconst 0, .ireturn] := rfl
theorem zb_186_0 : zB 186 0 = [.aload 0, .iload 2, .invokeinterface 174 2, .ifCond .ne 1, .iconst 1, .ireturn] := rfl
theorem zb_186_1 : zB 186 1 = [.iload 1, .iload 3, .invokeinterface 185 2, .ifCond .ne 2, .iconst 2, .ireturn] := rfl
theorem zb_186_2 : zB 186 2 = [.aload 0, .aload 0, .iload 2, .iload 1, .invokeinterface 168 3, .putfield 649, .aload 0, .iload 2, .iload 1, .iload 3, .invokeinterface 169 4, .iconst 0, .ireturn] := rfl
theorem zb_187_0 : zB 187 0 = [.iconst 0, .istore 1, .iconst 0, .istore 2, .goto_w 1] := rfl
theorem zb_187_1 : zB 187 1 = [.iload 2, .aload 0, .getfield 640, .iconst 0, .iaload, .if_icmp .ge 2, .iload 1, .aload 0, .iload 2, .iconst 6, .invokeinterface 168 3, .iadd, .istore 1, .iinc 2 1, .goto 1] := rfl
theorem zb_187_2 : zB 187 2 = [.iload 1, .ireturn] := rfl
theorem zb_188_0 : zB 188 0 = [.aload 0, .iload 1, .invokeinterface 174 2, .ifCond .ne 1, .iconst 1, .ireturn] := rfl
theorem zb_188_1 : zB 188 1 = [.aload 0, .iload 1, .invokeinterface 176 2, .ifCond .ne 2, .iconst 2, .ireturn] := rfl
theorem zb_188_2 : zB 188 2 = [.aload 0, .iload 1, .invokeinterface 189 2, .aload 0, .aload 0, .invokeinterface 187 1, .putfield 649, .iconst 0, .ireturn] := rfl
theorem zb_189_0 : zB 189 0 = [.aload 0, .iload 1, .iconst 6, .iconst 0, .invokeinterface 169 4, .aload 0, .iload 1, .iconst 7, .iconst 0, .invokeinterface 169 4, .aload 0, .iload 1, .iconst 8, .iconst (-1), .invokeinterface 169 4, .return_] := rfl
theorem zb_190_0 : zB 190 0 = [.aload 0, .iload 1, .invokeinterface 174 2, .ifCond .ne 1, .iconst 1, .ireturn] := rfl
theorem zb_190_1 : zB 190 1 = [.aload 0, .iload 1, .invokeinterface 176 2, .ifCond .ne 2, .aload 0, .iload 1, .iconst 8, .invokeinterface 168 3, .iconst (-1), .if_icmp .eq 3, .goto_w 2] := rfl
theorem zb_190_2 : zB 190 2 = [.iconst 2, .ireturn] := rfl
theorem zb_190_3 : zB 190 3 = [.aload 0, .iload 1, .iconst 8, .aload 0, .iload 1, .iconst 3, .invokeinterface 168 3, .invokeinterface 169 4, .aload 0, .aload 0, .iload 1, .iconst 8, .invokeinterface 168 3, .putfield 649, .iconst 0, .ireturn] := rfl
theorem zb_191_0 : zB 191 0 = [.iload 1, .iconst 1, .iconst 50, .invokeinterface 162 3, .ifCond .ne 1, .iconst 1, .ireturn] := rfl
theorem zb_191_1 : zB 191 1 = [.iconst 0, .istore 2, .goto_w 2] := rfl
theorem zb_191_2 : zB 191 2 = [.iload 2, .iload 1, .if_icmp .ge 3, .aload 0, .invokeinterface 231 1, .istore 3, .aload 0, .iload 3, .putfield 649, .iinc 2 1, .goto 2] := rfl
theorem zb_191_3 : zB 191 3 = [.aload 0, .aload 0, .invokeinterface 187 1, .putfield 649, .iconst 0, .ireturn] := rfl
theorem zb_192_0 : zB 192 0 = [.iload 1, .ifCond .le 1, .aload 0, .iload 1, .invokeinterface 163 2, .goto 2] := rfl
theorem zb_192_1 : zB 192 1 = [.aload 0, .aload 0, .getfield 649, .invokeinterface 167 2, .goto_w 2] := rfl
theorem zb_192_2 : zB 192 2 = [.ireturn] := rfl
theorem zb_193_0 : zB 193 0 = [.aload 0, .invokeinterface 165 1, .aload 0, .aload 0, .iload 1, .invokeinterface 183 2, .invokeinterface 192 2, .ireturn] := rfl
theorem zb_194_0 : zB 194 0 = [.aload 0, .invokeinterface 165 1, .aload 0, .aload 0, .iload 1, .iload 2, .iload 3, .iload 4, .iload 5, .invokeinterface 184 6, .invokeinterface 192 2, .ireturn] := rfl
theorem zb_195_0 : zB 195 0 = [.iconst (-1), .istore 2, .iconst 0, .istore 3, .goto_w 1] := rfl
theorem zb_195_1 : zB 195 1 = [.iload 3, .iload 1, .if_icmp .ge 4, .aload 0, .iload 1, .invokeinterface 173 2, .ifCond .eq 4, .aload 0, .iload 3, .invokeinterface 171 2, .aload 0, .iload 1, .invokeinterface 171 2, .if_icmp .ne 2, .aload 0, .iload 3, .invokeinterface 173 2, .ifCond .ne 2, .iload 3, .goto 3] := rfl
theorem zb_195_2 : zB 195 2 = [.iload 2, .goto_w 3] := rfl
theorem zb_195_3 : zB 195 3 = [.istore 2, .iinc 3 1, .goto 1] := rfl
theorem zb_195_4 : zB 195 4 = [.iload 2, .ireturn] := rfl
theorem zb_196_0 : zB 196 0 = [.aload 0, .iload 1, .invokeinterface 175 2, .ifCond .ne 1, .aload 0, .iconst 1, .invokeinterface 163 2, .ireturn] := rfl
theorem zb_196_1 : zB 196 1 = [.iload 1, .iconst 1, .iadd, .istore 2, .goto_w 2] := rfl
theorem zb_196_2 : zB 196 2 = [.iload 2, .aload 0, .getfield 640, .iconst 1, .iaload, .if_icmp .ge 4, .aload 0, .iload 2, .invokeinterface 195 2, .iload 1, .if_icmp .ne 3, .aload 0, .iconst 2, .invokeinterface 163 2, .ireturn] := rfl
theorem zb_196_3 : zB 196 3 = [.iinc 2 1, .goto 2] := rfl
theorem zb_196_4 : zB 196 4 = [.aload 0, .invokeinterface 165 1, .aload 0, .getfield 640, .iconst 1, .dup2, .iaload, .iconst 1, .isub, .iastore, .iconst 110, .iconst 5, .iload 1, .imul, .iadd, .istore 2, .goto_w 5] := rfl
theorem zb_196_5 : zB 196 5 = [.iload 2, .iconst 110, .iconst 5, .aload 0, .getfield 640, .iconst 1, .iaload, .imul, .iadd, .if_icmp .ge 6, .aload 0, .getfield 640, .iload 2, .aload 0, .getfield 640, .iload 2, .iconst 5, .iadd, .iaload, .iastore, .iinc 2 1, .goto 5] := rfl
theorem zb_196_6 : zB 196 6 = [.aload 0, .aload 0, .getfield 640, .iconst 1, .iaload, .invokeinterface 167 2, .ireturn] := rfl
theorem zb_197_0 : zB 197 0 = [.aload 0, .invokeinterface 165 1, .aload 0, .aload 0, .iload 1, .iload 2, .iload 3, .invokeinterface 186 4, .invokeinterface 192 2, .ireturn] := rfl
theorem zb_198_0 : zB 198 0 = [.aload 0, .iload 1, .invokeinterface 175 2, .ifCond .ne 1, .aload 0, .iconst 1, .invokeinterface 163 2, .ireturn] := rfl
theorem zb_198_1 : zB 198 1 = [.iload 2, .iconst 1, .iconst 500, .invokeinterface 162 3, .ifCond .ne 2, .aload 0, .iconst 2, .invokeinterface 163 2, .ireturn] := rfl
theorem zb_198_2 : zB 198 2 = [.aload 0, .invokeinterface 165 1, .aload 0, .iload 1, .iconst 2, .invokeinterface 170 3, .istore 3, .aload 0, .getfield 640, .iconst 110, .iconst 5, .iload 1, .imul, .iadd, .iconst 2, .iadd, .iload 2, .iastore, .aload 0, .iload 3, .invokeinterface 167 2, .ireturn] := rfl
theorem zb_199_0 : zB 199 0 = [.aload 0, .aload 0, .getfield 640, .iconst 0, .iaload, .invokeinterface 164 2, .ireturn] := rfl
theorem zb_200_0 : zB 200 0 = [.aload 0, .aload 0, .getfield 640, .iconst 1, .iaload, .invokeinterface 164 2, .ireturn] := rfl
theorem zb_201_0 : zB 201 0 = [.iload 2, .iconst 9, .if_icmp .ge 1, .aload 0, .iload 1, .iload 2, .invokeinterface 168 3, .goto 3] := rfl
theorem zb_201_1 : zB 201 1 = [.iload 2, .iconst 9, .if_icmp .ne 2, .aload 0, .iload 1, .invokeinterface 177 2, .goto 3] := rfl
theorem zb_201_2 : zB 201 2 = [.aload 0, .iload 1, .invokeinterface 179 2, .goto_w 3] := rfl
theorem zb_201_3 : zB 201 3 = [.ireturn] := rfl
theorem zb_202_0 : zB 202 0 = [.aload 0, .iload 1, .invokeinterface 174 2, .ifCond .ne 1, .aload 0, .iconst 1, .invokeinterface 163 2, .ireturn] := rfl
theorem zb_202_1 : zB 202 1 = [.iload 2, .iconst 0, .iconst 10, .invokeinterface 162 3, .ifCond .eq 2, .aload 0, .aload 0, .iload 1, .iload 2, .invokeinterface 201 3, .invokeinterface 164 2, .goto 3] := rfl
theorem zb_202_2 : zB 202 2 = [.aload 0, .iconst 2, .invokeinterface 163 2, .goto_w 3] := rfl
theorem zb_202_3 : zB 202 3 = [.ireturn] := rfl
theorem zb_203_0 : zB 203 0 = [.iload 2, .iconst 5, .if_icmp .ge 1, .aload 0, .iload 1, .iload 2, .invokeinterface 170 3, .goto 2] := rfl
theorem zb_203_1 : zB 203 1 = [.aload 0, .iload 1, .invokeinterface 195 2, .goto_w 2] := rfl
theorem zb_203_2 : zB 203 2 = [.ireturn] := rfl
theorem zb_204_0 : zB 204 0 = [.aload 0, .iload 1, .invokeinterface 175 2, .ifCond .ne 1, .aload 0, .iconst 1, .invokeinterface 163 2, .ireturn] := rfl
theorem zb_204_1 : zB 204 1 = [.iload 2, .iconst 0, .iconst 5, .invokeinterface 162 3, .ifCond .eq 2, .aload 0, .aload 0, .iload 1, .iload 2, .invokeinterface 203 3, .invokeinterface 164 2, .goto 3] := rfl
theorem zb_204_2 : zB 204 2 = [.aload 0, .iconst 2, .invokeinterface 163 2, .goto_w 3] := rfl
theorem zb_204_3 : zB 204 3 = [.ireturn] := rfl
theorem zb_205_0 : zB 205 0 = [.aload 0, .iload 1, .invokeinterface 174 2, .ifCond .eq 1, .aload 0, .iload 2, .invokeinterface 174 2, .ifCond .ne 4, .goto_w 1] := rfl
theorem zb_205_1 : zB 205 1 = [.aload 0, .iconst 1, .invokeinterface 163 2, .ifCond .eq 2, .iconst 1, .goto 3] := rfl
theorem zb_205_2 : zB 205 2 = [.iconst 0, .goto_w 3] := rfl
theorem zb_205_3 : zB 205 3 = [.ireturn] := rfl
theorem zb_205_4 : zB 205 4 = [.aload 0, .iconst 0, .putfield 646, .aload 0, .iload 1, .iload 2, .invokeinterface 182 3, .ireturn] := rfl
theorem zb_206_0 : zB 206 0 = [.aload 0, .invokeinterface 181 1, .aload 0, .aload 0, .iload 1, .invokeinterface 174 2, .ifCond .eq 1, .aload 0, .getfield 648, .iload 1, .iaload, .goto 2] := rfl
theorem zb_206_1 : zB 206 1 = [.iconst (-1), .goto_w 2] := rfl
theorem zb_206_2 : zB 206 2 = [.invokeinterface 164 2, .ireturn] := rfl
theorem zb_207_0 : zB 207 0 = [.aload 0, .invokeinterface 181 1, .iconst 0, .istore 1, .goto_w 1] := rfl
theorem zb_207_1 : zB 207 1 = [.iload 1, .aload 0, .getfield 640, .iconst 0, .iaload, .if_icmp .ge 8, .aload 0, .getfield 648, .iload 1, .iaload, .istore 2, .aload 0, .getfield 650, .iload 2, .iconst 0, .iastore, .iconst 0, .istore 3, .goto_w 2] := rfl
theorem zb_207_2 : zB 207 2 = [.iload 3, .aload 0, .getfield 640, .iconst 1, .iaload, .if_icmp .ge 7, .aload 0, .iload 3, .invokeinterface 171 2, .iload 2, .if_icmp .ne 3, .aload 0, .getfield 650, .aload 0, .iload 3, .invokeinterface 172 2, .iaload, .iconst 1, .iadd, .goto 4] := rfl
theorem zb_207_3 : zB 207 3 = [.iconst 0, .goto_w 4] := rfl
theorem zb_207_4 : zB 207 4 = [.istore 4, .aload 0, .getfield 650, .iload 2, .iload 4, .aload 0, .getfield 650, .iload 2, .iaload, .if_icmp .le 5, .iload 4, .goto 6] := rfl
theorem zb_207_5 : zB 207 5 = [.aload 0, .getfield 650, .iload 2, .iaload, .goto_w 6] := rfl
theorem zb_207_6 : zB 207 6 = [.iastore, .iinc 3 1, .goto 2] := rfl
theorem zb_207_7 : zB 207 7 = [.iinc 1 1, .goto 1] := rfl
theorem zb_207_8 : zB 207 8 = [.return_] := rfl
theorem zb_208_0 : zB 208 0 = [.aload 0, .iload 1, .invokeinterface 174 2, .ifCond .ne 1, .aload 0, .iconst 1, .invokeinterface 163 2, .ireturn] := rfl
theorem zb_208_1 : zB 208 1 = [.aload 0, .invokeinterface 207 1, .aload 0, .aload 0, .getfield 650, .iload 1, .iaload, .invokeinterface 164 2, .ireturn] := rfl
theorem zb_209_0 : zB 209 0 = [.aload 0, .getfield 663, .iconst 60, .if_icmp .ge 1, .aload 0, .getfield 668, .iconst 4, .aload 0, .getfield 663, .imul, .aload 0, .getfield 651, .aload 0, .getfield 660, .iaload, .iastore, .aload 0, .getfield 668, .iconst 4, .aload 0, .getfield 663, .imul, .iconst 1, .iadd, .iload 1, .iastore, .aload 0, .getfield 668, .iconst 4, .aload 0, .getfield 663, .imul, .iconst 2, .iadd, .aload 0, .getfield 652, .aload 0, .getfield 660, .iaload, .aload 0, .getfield 654, .aload 0, .getfield 660, .iaload, .iadd, .iastore, .aload 0, .getfield 668, .iconst 4, .aload 0, .getfield 663, .imul, .iconst 3, .iadd, .aload 0, .getfield 653, .aload 0, .getfield 660, .iaload, .iastore, .aload 0, .dup, .getfield 663, .iconst 1, .iadd, .putfield 663, .goto_w 1] := rfl
theorem zb_209_1 : zB 209 1 = [.aload 0, .aload 0, .getfield 665, .iconst (-1), .if_icmp .ne 2, .iload 1, .iconst 3, .if_icmp .ge 2, .aload 0, .getfield 651, .aload 0, .getfield 660, .iaload, .goto 3] := rfl
theorem zb_209_2 : zB 209 2 = [.aload 0, .getfield 665, .goto_w 3] := rfl
theorem zb_209_3 : zB 209 3 = [.putfield 665, .aload 0, .aload 0, .getfield 666, .iconst (-1), .if_icmp .ne 4, .aload 0, .getfield 651, .aload 0, .getfield 660, .iaload, .goto 5] := rfl
theorem zb_209_4 : zB 209 4 = [.aload 0, .getfield 666, .goto_w 5] := rfl
theorem zb_209_5 : zB 209 5 = [.putfield 666, .return_] := rfl
theorem zb_210_0 : zB 210 0 = [.aload 0, .getfield 651, .aload 0, .getfield 660, .iload 1, .iastore, .aload 0, .getfield 652, .aload 0, .getfield 660, .iload 2, .iastore, .aload 0, .getfield 653, .aload 0, .getfield 660, .iload 3, .iastore, .aload 0, .getfield 654, .aload 0, .getfield 660, .iconst 0, .iastore, .aload 0, .dup, .getfield 667, .iconst 1, .iadd, .putfield 667, .return_] := rfl
theorem zb_211_0 : zB 211 0 = [.aload 0, .getfield 651, .aload 0, .getfield 660, .iaload, .istore 1, .aload 0, .iconst 0, .putfield 674, .aload 0, .iload 1, .invokeinterface 176 2, .ifCond .ne 1, .aload 0, .iconst 1, .invokeinterface 209 2, .iconst 0, .ireturn] := rfl
theorem zb_211_1 : zB 211 1 = [.aload 0, .iload 1, .invokeinterface 177 2, .aload 0, .getfield 653, .aload 0, .getfield 660, .iaload, .if_icmp .le 2, .aload 0, .getfield 654, .aload 0, .getfield 660, .aload 0, .getfield 653, .aload 0, .getfield 660, .iaload, .iastore, .aload 0, .iconst 2, .invokeinterface 209 2, .iconst 0, .ireturn] := rfl
theorem zb_211_2 : zB 211 2 = [.aload 0, .getfield 654, .aload 0, .getfield 660, .aload 0, .iload 1, .invokeinterface 177 2, .iastore, .aload 0, .aload 0, .iload 1, .iconst (-1), .invokeinterface 178 3, .invokeinterface 212 2, .iconst 1, .ireturn] := rfl
theorem zb_212_0 : zB 212 0 = [.aload 0, .getfield 655, .aload 0, .getfield 660, .iload 1, .iastore, .aload 0, .getfield 656, .aload 0, .getfield 660, .iload 1, .iastore, .aload 0, .getfield 657, .aload 0, .getfield 660, .iconst 0, .iastore, .aload 0, .getfield 658, .aload 0, .getfield 660, .iconst 0, .bastore, .return_] := rfl
theorem zb_213_0 : zB 213 0 = [.aload 0, .getfield 651, .aload 0, .getfield 660, .iaload, .istore 1, .aload 0, .getfield 655, .aload 0, .getfield 660, .iaload, .istore 2, .iload 2, .aload 0, .getfield 640, .iconst 1, .iaload, .if_icmp .ne 1, .aload 0, .iconst 1, .putfield 674, .iconst 2, .ireturn] := rfl
theorem zb_213_1 : zB 213 1 = [.aload 0, .getfield 658, .aload 0, .getfield 660, .baload, .ifCond .ne 2, .aload 0, .getfield 657, .aload 0, .getfield 660, .iaload, .aload 0, .iload 2, .iconst 3, .invokeinterface 170 3, .if_icmp .ne 3, .goto_w 2] := rfl
theorem zb_213_2 : zB 213 2 = [.aload 0, .iload 1, .iload 2, .invokeinterface 214 3, .ireturn] := rfl
theorem zb_213_3 : zB 213 3 = [.aload 0, .getfield 653, .aload 0, .getfield 660, .iaload, .aload 0, .getfield 654, .aload 0, .getfield 660, .iaload, .isub, .ifCond .gt 4, .aload 0, .iconst 3, .invokeinterface 209 2, .aload 0, .getfield 657, .aload 0, .getfield 660, .aload 0, .iload 2, .iconst 3, .invokeinterface 170 3, .iastore, .iconst 0, .ireturn] := rfl
theorem zb_213_4 : zB 213 4 = [.iconst 1, .ireturn] := rfl
theorem zb_214_0 : zB 214 0 = [.aload 0, .iload 1, .iload 2, .invokeinterface 178 3, .istore 3, .goto_w 1] := rfl
theorem zb_214_1 : zB 214 1 = [.aload 0, .getfield 658, .aload 0, .getfield 660, .baload, .ifCond .eq 2, .iload 3, .aload 0, .getfield 640, .iconst 1, .iaload, .if_icmp .ge 2, .aload 0, .iload 3, .invokeinterface 173 2, .ifCond .eq 2, .aload 0, .iload 1, .iload 3, .invokeinterface 178 3, .istore 3, .goto 1] := rfl
theorem zb_214_2 : zB 214 2 = [.aload 0, .getfield 658, .aload 0, .getfield 660, .baload, .ifCond .ne 3, .iload 3, .aload 0, .getfield 640, .iconst 1, .iaload, .if_icmp .ge 3, .aload 0, .iload 3, .invokeinterface 173 2, .ifCond .eq 3, .aload 0, .getfield 655, .aload 0, .getfield 660, .iload 3, .iastore, .aload 0, .getfield 657, .aload 0, .getfield 660, .iconst 0, .iastore, .iconst 0, .ireturn] := rfl
theorem zb_214_3 : zB 214 3 = [.aload 0, .getfield 658, .aload 0, .getfield 660, .baload, .ifCond .ne 4, .aload 0, .aload 0, .getfield 656, .aload 0, .getfield 660, .iaload, .iconst 4, .invokeinterface 170 3, .ifCond .ne 4, .aload 0, .iconst 4, .invokeinterface 209 2, .aload 0, .iconst 0, .putfield 674, .iconst 2, .ireturn] := rfl
theorem zb_214_4 : zB 214 4 = [.aload 0, .dup, .getfield 662, .aload 0, .getfield 658, .aload 0, .getfield 660, .baload, .ifCond .eq 5, .iconst 0, .goto 6] := rfl
theorem zb_214_5 : zB 214 5 = [.iconst 1, .goto_w 6] := rfl
theorem zb_214_6 : zB 214 6 = [.iadd, .putfield 662, .aload 0, .iload 3, .invokeinterface 212 2, .iconst 0, .ireturn] := rfl
theorem zb_215_0 : zB 215 0 = [.aload 0, .getfield 655, .aload 0, .getfield 660, .iaload, .istore 1, .aload 0, .getfield 653, .aload 0, .getfield 660, .iaload, .aload 0, .getfield 654, .aload 0, .getfield 660, .iaload, .isub, .istore 2, .aload 0, .iload 1, .iconst 2, .invokeinterface 170 3, .iload 2, .if_icmp .ge 1, .aload 0, .iload 1, .iconst 2, .invokeinterface 170 3, .goto 2] := rfl
theorem zb_215_1 : zB 215 1 = [.iload 2, .goto_w 2] := rfl
theorem zb_215_2 : zB 215 2 = [.istore 3, .aload 0, .getfield 652, .aload 0, .getfield 660, .iaload, .aload 0, .getfield 654, .aload 0, .getfield 660, .iaload, .iadd, .istore 4, .aload 0, .getfield 659, .aload 0, .getfield 660, .iconst (-1), .iastore, .aload 0, .getfield 664, .iconst 200, .if_icmp .ge 3, .aload 0, .getfield 669, .iconst 4, .aload 0, .getfield 664, .imul, .iload 1, .iastore, .aload 0, .getfield 669, .iconst 4, .aload 0, .getfield 664, .imul, .iconst 1, .iadd, .iload 4, .iastore, .aload 0, .getfield 669, .iconst 4, .aload 0, .getfield 664, .imul, .iconst 2, .iadd, .iload 3, .iastore, .aload 0, .getfield 669, .iconst 4, .aload 0, .getfield 664, .imul, .iconst 3, .iadd, .iconst 0, .iastore, .aload 0, .getfield 659, .aload 0, .getfield 660, .aload 0, .getfield 664, .iastore, .aload 0, .dup, .getfield 664, .iconst 1, .iadd, .putfield 664, .goto_w 3] := rfl
theorem zb_215_3 : zB 215 3 = [.aload 0, .dup, .getfield 660, .iconst 1, .iadd, .putfield 660, .aload 0, .aload 0, .iload 1, .invokeinterface 172 2, .iload 4, .iload 3, .invokeinterface 210 4, .return_] := rfl
theorem zb_216_0 : zB 216 0 = [.aload 0, .getfield 654, .aload 0, .getfield 660, .iaload, .istore 1, .aload 0, .dup, .getfield 660, .iconst 1, .isub, .putfield 660, .aload 0, .getfield 654, .aload 0, .getfield 660, .dup2, .iaload, .iload 1, .iadd, .iastore, .aload 0, .getfield 657, .aload 0, .getfield 660, .dup2, .iaload, .iconst 1, .iadd, .iastore, .aload 0, .getfield 658, .aload 0, .getfield 660, .aload 0, .getfield 674, .bastore, .aload 0, .getfield 674, .ifCond .eq 1, .aload 0, .getfield 659, .aload 0, .getfield 660, .iaload, .iconst (-1), .if_icmp .eq 1, .aload 0, .getfield 669, .iconst 4, .aload 0, .getfield 659, .aload 0, .getfield 660, .iaload, .imul, .iconst 3, .iadd, .iconst 1, .iastore, .goto_w 1] := rfl
theorem zb_216_1 : zB 216 1 = [.return_] := rfl
theorem zb_217_0 : zB 217 0 = [.aload 0, .iconst 0, .putfield 662, .aload 0, .iconst 0, .putfield 663, .aload 0, .iconst 0, .putfield 664, .aload 0, .iconst (-1), .putfield 665, .aload 0, .iconst (-1), .putfield 666, .aload 0, .iconst 0, .putfield 667, .aload 0, .iconst 0, .putfield 660, .aload 0, .iload 1, .iconst 0, .iload 2, .invokeinterface 210 4, .aload 0, .invokeinterface 211 1, .istore 3, .iconst 0, .istore 4, .goto_w 1] := rfl
theorem zb_217_1 : zB 217 1 = [.iload 4, .ifCond .ne 7, .iload 3, .ifCond .eq 2, .aload 0, .invokeinterface 213 1, .goto 3] := rfl
theorem zb_217_2 : zB 217 2 = [.iconst 2, .goto_w 3] := rfl
theorem zb_217_3 : zB 217 3 = [.istore 5, .iload 5, .iconst 1, .if_icmp .ne 4, .aload 0, .invokeinterface 215 1, .aload 0, .invokeinterface 211 1, .istore 3, .goto 6] := rfl
theorem zb_217_4 : zB 217 4 = [.iload 5, .iconst 2, .if_icmp .ne 5, .aload 0, .getfield 660, .ifCond .ne 5, .iconst 1, .istore 4, .goto 6] := rfl
theorem zb_217_5 : zB 217 5 = [.iload 5, .iconst 2, .if_icmp .ne 6, .aload 0, .invokeinterface 216 1, .iconst 1, .istore 3, .goto_w 6] := rfl
theorem zb_217_6 : zB 217 6 = [.goto 1] := rfl
theorem zb_217_7 : zB 217 7 = [.aload 0, .aload 0, .getfield 654, .iconst 0, .iaload, .putfield 661, .aload 0, .getfield 674, .ireturn] := rfl
theorem zb_218_0 : zB 218 0 = [.aload 0, .iload 1, .invokeinterface 174 2, .ifCond .ne 3, .aload 0, .iconst 1, .invokeinterface 163 2, .ifCond .eq 1, .iconst 1, .goto 2] := rfl
theorem zb_218_1 : zB 218 1 = [.iconst 0, .goto_w 2] := rfl
theorem zb_218_2 : zB 218 2 = [.ireturn] := rfl
theorem zb_218_3 : zB 218 3 = [.iload 2, .iconst 0, .iconst 1000, .invokeinterface 162 3, .ifCond .ne 6, .aload 0, .iconst 2, .invokeinterface 163 2, .ifCond .eq 4, .iconst 1, .goto 5] := rfl
theorem zb_218_4 : zB 218 4 = [.iconst 0, .goto_w 5] := rfl
theorem zb_218_5 : zB 218 5 = [.ireturn] := rfl
theorem zb_218_6 : zB 218 6 = [.aload 0, .iconst 0, .putfield 646, .aload 0, .iload 1, .iload 2, .invokeinterface 217 3, .istore 3, .aload 0, .getfield 670, .iconst 0, .aload 0, .getfield 661, .iastore, .aload 0, .getfield 670, .iconst 1, .aload 0, .getfield 662, .iastore, .aload 0, .getfield 670, .iconst 2, .aload 0, .getfield 663, .iastore, .aload 0, .getfield 670, .iconst 3, .aload 0, .getfield 664, .iastore, .aload 0, .getfield 670, .iconst 4, .iload 3, .ifCond .eq 7, .iconst (-1), .goto 9] := rfl
theorem zb_218_7 : zB 218 7 = [.aload 0, .getfield 665, .iconst (-1), .if_icmp .ne 8, .aload 0, .getfield 666, .goto 9] := rfl
theorem zb_218_8 : zB 218 8 = [.aload 0, .getfield 665, .goto_w 9] := rfl
theorem zb_218_9 : zB 218 9 = [.iastore, .aload 0, .getfield 670, .iconst 5, .aload 0, .getfield 667, .iastore, .iconst 0, .istore 4, .goto_w 10] := rfl
theorem zb_218_10 : zB 218 10 = [.iload 4, .iconst 240, .if_icmp .ge 11, .aload 0, .getfield 671, .iload 4, .aload 0, .getfield 668, .iload 4, .iaload, .iastore, .iinc 4 1, .goto 10] := rfl
theorem zb_218_11 : zB 218 11 = [.iconst 0, .istore 4, .goto_w 12] := rfl
theorem zb_218_12 : zB 218 12 = [.iload 4, .iconst 800, .if_icmp .ge 13, .aload 0, .getfield 672, .iload 4, .aload 0, .getfield 669, .iload 4, .iaload, .iastore, .iinc 4 1, .goto 12] := rfl
theorem zb_218_13 : zB 218 13 = [.aload 0, .iconst 1, .putfield 673, .iload 3, .ireturn] := rfl
theorem zb_219_0 : zB 219 0 = [.iload 1, .iconst 0, .iconst 5, .invokeinterface 162 3, .ifCond .ne 1, .aload 0, .iconst 1, .invokeinterface 163 2, .ireturn] := rfl
theorem zb_219_1 : zB 219 1 = [.aload 0, .getfield 673, .ifCond .eq 2, .aload 0, .aload 0, .getfield 670, .iload 1, .iaload, .invokeinterface 164 2, .goto 3] := rfl
theorem zb_219_2 : zB 219 2 = [.aload 0, .iconst 2, .invokeinterface 163 2, .goto_w 3] := rfl
theorem zb_219_3 : zB 219 3 = [.ireturn] := rfl
theorem zb_220_0 : zB 220 0 = [.iload 2, .iconst 0, .iconst 3, .invokeinterface 162 3, .ifCond .ne 1, .aload 0, .iconst 1, .invokeinterface 163 2, .ireturn] := rfl
theorem zb_220_1 : zB 220 1 = [.aload 0, .aload 0, .getfield 673, .ifCond .eq 2, .iload 1, .iconst 0, .aload 0, .getfield 670, .iconst 2, .iaload, .iconst 1, .isub, .invokeinterface 162 3, .ifCond .eq 2, .aload 0, .getfield 671, .iconst 4, .iload 1, .imul, .iload 2, .iadd, .iaload, .goto 3] := rfl
theorem zb_220_2 : zB 220 2 = [.iconst (-1), .goto_w 3] := rfl
theorem zb_220_3 : zB 220 3 = [.invokeinterface 164 2, .ireturn] := rfl
theorem zb_221_0 : zB 221 0 = [.iload 2, .iconst 0, .iconst 3, .invokeinterface 162 3, .ifCond .ne 1, .aload 0, .iconst 1, .invokeinterface 163 2, .ireturn] := rfl
theorem zb_221_1 : zB 221 1 = [.aload 0, .aload 0, .getfield 673, .ifCond .eq 2, .iload 1, .iconst 0, .aload 0, .getfield 670, .iconst 3, .iaload, .iconst 1, .isub, .invokeinterface 162 3, .ifCond .eq 2, .aload 0, .getfield 672, .iconst 4, .iload 1, .imul, .iload 2, .iadd, .iaload, .goto 3] := rfl
theorem zb_221_2 : zB 221 2 = [.iconst (-1), .goto_w 3] := rfl
theorem zb_221_3 : zB 221 3 = [.invokeinterface 164 2, .ireturn] := rfl
theorem zb_222_0 : zB 222 0 = [.aload 0, .iload 1, .invokeinterface 174 2, .ifCond .ne 1, .aload 0, .iconst 1, .invokeinterface 163 2, .ireturn] := rfl
theorem zb_222_1 : zB 222 1 = [.iconst 0, .istore 2, .goto_w 2] := rfl
theorem zb_222_2 : zB 222 2 = [.iload 2, .iconst 1000, .if_icmp .gt 3, .aload 0, .iload 1, .iload 2, .invokeinterface 217 3, .ifCond .ne 3, .iinc 2 1, .goto 2] := rfl
theorem zb_222_3 : zB 222 3 = [.aload 0, .iload 2, .iconst 1000, .if_icmp .gt 4, .iload 2, .goto 5] := rfl
theorem zb_222_4 : zB 222 4 = [.iconst (-1), .goto_w 5] := rfl
theorem zb_222_5 : zB 222 5 = [.invokeinterface 164 2, .ireturn] := rfl
theorem zb_223_0 : zB 223 0 = [.aload 0, .iload 1, .invokeinterface 177 2, .istore 2, .iconst 0, .istore 3, .goto_w 1] := rfl
theorem zb_223_1 : zB 223 1 = [.iload 3, .aload 0, .getfield 640, .iconst 1, .iaload, .if_icmp .ge 5, .aload 0, .iload 3, .invokeinterface 171 2, .iload 1, .if_icmp .ne 4, .aload 0, .iload 3, .iconst 2, .invokeinterface 170 3, .istore 4, .iload 2, .aload 0, .iload 3, .iconst 3, .invokeinterface 170 3, .iload 4, .aload 0, .getfield 675, .aload 0, .iload 3, .invokeinterface 172 2, .iaload, .if_icmp .ge 2, .iload 4, .goto 3] := rfl
theorem zb_223_2 : zB 223 2 = [.aload 0, .getfield 675, .aload 0, .iload 3, .invokeinterface 172 2, .iaload, .goto_w 3] := rfl
theorem zb_223_3 : zB 223 3 = [.imul, .iadd, .istore 2, .goto_w 4] := rfl
theorem zb_223_4 : zB 223 4 = [.iinc 3 1, .goto 1] := rfl
theorem zb_223_5 : zB 223 5 = [.aload 0, .getfield 675, .iload 1, .iload 2, .iconst 100000, .if_icmp .ge 6, .iload 2, .goto 7] := rfl
theorem zb_223_6 : zB 223 6 = [.iconst 100000, .goto_w 7] := rfl
theorem zb_223_7 : zB 223 7 = [.iastore, .return_] := rfl
theorem zb_224_0 : zB 224 0 = [.aload 0, .invokeinterface 181 1, .iconst 0, .istore 1, .goto_w 1] := rfl
theorem zb_224_1 : zB 224 1 = [.iload 1, .aload 0, .getfield 640, .iconst 0, .iaload, .if_icmp .ge 2, .aload 0, .aload 0, .getfield 648, .iload 1, .iaload, .invokeinterface 223 2, .iinc 1 1, .goto 1] := rfl
theorem zb_224_2 : zB 224 2 = [.return_] := rfl
theorem zb_225_0 : zB 225 0 = [.aload 0, .iload 1, .invokeinterface 174 2, .ifCond .ne 1, .aload 0, .iconst 1, .invokeinterface 163 2, .ireturn] := rfl
theorem zb_225_1 : zB 225 1 = [.aload 0, .invokeinterface 224 1, .aload 0, .aload 0, .getfield 675, .iload 1, .iaload, .invokeinterface 164 2, .ireturn] := rfl
theorem zb_226_0 : zB 226 0 = [.aload 0, .invokeinterface 224 1, .iconst 0, .istore 1, .iconst 0, .istore 2, .goto_w 1] := rfl
theorem zb_226_1 : zB 226 1 = [.iload 2, .aload 0, .getfield 640, .iconst 1, .iaload, .if_icmp .ge 4, .iload 1, .aload 0, .iload 2, .iconst 2, .invokeinterface 170 3, .aload 0, .getfield 675, .aload 0, .iload 2, .invokeinterface 172 2, .iaload, .if_icmp .ge 2, .iconst 1, .goto 3] := rfl
theorem zb_226_2 : zB 226 2 = [.iconst 0, .goto_w 3] := rfl
theorem zb_226_3 : zB 226 3 = [.iadd, .istore 1, .iinc 2 1, .goto 1] := rfl
theorem zb_226_4 : zB 226 4 = [.iload 1, .ireturn] := rfl
theorem zb_227_0 : zB 227 0 = [.aload 0, .aload 0, .invokeinterface 226 1, .invokeinterface 164 2, .ireturn] := rfl
theorem zb_228_0 : zB 228 0 = [.aload 0, .invokeinterface 165 1, .aload 0, .invokeinterface 181 1, .iconst 0, .istore 1, .goto_w 1] := rfl
theorem zb_228_1 : zB 228 1 = [.iload 1, .aload 0, .getfield 640, .iconst 0, .iaload, .if_icmp .ge 7, .aload 0, .getfield 648, .iload 1, .iaload, .istore 2, .aload 0, .iload 2, .invokeinterface 223 2, .iconst 0, .istore 3, .goto_w 2] := rfl
theorem zb_228_2 : zB 228 2 = [.iload 3, .aload 0, .getfield 640, .iconst 1, .iaload, .if_icmp .ge 6, .aload 0, .iload 3, .invokeinterface 172 2, .iload 2, .if_icmp .ne 5, .aload 0, .getfield 640, .iconst 110, .iconst 5, .iload 3, .imul, .iadd, .iconst 2, .iadd, .aload 0, .getfield 675, .iload 2, .iaload, .iconst 500, .if_icmp .ge 3, .aload 0, .getfield 675, .iload 2, .iaload, .goto 4] := rfl
theorem zb_228_3 : zB 228 3 = [.iconst 500, .goto_w 4] := rfl
theorem zb_228_4 : zB 228 4 = [.iastore, .goto_w 5] := rfl
theorem zb_228_5 : zB 228 5 = [.iinc 3 1, .goto 2] := rfl
theorem zb_228_6 : zB 228 6 = [.iinc 1 1, .goto 1] := rfl
theorem zb_228_7 : zB 228 7 = [.iconst 0, .istore 1, .iconst 0, .istore 2, .goto_w 8] := rfl
theorem zb_228_8 : zB 228 8 = [.iload 2, .aload 0, .getfield 640, .iconst 1, .iaload, .if_icmp .ge 11, .iconst 110, .iconst 5, .iload 2, .imul, .iadd, .iconst 2, .iadd, .istore 3, .iload 1, .aload 0, .getfield 640, .iload 3, .iaload, .aload 0, .getfield 642, .iload 3, .iaload, .if_icmp .ne 9, .iconst 0, .goto 10] := rfl
theorem zb_228_9 : zB 228 9 = [.iconst 1, .goto_w 10] := rfl
theorem zb_228_10 : zB 228 10 = [.iadd, .istore 1, .iinc 2 1, .goto 8] := rfl
theorem zb_228_11 : zB 228 11 = [.aload 0, .iload 1, .invokeinterface 167 2, .ireturn] := rfl
theorem zb_229_0 : zB 229 0 = [.iconst 0, .istore 1, .iconst 0, .istore 2, .goto_w 1] := rfl
theorem zb_229_1 : zB 229 1 = [.iload 2, .aload 0, .getfield 640, .iconst 0, .iaload, .if_icmp .ge 4, .iload 1, .aload 0, .iload 2, .invokeinterface 176 2, .ifCond .eq 2, .iconst 0, .goto 3] := rfl
theorem zb_229_2 : zB 229 2 = [.iconst 1, .iload 2, .ishl, .goto_w 3] := rfl
theorem zb_229_3 : zB 229 3 = [.ior, .istore 1, .iinc 2 1, .goto 1] := rfl
theorem zb_229_4 : zB 229 4 = [.iload 1, .ireturn] := rfl
theorem zb_230_0 : zB 230 0 = [.iconst 0, .istore 3, .aload 0, .iload 1, .iconst (-1), .invokeinterface 178 3, .istore 4, .goto_w 1] := rfl
theorem zb_230_1 : zB 230 1 = [.iload 4, .aload 0, .getfield 640, .iconst 1, .iaload, .if_icmp .ge 13, .iload 2, .aload 0, .iload 4, .invokeinterface 172 2, .ishr, .iconst 1, .iand, .iconst 1, .if_icmp .ne 2, .iconst 1, .goto 3] := rfl
theorem zb_230_2 : zB 230 2 = [.iconst 0, .goto_w 3] := rfl
theorem zb_230_3 : zB 230 3 = [.istore 5, .aload 0, .iload 4, .iconst 4, .invokeinterface 170 3, .ifCond .ne 4, .iconst 1, .goto 5] := rfl
theorem zb_230_4 : zB 230 4 = [.iconst 0, .goto_w 5] := rfl
theorem zb_230_5 : zB 230 5 = [.istore 6, .aload 0, .iload 1, .iload 4, .invokeinterface 178 3, .istore 4, .goto_w 6] := rfl
theorem zb_230_6 : zB 230 6 = [.iload 4, .aload 0, .getfield 640, .iconst 1, .iaload, .if_icmp .ge 9, .aload 0, .iload 4, .invokeinterface 173 2, .ifCond .eq 9, .iload 5, .ifCond .eq 7, .iload 2, .aload 0, .iload 4, .invokeinterface 172 2, .ishr, .iconst 1, .iand, .iconst 1, .if_icmp .ne 7, .iconst 1, .goto 8] := rfl
theorem zb_230_7 : zB 230 7 = [.iconst 0, .goto_w 8] := rfl
theorem zb_230_8 : zB 230 8 = [.istore 5, .aload 0, .iload 1, .iload 4, .invokeinterface 178 3, .istore 4, .goto 6] := rfl
theorem zb_230_9 : zB 230 9 = [.iload 3, .ifCond .ne 10, .iload 6, .ifCond .eq 11, .iload 5, .ifCond .eq 11, .goto_w 10] := rfl
theorem zb_230_10 : zB 230 10 = [.iconst 1, .goto 12] := rfl
theorem zb_230_11 : zB 230 11 = [.iconst 0, .goto_w 12] := rfl
theorem zb_230_12 : zB 230 12 = [.istore 3, .goto 1] := rfl
theorem zb_230_13 : zB 230 13 = [.iload 3, .ireturn] := rfl
theorem zb_231_0 : zB 231 0 = [.aload 0, .invokeinterface 229 1, .istore 1, .iconst 0, .istore 2, .iconst 0, .istore 3, .goto_w 1] := rfl
theorem zb_231_1 : zB 231 1 = [.iload 3, .aload 0, .getfield 640, .iconst 0, .iaload, .if_icmp .ge 10, .aload 0, .iload 3, .iload 1, .invokeinterface 230 3, .istore 4, .iload 1, .iload 3, .ishr, .iconst 1, .iand, .ifCond .ne 6, .aload 0, .iload 3, .iconst 7, .invokeinterface 168 3, .istore 5, .aload 0, .iload 3, .iconst 7, .iload 4, .ifCond .eq 2, .iload 5, .iconst 1, .iadd, .goto 4] := rfl
theorem zb_231_2 : zB 231 2 = [.iload 5, .ifCond .le 3, .iload 5, .iconst 1, .isub, .goto 4] := rfl
theorem zb_231_3 : zB 231 3 = [.iconst 0, .goto_w 4] := rfl
theorem zb_231_4 : zB 231 4 = [.invokeinterface 169 4, .aload 0, .iload 3, .iconst 7, .invokeinterface 168 3, .aload 0, .iload 3, .iconst 2, .invokeinterface 168 3, .if_icmp .lt 5, .aload 0, .iload 3, .invokeinterface 189 2, .iload 2, .iconst 1, .iload 3, .ishl, .ior, .istore 2, .goto_w 5] := rfl
theorem zb_231_5 : zB 231 5 = [.goto 9] := rfl
theorem zb_231_6 : zB 231 6 = [.aload 0, .iload 3, .iconst 8, .invokeinterface 168 3, .iconst (-1), .if_icmp .eq 9, .aload 0, .iload 3, .iconst 8, .aload 0, .iload 3, .iconst 8, .invokeinterface 168 3, .ifCond .le 7, .aload 0, .iload 3, .iconst 8, .invokeinterface 168 3, .iconst 1, .isub, .goto 8] := rfl
theorem zb_231_7 : zB 231 7 = [.iconst 0, .goto_w 8] := rfl
theorem zb_231_8 : zB 231 8 = [.invokeinterface 169 4, .aload 0, .iload 3, .iconst 8, .invokeinterface 168 3, .ifCond .ne 9, .iload 4, .ifCond .ne 9, .aload 0, .iload 3, .iconst 6, .iconst 1, .invokeinterface 169 4, .aload 0, .iload 3, .iconst 7, .iconst 0, .invokeinterface 169 4, .aload 0, .iload 3, .iconst 8, .iconst (-1), .invokeinterface 169 4, .goto_w 9] := rfl
theorem zb_231_9 : zB 231 9 = [.iinc 3 1, .goto 1] := rfl
theorem zb_231_10 : zB 231 10 = [.iload 2, .ireturn] := rfl
theorem zb_232_0 : zB 232 0 = [.aload 0, .invokeinterface 165 1, .aload 0, .aload 0, .iload 1, .invokeinterface 188 2, .invokeinterface 192 2, .ireturn] := rfl
theorem zb_233_0 : zB 233 0 = [.aload 0, .invokeinterface 165 1, .aload 0, .aload 0, .iload 1, .invokeinterface 190 2, .invokeinterface 192 2, .ireturn] := rfl
theorem zb_234_0 : zB 234 0 = [.aload 0, .invokeinterface 165 1, .aload 0, .aload 0, .iload 1, .invokeinterface 191 2, .invokeinterface 192 2, .ireturn] := rfl
theorem zb_235_0 : zB 235 0 = [.aload 0, .aload 0, .invokeinterface 229 1, .invokeinterface 164 2, .ireturn] := rfl
theorem zb_236_0 : zB 236 0 = [.aload 0, .invokeinterface 165 1, .aload 0, .iload 1, .invokeinterface 189 2, .aload 0, .iconst (-1), .putfield 676, .iconst 1, .istore 2, .goto_w 1] := rfl
theorem zb_236_1 : zB 236 1 = [.iload 2, .iconst 40, .if_icmp .gt 4, .aload 0, .invokeinterface 231 1, .iconst 1, .iload 1, .ishl, .iconst (-1), .ixor, .iand, .istore 3, .aload 0, .aload 0, .getfield 676, .iconst (-1), .if_icmp .ne 2, .iload 3, .ifCond .eq 2, .iload 2, .goto 3] := rfl
theorem zb_236_2 : zB 236 2 = [.aload 0, .getfield 676, .goto_w 3] := rfl
theorem zb_236_3 : zB 236 3 = [.putfield 676, .iinc 2 1, .goto 1] := rfl
theorem zb_236_4 : zB 236 4 = [.aload 0, .invokeinterface 229 1, .istore 2, .aload 0, .invokeinterface 166 1, .iload 2, .ireturn] := rfl
theorem zb_237_0 : zB 237 0 = [.aload 0, .iload 1, .invokeinterface 174 2, .ifCond .ne 1, .aload 0, .iconst 1, .invokeinterface 163 2, .ireturn] := rfl
theorem zb_237_1 : zB 237 1 = [.aload 0, .iload 1, .invokeinterface 176 2, .ifCond .eq 2, .aload 0, .aload 0, .iload 1, .invokeinterface 236 2, .invokeinterface 164 2, .goto 3] := rfl
theorem zb_237_2 : zB 237 2 = [.aload 0, .iconst 2, .invokeinterface 163 2, .goto_w 3] := rfl
theorem zb_237_3 : zB 237 3 = [.ireturn] := rfl
theorem zb_238_0 : zB 238 0 = [.aload 0, .iload 1, .invokeinterface 174 2, .ifCond .ne 1, .aload 0, .iconst 1, .invokeinterface 163 2, .ireturn] := rfl
theorem zb_238_1 : zB 238 1 = [.aload 0, .iload 1, .invokeinterface 176 2, .ifCond .ne 2, .aload 0, .iconst 2, .invokeinterface 163 2, .ireturn] := rfl
theorem zb_238_2 : zB 238 2 = [.aload 0, .iload 1, .invokeinterface 236 2, .istore 2, .aload 0, .iload 2, .ifCond .ne 3, .iconst (-1), .goto 4] := rfl
theorem zb_238_3 : zB 238 3 = [.aload 0, .getfield 676, .goto_w 4] := rfl
theorem zb_238_4 : zB 238 4 = [.invokeinterface 164 2, .ireturn] := rfl
theorem zb_239_0 : zB 239 0 = [.iconst (-1), .istore 3, .iconst 0, .istore 4, .goto_w 1] := rfl
theorem zb_239_1 : zB 239 1 = [.iload 4, .aload 0, .getfield 640, .iconst 0, .iaload, .if_icmp .ge 7, .iload 1, .iload 4, .ishr, .iconst 1, .iand, .iconst 1, .if_icmp .ne 2, .aload 0, .getfield 677, .iload 4, .iaload, .iconst (-1), .if_icmp .ne 2, .aload 0, .getfield 647, .iload 4, .iaload, .iload 1, .iand, .iload 2, .iconst (-1), .ixor, .iand, .ifCond .ne 2, .iconst 1, .goto 3] := rfl
theorem zb_239_2 : zB 239 2 = [.iconst 0, .goto_w 3] := rfl
theorem zb_239_3 : zB 239 3 = [.istore 5, .iload 5, .ifCond .eq 5, .iload 3, .iconst (-1), .if_icmp .eq 4, .aload 0, .iload 4, .iconst 4, .invokeinterface 168 3, .aload 0, .iload 3, .iconst 4, .invokeinterface 168 3, .if_icmp .le 5, .goto_w 4] := rfl
theorem zb_239_4 : zB 239 4 = [.iload 4, .goto 6] := rfl
theorem zb_239_5 : zB 239 5 = [.iload 3, .goto_w 6] := rfl
theorem zb_239_6 : zB 239 6 = [.istore 3, .iinc 4 1, .goto 1] := rfl
theorem zb_239_7 : zB 239 7 = [.iload 3, .ireturn] := rfl
theorem zb_240_0 : zB 240 0 = [.aload 0, .invokeinterface 180 1, .aload 0, .invokeinterface 229 1, .istore 2, .iconst 0, .istore 3, .iconst 0, .istore 4, .goto_w 1] := rfl
theorem zb_240_1 : zB 240 1 = [.iload 4, .iconst 12, .if_icmp .ge 2, .aload 0, .getfield 677, .iload 4, .iconst (-1), .iastore, .iinc 4 1, .goto 1] := rfl
theorem zb_240_2 : zB 240 2 = [.iconst 0, .istore 4, .goto_w 3] := rfl
theorem zb_240_3 : zB 240 3 = [.iload 3, .iload 2, .if_icmp .eq 17, .iload 1, .istore 5, .iconst 0, .istore 6, .goto_w 4] := rfl
theorem zb_240_4 : zB 240 4 = [.iload 6, .aload 0, .getfield 640, .iconst 0, .iaload, .if_icmp .ge 12, .aload 0, .getfield 677, .iload 6, .iaload, .iconst (-1), .if_icmp .eq 11, .iload 3, .iload 6, .ishr, .iconst 1, .iand, .ifCond .ne 11, .aload 0, .getfield 677, .iload 6, .iaload, .aload 0, .iload 6, .iconst 3, .invokeinterface 168 3, .iadd, .iload 4, .if_icmp .gt 5, .iconst 1, .goto 6] := rfl
theorem zb_240_5 : zB 240 5 = [.iconst 0, .goto_w 6] := rfl
theorem zb_240_6 : zB 240 6 = [.istore 7, .iload 3, .iload 7, .ifCond .eq 7, .iconst 1, .iload 6, .ishl, .goto 8] := rfl
theorem zb_240_7 : zB 240 7 = [.iconst 0, .goto_w 8] := rfl
theorem zb_240_8 : zB 240 8 = [.ior, .istore 3, .iload 5, .iload 7, .ifCond .eq 9, .iconst 0, .goto 10] := rfl
theorem zb_240_9 : zB 240 9 = [.iconst 1, .goto_w 10] := rfl
theorem zb_240_10 : zB 240 10 = [.isub, .istore 5, .goto_w 11] := rfl
theorem zb_240_11 : zB 240 11 = [.iinc 6 1, .goto 4] := rfl
theorem zb_240_12 : zB 240 12 = [.aload 0, .iload 2, .iload 3, .invokeinterface 239 3, .istore 6, .goto_w 13] := rfl
theorem zb_240_13 : zB 240 13 = [.iload 5, .ifCond .le 14, .iload 6, .iconst (-1), .if_icmp .eq 14, .aload 0, .getfield 677, .iload 6, .iload 4, .iastore, .iinc 5 (-1), .aload 0, .iload 2, .iload 3, .invokeinterface 239 3, .istore 6, .goto 13] := rfl
theorem zb_240_14 : zB 240 14 = [.iload 4, .iload 3, .iload 2, .if_icmp .ne 15, .iconst 0, .goto 16] := rfl
theorem zb_240_15 : zB 240 15 = [.iconst 1, .goto_w 16] := rfl
theorem zb_240_16 : zB 240 16 = [.iadd, .istore 4, .goto 3] := rfl
theorem zb_240_17 : zB 240 17 = [.iload 4, .ireturn] := rfl
theorem zb_241_0 : zB 241 0 = [.iload 1, .iconst 1, .iconst 4, .invokeinterface 162 3, .ifCond .eq 1, .aload 0, .aload 0, .iload 1, .invokeinterface 240 2, .invokeinterface 164 2, .goto 2] := rfl
theorem zb_241_1 : zB 241 1 = [.aload 0, .iconst 1, .invokeinterface 163 2, .goto_w 2] := rfl
theorem zb_241_2 : zB 241 2 = [.ireturn] := rfl
theorem zb_242_0 : zB 242 0 = [.iload 1, .iconst 1, .iconst 4, .invokeinterface 162 3, .ifCond .ne 1, .aload 0, .iconst 1, .invokeinterface 163 2, .ireturn] := rfl
theorem zb_242_1 : zB 242 1 = [.aload 0, .iload 2, .invokeinterface 174 2, .ifCond .ne 2, .aload 0, .iconst 2, .invokeinterface 163 2, .ireturn] := rfl
theorem zb_242_2 : zB 242 2 = [.aload 0, .iload 1, .invokeinterface 240 2, .istore 3, .aload 0, .iload 3, .ifCond .ge 3, .iconst (-1), .goto 4] := rfl
theorem zb_242_3 : zB 242 3 = [.aload 0, .getfield 677, .iload 2, .iaload, .goto_w 4] := rfl
theorem zb_242_4 : zB 242 4 = [.invokeinterface 164 2, .ireturn] := rfl
theorem zb_243_0 : zB 243 0 = [.iconst 0, .istore 2, .iconst 0, .istore 3, .goto_w 1] := rfl
theorem zb_243_1 : zB 243 1 = [.iload 3, .aload 0, .getfield 640, .iconst 0, .iaload, .if_icmp .ge 4, .iload 2, .iload 1, .iload 3, .ishr, .iconst 1, .iand, .iconst 1, .if_icmp .ne 2, .aload 0, .iload 3, .iconst 3, .invokeinterface 168 3, .goto 3] := rfl
theorem zb_243_2 : zB 243 2 = [.iconst 0, .goto_w 3] := rfl
theorem zb_243_3 : zB 243 3 = [.iadd, .istore 2, .iinc 3 1, .goto 1] := rfl
theorem zb_243_4 : zB 243 4 = [.iload 2, .ireturn] := rfl
theorem zb_244_0 : zB 244 0 = [.iload 2, .iload 3, .iconst (-1), .ixor, .iand, .iload 1, .ishr, .iconst 1, .iand, .iconst 1, .if_icmp .ne 1, .aload 0, .getfield 647, .iload 1, .iaload, .iload 2, .iand, .iload 3, .iconst (-1), .ixor, .iand, .ifCond .ne 1, .iconst 1, .goto 2] := rfl
theorem zb_244_1 : zB 244 1 = [.iconst 0, .goto_w 2] := rfl
theorem zb_244_2 : zB 244 2 = [.istore 4, .iload 4, .ifCond .eq 3, .aload 0, .iload 1, .iconst 4, .invokeinterface 168 3, .aload 0, .iload 3, .invokeinterface 243 2, .aload 0, .iload 1, .iconst 3, .invokeinterface 168 3, .iadd, .imul, .aload 0, .getfield 678, .iload 3, .iconst 1, .iload 1, .ishl, .ior, .iaload, .iadd, .goto 4] := rfl
theorem zb_244_3 : zB 244 3 = [.iconst 100000000, .goto_w 4] := rfl
theorem zb_244_4 : zB 244 4 = [.ireturn] := rfl
theorem zb_245_0 : zB 245 0 = [.aload 0, .invokeinterface 180 1, .aload 0, .invokeinterface 229 1, .istore 1, .iload 1, .istore 2, .goto_w 1] := rfl
theorem zb_245_1 : zB 245 1 = [.iload 2, .ifCond .lt 9, .iload 2, .iload 1, .iconst (-1), .ixor, .iand, .ifCond .ne 8, .iload 2, .iload 1, .if_icmp .ne 2, .iconst 0, .goto 3] := rfl
theorem zb_245_2 : zB 245 2 = [.iconst 100000000, .goto_w 3] := rfl
theorem zb_245_3 : zB 245 3 = [.istore 3, .iconst 0, .istore 4, .goto_w 4] := rfl
theorem zb_245_4 : zB 245 4 = [.iload 4, .aload 0, .getfield 640, .iconst 0, .iaload, .if_icmp .ge 7, .aload 0, .iload 4, .iload 1, .iload 2, .invokeinterface 244 4, .istore 5, .iload 5, .iload 3, .if_icmp .ge 5, .iload 5, .goto 6] := rfl
theorem zb_245_5 : zB 245 5 = [.iload 3, .goto_w 6] := rfl
theorem zb_245_6 : zB 245 6 = [.istore 3, .iinc 4 1, .goto 4] := rfl
theorem zb_245_7 : zB 245 7 = [.aload 0, .getfield 678, .iload 2, .iload 3, .iastore, .goto_w 8] := rfl
theorem zb_245_8 : zB 245 8 = [.iinc 2 (-1), .goto 1] := rfl
theorem zb_245_9 : zB 245 9 = [.aload 0, .getfield 678, .iconst 0, .iaload, .ireturn] := rfl
theorem zb_246_0 : zB 246 0 = [.aload 0, .aload 0, .invokeinterface 245 1, .invokeinterface 164 2, .ireturn] := rfl
theorem zb_247_0 : zB 247 0 = [.aload 0, .invokeinterface 245 1, .istore 2, .aload 0, .invokeinterface 229 1, .istore 3, .iconst 0, .istore 4, .iload 1, .istore 5, .iconst (-1), .istore 6, .goto_w 1] := rfl
theorem zb_247_1 : zB 247 1 = [.iload 4, .iload 3, .if_icmp .eq 6, .iload 5, .ifCond .lt 6, .iload 2, .ifCond .lt 6, .iconst 0, .istore 7, .goto_w 2] := rfl
theorem zb_247_2 : zB 247 2 = [.aload 0, .iload 7, .iload 3, .iload 4, .invokeinterface 244 4, .aload 0, .getfield 678, .iload 4, .iaload, .if_icmp .eq 3, .iinc 7 1, .goto 2] := rfl
theorem zb_247_3 : zB 247 3 = [.iload 5, .ifCond .ne 4, .iload 7, .goto 5] := rfl
theorem zb_247_4 : zB 247 4 = [.iload 6, .goto_w 5] := rfl
theorem zb_247_5 : zB 247 5 = [.istore 6, .iinc 5 (-1), .iload 4, .iconst 1, .iload 7, .ishl, .ior, .istore 4, .goto 1] := rfl
theorem zb_247_6 : zB 247 6 = [.aload 0, .iload 6, .invokeinterface 164 2, .ireturn] := rfl
theorem zb_248_0 : zB 248 0 = [.iload 1, .istore 2, .iconst 0, .istore 3, .goto_w 1] := rfl
theorem zb_248_1 : zB 248 1 = [.iload 3, .aload 0, .getfield 640, .iconst 0, .iaload, .if_icmp .ge 4, .iload 2, .aload 0, .aload 0, .getfield 648, .iload 3, .iaload, .iload 2, .invokeinterface 230 3, .ifCond .eq 2, .iconst 1, .aload 0, .getfield 648, .iload 3, .iaload, .ishl, .goto 3] := rfl
theorem zb_248_2 : zB 248 2 = [.iconst 0, .goto_w 3] := rfl
theorem zb_248_3 : zB 248 3 = [.ior, .istore 2, .iinc 3 1, .goto 1] := rfl
theorem zb_248_4 : zB 248 4 = [.iload 2, .ireturn] := rfl
theorem zb_249_0 : zB 249 0 = [.aload 0, .iload 1, .invokeinterface 174 2, .ifCond .ne 3, .aload 0, .iconst 1, .invokeinterface 163 2, .ifCond .eq 1, .iconst 1, .goto 2] := rfl
theorem zb_249_1 : zB 249 1 = [.iconst 0, .goto_w 2] := rfl
theorem zb_249_2 : zB 249 2 = [.ireturn] := rfl
theorem zb_249_3 : zB 249 3 = [.iload 2, .ifCond .lt 4, .iload 2, .iconst 1, .aload 0, .getfield 640, .iconst 0, .iaload, .ishl, .if_icmp .lt 7, .goto_w 4] := rfl
theorem zb_249_4 : zB 249 4 = [.aload 0, .iconst 2, .invokeinterface 163 2, .ifCond .eq 5, .iconst 1, .goto 6] := rfl
theorem zb_249_5 : zB 249 5 = [.iconst 0, .goto_w 6] := rfl
theorem zb_249_6 : zB 249 6 = [.ireturn] := rfl
theorem zb_249_7 : zB 249 7 = [.aload 0, .iconst 0, .putfield 646, .aload 0, .invokeinterface 181 1, .aload 0, .iload 2, .invokeinterface 248 2, .iload 1, .ishr, .iconst 1, .iand, .iconst 1, .if_icmp .ne 8, .iconst 1, .goto 9] := rfl
theorem zb_249_8 : zB 249 8 = [.iconst 0, .goto_w 9] := rfl
theorem zb_249_9 : zB 249 9 = [.ireturn] := rfl
theorem zb_250_0 : zB 250 0 = [.aload 0, .invokeinterface 181 1, .iconst 0, .istore 2, .goto_w 1] := rfl
theorem zb_250_1 : zB 250 1 = [.iload 2, .iconst 1, .aload 0, .getfield 640, .iconst 0, .iaload, .ishl, .if_icmp .ge 4, .aload 0, .getfield 679, .iload 2, .aload 0, .iload 2, .invokeinterface 248 2, .iload 1, .ishr, .iconst 1, .iand, .iconst 1, .if_icmp .ne 2, .iconst 1, .goto 3] := rfl
theorem zb_250_2 : zB 250 2 = [.iconst 0, .goto_w 3] := rfl
theorem zb_250_3 : zB 250 3 = [.bastore, .iinc 2 1, .goto 1] := rfl
theorem zb_250_4 : zB 250 4 = [.return_] := rfl
theorem zb_251_0 : zB 251 0 = [.iconst 0, .istore 1, .iconst 0, .istore 2, .goto_w 1] := rfl
theorem zb_251_1 : zB 251 1 = [.iload 2, .iconst 12, .if_icmp .ge 2, .iload 1, .iload 0, .iload 2, .ishr, .iconst 1, .iand, .iadd, .istore 1, .iinc 2 1, .goto 1] := rfl
theorem zb_251_2 : zB 251 2 = [.iload 1, .ireturn] := rfl
theorem zb_252_0 : zB 252 0 = [.aload 0, .getfield 679, .iload 1, .baload, .istore 2, .iconst 0, .istore 3, .goto_w 1] := rfl
theorem zb_252_1 : zB 252 1 = [.iload 3, .iconst 12, .if_icmp .ge 5, .iload 2, .ifCond .eq 5, .iload 1, .iload 3, .ishr, .iconst 1, .iand, .ifCond .eq 2, .aload 0, .getfield 679, .iload 1, .iconst 1, .iload 3, .ishl, .iconst (-1), .ixor, .iand, .baload, .ifCond .ne 3, .goto_w 2] := rfl
theorem zb_252_2 : zB 252 2 = [.iconst 1, .goto 4] := rfl
theorem zb_252_3 : zB 252 3 = [.iconst 0, .goto_w 4] := rfl
theorem zb_252_4 : zB 252 4 = [.istore 2, .iinc 3 1, .goto 1] := rfl
theorem zb_252_5 : zB 252 5 = [.iload 2, .ireturn] := rfl
theorem zb_253_0 : zB 253 0 = [.aload 0, .iload 1, .invokeinterface 250 2, .iconst 0, .istore 4, .iconst (-1), .istore 5, .iconst 0, .istore 6, .goto_w 1] := rfl
theorem zb_253_1 : zB 253 1 = [.iload 6, .iconst 1, .aload 0, .getfield 640, .iconst 0, .iaload, .ishl, .if_icmp .ge 5, .iload 6, .invokeinterface 251 1, .iload 2, .if_icmp .ne 4, .aload 0, .iload 6, .invokeinterface 252 2, .ifCond .eq 4, .iload 4, .iload 3, .if_icmp .ne 2, .iload 6, .goto 3] := rfl
theorem zb_253_2 : zB 253 2 = [.iload 5, .goto_w 3] := rfl
theorem zb_253_3 : zB 253 3 = [.istore 5, .iinc 4 1, .goto_w 4] := rfl
theorem zb_253_4 : zB 253 4 = [.iinc 6 1, .goto 1] := rfl
theorem zb_253_5 : zB 253 5 = [.iload 3, .ifCond .ge 6, .iload 4, .goto 7] := rfl
theorem zb_253_6 : zB 253 6 = [.iload 5, .goto_w 7] := rfl
theorem zb_253_7 : zB 253 7 = [.ireturn] := rfl
theorem zb_254_0 : zB 254 0 = [.aload 0, .iload 1, .invokeinterface 174 2, .ifCond .ne 1, .aload 0, .iconst 1, .invokeinterface 163 2, .ireturn] := rfl
theorem zb_254_1 : zB 254 1 = [.iload 2, .iconst 1, .iconst 12, .invokeinterface 162 3, .ifCond .eq 2, .aload 0, .aload 0, .iload 1, .iload 2, .iconst (-1), .invokeinterface 253 4, .invokeinterface 164 2, .goto 3] := rfl
theorem zb_254_2 : zB 254 2 = [.aload 0, .iconst 2, .invokeinterface 163 2, .goto_w 3] := rfl
theorem zb_254_3 : zB 254 3 = [.ireturn] := rfl
theorem zb_255_0 : zB 255 0 = [.aload 0, .iload 1, .invokeinterface 174 2, .ifCond .ne 1, .aload 0, .iconst 1, .invokeinterface 163 2, .ireturn] := rfl
theorem zb_255_1 : zB 255 1 = [.iload 2, .iconst 1, .iconst 12, .invokeinterface 162 3, .ifCond .ne 2, .aload 0, .iconst 2, .invokeinterface 163 2, .ireturn] := rfl
theorem zb_255_2 : zB 255 2 = [.aload 0, .iload 3, .ifCond .ge 3, .iconst (-1), .goto 4] := rfl
theorem zb_255_3 : zB 255 3 = [.aload 0, .iload 1, .iload 2, .iload 3, .invokeinterface 253 4, .goto_w 4] := rfl
theorem zb_255_4 : zB 255 4 = [.invokeinterface 164 2, .ireturn] := rfl
theorem zb_256_0 : zB 256 0 = [.jsr 0, .dstore 2, .iconst 0, .istore 4, .goto_w 1] := rfl
theorem zb_256_1 : zB 256 1 = [.iload 4, .iconst 1, .aload 0, .getfield 640, .iconst 0, .iaload, .ishl, .if_icmp .ge 9, .aload 0, .getfield 679, .iload 4, .baload, .ifCond .ne 8, .jsr 4607182418800017408, .dstore 5, .iconst 0, .istore 7, .goto_w 2] := rfl
theorem zb_256_2 : zB 256 2 = [.iload 7, .aload 0, .getfield 640, .iconst 0, .iaload, .if_icmp .ge 7, .iload 7, .iload 1, .if_icmp .ne 3, .iconst 1000, .goto 4] := rfl
theorem zb_256_3 : zB 256 3 = [.aload 0, .iload 7, .iconst 5, .invokeinterface 168 3, .goto_w 4] := rfl
theorem zb_256_4 : zB 256 4 = [.istore 8, .dload 5, .iload 4, .iload 7, .ishr, .iconst 1, .iand, .ifCond .ne 5, .iload 8, .i2d, .jsr 4652007308841189376, .ddiv, .goto 6] := rfl
theorem zb_256_5 : zB 256 5 = [.iconst 1000, .iload 8, .isub, .i2d, .jsr 4652007308841189376, .ddiv, .goto_w 6] := rfl
theorem zb_256_6 : zB 256 6 = [.dmul, .dstore 5, .iinc 7 1, .goto 2] := rfl
theorem zb_256_7 : zB 256 7 = [.dload 2, .dload 5, .dadd, .dstore 2, .goto_w 8] := rfl
theorem zb_256_8 : zB 256 8 = [.iinc 4 1, .goto 1] := rfl
theorem zb_256_9 : zB 256 9 = [.dload 2, .dreturn] := rfl
theorem zb_257_0 : zB 257 0 = [.aload 0, .iload 1, .invokeinterface 174 2, .ifCond .ne 1, .aload 0, .iconst 1, .invokeinterface 163 2, .ireturn] := rfl
theorem zb_257_1 : zB 257 1 = [.aload 0, .iload 1, .invokeinterface 250 2, .aload 0, .aload 0, .iconst (-1), .invokeinterface 256 2, .d2f, .invokeinterface 303 1, .invokeinterface 164 2, .ireturn] := rfl
theorem zb_258_0 : zB 258 0 = [.aload 0, .iload 1, .invokeinterface 174 2, .ifCond .ne 1, .aload 0, .iconst 1, .invokeinterface 163 2, .ireturn] := rfl
theorem zb_258_1 : zB 258 1 = [.aload 0, .iload 1, .invokeinterface 250 2, .iconst (-1), .istore 2, .jsr 0, .dstore 3, .iconst 0, .istore 5, .goto_w 2] := rfl
theorem zb_258_2 : zB 258 2 = [.iload 5, .aload 0, .getfield 640, .iconst 0, .iaload, .if_icmp .ge 5, .aload 0, .iload 5, .invokeinterface 256 2, .dstore 6, .iload 2, .iconst (-1), .if_icmp .eq 3, .dload 6, .dload 3, .dcmp .l, .ifCond .le 4, .goto_w 3] := rfl
theorem zb_258_3 : zB 258 3 = [.iload 5, .istore 2, .dload 6, .dstore 3, .goto_w 4] := rfl
theorem zb_258_4 : zB 258 4 = [.iinc 5 1, .goto 2] := rfl
theorem zb_258_5 : zB 258 5 = [.aload 0, .iload 2, .invokeinterface 164 2, .ireturn] := rfl
theorem zb_259_0 : zB 259 0 = [.iload 1, .iconst 0, .iconst 127, .invokeinterface 162 3, .ifCond .ne 1, .aload 0, .iconst 1, .invokeinterface 163 2, .ireturn] := rfl
theorem zb_259_1 : zB 259 1 = [.aload 0, .getfield 645, .iconst 120, .if_icmp .ne 2, .aload 0, .iconst 2, .invokeinterface 163 2, .ireturn] := rfl
theorem zb_259_2 : zB 259 2 = [.aload 0, .getfield 644, .aload 0, .getfield 645, .iload 1, .iastore, .aload 0, .dup, .getfield 645, .iconst 1, .iadd, .putfield 645, .aload 0, .aload 0, .getfield 645, .invokeinterface 164 2, .ireturn] := rfl
theorem zb_260_0 : zB 260 0 = [.aload 0, .getfield 645, .istore 1, .aload 0, .iconst 0, .putfield 645, .aload 0, .iload 1, .invokeinterface 164 2, .ireturn] := rfl
theorem zb_261_0 : zB 261 0 = [.aload 0, .getfield 680, .aload 0, .getfield 645, .if_icmp .ge 1, .aload 0, .getfield 644, .aload 0, .getfield 680, .iaload, .iload 1, .iload 2, .invokeinterface 162 3, .ifCond .eq 1, .iconst 1, .goto 2] := rfl
theorem zb_261_1 : zB 261 1 = [.iconst 0, .goto_w 2] := rfl
theorem zb_261_2 : zB 261 2 = [.ireturn] := rfl
theorem zb_262_0 : zB 262 0 = [.iload 0, .lookupswitch 4 #[(97, 1), (98, 4), (99, 2), (100, 1), (101, 4), (102, 4), (103, 4), (104, 4), (105, 4), (106, 4), (107, 4), (108, 4), (109, 4), (110, 4), (111, 4), (112, 3), (113, 4), (114, 1), (115, 1)]] := rfl
theorem zb_262_1 : zB 262 1 = [.iconst 1, .ireturn] := rfl
theorem zb_262_2 : zB 262 2 = [.iconst 5, .ireturn] := rfl
theorem zb_262_3 : zB 262 3 = [.iconst 3, .ireturn] := rfl
theorem zb_262_4 : zB 262 4 = [.iconst 0, .ireturn] := rfl
theorem zb_263_0 : zB 263 0 = [.aload 0, .getfield 680, .istore 2, .aload 0, .getfield 682, .iload 1, .iconst 0, .iastore, .goto_w 1] := rfl
theorem zb_263_1 : zB 263 1 = [.aload 0, .iconst 48, .iconst 57, .invokeinterface 261 3, .ifCond .eq 2, .aload 0, .getfield 680, .iload 2, .isub, .iconst 3, .if_icmp .ge 2, .aload 0, .getfield 682, .iload 1, .iconst 10, .aload 0, .getfield 682, .iload 1, .iaload, .imul, .aload 0, .getfield 644, .aload 0, .getfield 680, .iaload, .iadd, .iconst 48, .isub, .iastore, .aload 0, .dup, .getfield 680, .iconst 1, .iadd, .putfield 680, .goto 1] := rfl
theorem zb_263_2 : zB 263 2 = [.aload 0, .getfield 680, .iload 2, .if_icmp .le 3, .iconst 1, .goto 4] := rfl
theorem zb_263_3 : zB 263 3 = [.iconst 0, .goto_w 4] := rfl
theorem zb_263_4 : zB 263 4 = [.ireturn] := rfl
theorem zb_264_0 : zB 264 0 = [.aload 0, .aload 0, .getfield 644, .aload 0, .getfield 680, .iaload, .putfield 681, .aload 0, .getfield 681, .invokeinterface 262 1, .istore 1, .iload 1, .ifCond .ne 1, .iconst 0, .ireturn] := rfl
theorem zb_264_1 : zB 264 1 = [.aload 0, .dup, .getfield 680, .iconst 1, .iadd, .putfield 680, .iconst 0, .istore 2, .goto_w 2] := rfl
theorem zb_264_2 : zB 264 2 = [.iload 2, .iload 1, .if_icmp .ge 9, .aload 0, .iload 2, .invokeinterface 263 2, .ifCond .eq 7, .aload 0, .iload 2, .iload 1, .iconst 1, .isub, .if_icmp .ge 3, .iconst 44, .goto 4] := rfl
theorem zb_264_3 : zB 264 3 = [.iconst 59, .goto_w 4] := rfl
theorem zb_264_4 : zB 264 4 = [.iload 2, .iload 1, .iconst 1, .isub, .if_icmp .ge 5, .iconst 44, .goto 6] := rfl
theorem zb_264_5 : zB 264 5 = [.iconst 59, .goto_w 6] := rfl
theorem zb_264_6 : zB 264 6 = [.invokeinterface 261 3, .ifCond .ne 8, .goto_w 7] := rfl
theorem zb_264_7 : zB 264 7 = [.iconst 0, .ireturn] := rfl
theorem zb_264_8 : zB 264 8 = [.aload 0, .dup, .getfield 680, .iconst 1, .iadd, .putfield 680, .iinc 2 1, .goto 2] := rfl
theorem zb_264_9 : zB 264 9 = [.iconst 1, .ireturn] := rfl
theorem zb_265_0 : zB 265 0 = [.aload 0, .getfield 681, .lookupswitch 6 #[(97, 1), (99, 2), (100, 3), (114, 4), (115, 5)]] := rfl
theorem zb_265_1 : zB 265 1 = [.aload 0, .aload 0, .getfield 682, .iconst 0, .iaload, .invokeinterface 183 2, .ireturn] := rfl
theorem zb_265_2 : zB 265 2 = [.aload 0, .aload 0, .getfield 682, .iconst 0, .iaload, .aload 0, .getfield 682, .iconst 1, .iaload, .aload 0, .getfield 682, .iconst 2, .iaload, .aload 0, .getfield 682, .iconst 3, .iaload, .aload 0, .getfield 682, .iconst 4, .iaload, .invokeinterface 184 6, .ireturn] := rfl
theorem zb_265_3 : zB 265 3 = [.aload 0, .aload 0, .getfield 682, .iconst 0, .iaload, .invokeinterface 188 2, .ireturn] := rfl
theorem zb_265_4 : zB 265 4 = [.aload 0, .aload 0, .getfield 682, .iconst 0, .iaload, .invokeinterface 190 2, .ireturn] := rfl
theorem zb_265_5 : zB 265 5 = [.aload 0, .aload 0, .getfield 682, .iconst 0, .iaload, .invokeinterface 191 2, .ireturn] := rfl
theorem zb_265_6 : zB 265 6 = [.aload 0, .aload 0, .getfield 682, .iconst 0, .iaload, .aload 0, .getfield 682, .iconst 1, .iaload, .aload 0, .getfield 682, .iconst 2, .iaload, .invokeinterface 186 4, .ireturn] := rfl
theorem zb_266_0 : zB 266 0 = [.aload 0, .iconst 0, .putfield 646, .aload 0, .iconst 0, .putfield 680, .goto_w 1] := rfl
theorem zb_266_1 : zB 266 1 = [.aload 0, .getfield 680, .aload 0, .getfield 645, .if_icmp .ge 2, .aload 0, .invokeinterface 264 1, .ifCond .ne 1, .iconst (-10), .aload 0, .getfield 680, .isub, .ireturn] := rfl
theorem zb_266_2 : zB 266 2 = [.aload 0, .invokeinterface 165 1, .aload 0, .iconst 0, .putfield 680, .iconst 0, .istore 1, .goto_w 3] := rfl
theorem zb_266_3 : zB 266 3 = [.aload 0, .getfield 680, .aload 0, .getfield 645, .if_icmp .ge 7, .aload 0, .invokeinterface 264 1, .ifCond .eq 4, .aload 0, .invokeinterface 265 1, .ifCond .ne 4, .iconst 1, .goto 5] := rfl
theorem zb_266_4 : zB 266 4 = [.iconst 0, .goto_w 5] := rfl
theorem zb_266_5 : zB 266 5 = [.istore 2, .iload 2, .ifCond .ne 6, .aload 0, .invokeinterface 166 1, .iconst (-1000), .iload 1, .isub, .ireturn] := rfl
theorem zb_266_6 : zB 266 6 = [.iinc 1 1, .goto 3] := rfl
theorem zb_266_7 : zB 266 7 = [.aload 0, .iload 1, .invokeinterface 167 2, .ireturn] := rfl
theorem zb_267_0 : zB 267 0 = [.aload 0, .getfield 643, .ifCond .ne 1, .aload 0, .iconst 1, .invokeinterface 163 2, .ireturn] := rfl
theorem zb_267_1 : zB 267 1 = [.aload 0, .dup, .getfield 643, .iconst 1, .isub, .putfield 643, .iconst 0, .istore 1, .goto_w 2] := rfl
theorem zb_267_2 : zB 267 2 = [.iload 1, .iconst 230, .if_icmp .ge 3, .aload 0, .getfield 640, .iload 1, .aload 0, .getfield 641, .iconst 230, .aload 0, .getfield 643, .imul, .iload 1, .iadd, .iaload, .iastore, .iinc 1 1, .goto 2] := rfl
theorem zb_267_3 : zB 267 3 = [.aload 0, .aload 0, .getfield 643, .invokeinterface 164 2, .ireturn] := rfl
theorem zb_268_0 : zB 268 0 = [.aload 0, .jsr_w 31, .aload 0, .getfield 683, .lmul, .iload 1, .i2l, .ladd, .putfield 683, .return_] := rfl
theorem zb_269_0 : zB 269 0 = [.aload 0, .iconst 0, .putfield 646, .aload 0, .jsr_w 1851, .putfield 683, .aload 0, .aload 0, .getfield 640, .iconst 0, .iaload, .invokeinterface 268 2, .aload 0, .invokeinterface 224 1, .iconst 0, .istore 1, .goto_w 1] := rfl
theorem zb_269_1 : zB 269 1 = [.iload 1, .aload 0, .getfield 640, .iconst 0, .iaload, .if_icmp .ge 4, .iconst 0, .istore 2, .goto_w 2] := rfl
theorem zb_269_2 : zB 269 2 = [.iload 2, .iconst 11, .if_icmp .ge 3, .aload 0, .aload 0, .iload 1, .iload 2, .invokeinterface 201 3, .invokeinterface 268 2, .iinc 2 1, .goto 2] := rfl
theorem zb_269_3 : zB 269 3 = [.aload 0, .aload 0, .getfield 675, .iload 1, .iaload, .invokeinterface 268 2, .iinc 1 1, .goto 1] := rfl
theorem zb_269_4 : zB 269 4 = [.aload 0, .aload 0, .getfield 640, .iconst 1, .iaload, .invokeinterface 268 2, .iconst 0, .istore 1, .goto_w 5] := rfl
theorem zb_269_5 : zB 269 5 = [.iload 1, .aload 0, .getfield 640, .iconst 1, .iaload, .if_icmp .ge 8, .iconst 0, .istore 2, .goto_w 6] := rfl
theorem zb_269_6 : zB 269 6 = [.iload 2, .iconst 6, .if_icmp .ge 7, .aload 0, .aload 0, .iload 1, .iload 2, .invokeinterface 203 3, .invokeinterface 268 2, .iinc 2 1, .goto 6] := rfl
theorem zb_269_7 : zB 269 7 = [.iinc 1 1, .goto 5] := rfl
theorem zb_269_8 : zB 269 8 = [.aload 0, .aload 0, .invokeinterface 226 1, .invokeinterface 268 2, .aload 0, .aload 0, .invokeinterface 229 1, .invokeinterface 268 2, .aload 0, .aload 0, .iconst 2, .invokeinterface 240 2, .invokeinterface 268 2, .aload 0, .aload 0, .invokeinterface 245 1, .invokeinterface 268 2, .aload 0, .aload 0, .getfield 645, .invokeinterface 268 2, .aload 0, .aload 0, .getfield 643, .invokeinterface 268 2, .aload 0, .getfield 683, .lreturn] := rfl
theorem zb_270_0 : zB 270 0 = [.aload 2, .iconst 0, .aload 0, .iload 1, .invokeinterface 116 2, .i2l, .lastore, .goto 3] := rfl
theorem zb_270_1 : zB 270 1 = [.astore 3, .iconst 1, .ireturn] := rfl
theorem zb_270_2 : zB 270 2 = [.astore 3, .iconst 2, .ireturn] := rfl
theorem zb_270_3 : zB 270 3 = [.iconst 0, .ireturn] := rfl
theorem zb_271_0 : zB 271 0 = [.aload 6, .iconst 0, .aload 0, .iload 1, .iload 2, .iload 3, .iload 4, .iload 5, .invokeinterface 117 6, .i2l, .lastore, .goto 4] := rfl
theorem zb_271_1 : zB 271 1 = [.astore 7, .iconst 1, .ireturn] := rfl
theorem zb_271_2 : zB 271 2 = [.astore 7, .iconst 2, .ireturn] := rfl
theorem zb_271_3 : zB 271 3 = [.astore 7, .iconst 3, .ireturn] := rfl
theorem zb_271_4 : zB 271 4 = [.iconst 0, .ireturn] := rfl
theorem zb_272_0 : zB 272 0 = [.aload 2, .iconst 0, .aload 0, .iload 1, .invokeinterface 118 2, .i2l, .lastore, .goto 3] := rfl
theorem zb_272_1 : zB 272 1 = [.astore 3, .iconst 1, .ireturn] := rfl
theorem zb_272_2 : zB 272 2 = [.astore 3, .iconst 2, .ireturn] := rfl
theorem zb_272_3 : zB 272 3 = [.iconst 0, .ireturn] := rfl
theorem zb_273_0 : zB 273 0 = [.aload 4, .iconst 0, .aload 0, .iload 1, .iload 2, .iload 3, .invokeinterface 119 4, .i2l, .lastore, .goto 3] := rfl
theorem zb_273_1 : zB 273 1 = [.astore 5, .iconst 1, .ireturn] := rfl
theorem zb_273_2 : zB 273 2 = [.astore 5, .iconst 2, .ireturn] := rfl
theorem zb_273_3 : zB 273 3 = [.iconst 0, .ireturn] := rfl
theorem zb_274_0 : zB 274 0 = [.aload 3, .iconst 0, .aload 0, .iload 1, .iload 2, .invokeinterface 120 3, .i2l, .lastore, .goto 3] := rfl
theorem zb_274_1 : zB 274 1 = [.astore 4, .iconst 1, .ireturn] := rfl
theorem zb_274_2 : zB 274 2 = [.astore 4, .iconst 2, .ireturn] := rfl
theorem zb_274_3 : zB 274 3 = [.iconst 0, .ireturn] := rfl
theorem zb_275_0 : zB 275 0 = [.aload 3, .iconst 0, .aload 0, .iload 1, .iload 2, .invokeinterface 123 3, .i2l, .lastore, .goto 3] := rfl
theorem zb_275_1 : zB 275 1 = [.astore 4, .iconst 1, .ireturn] := rfl
theorem zb_275_2 : zB 275 2 = [.astore 4, .iconst 2, .ireturn] := rfl
theorem zb_275_3 : zB 275 3 = [.iconst 0, .ireturn] := rfl
theorem zb_276_0 : zB 276 0 = [.aload 3, .iconst 0, .aload 0, .iload 1, .iload 2, .invokeinterface 124 3, .i2l, .lastore, .goto 3] := rfl
theorem zb_276_1 : zB 276 1 = [.astore 4, .iconst 1, .ireturn] := rfl
theorem zb_276_2 : zB 276 2 = [.astore 4, .iconst 2, .ireturn] := rfl
theorem zb_276_3 : zB 276 3 = [.iconst 0, .ireturn] := rfl
theorem zb_277_0 : zB 277 0 = [.aload 3, .iconst 0, .aload 0, .iload 1, .iload 2, .invokeinterface 125 3, .ifCond .eq 1, .jsr_w 1, .goto 2] := rfl
theorem zb_277_1 : zB 277 1 = [.jsr_w 0, .goto_w 2] := rfl
theorem zb_277_2 : zB 277 2 = [.lastore, .goto 4] := rfl
theorem zb_277_3 : zB 277 3 = [.astore 4, .iconst 1, .ireturn] := rfl
theorem zb_277_4 : zB 277 4 = [.iconst 0, .ireturn] := rfl
theorem zb_278_0 : zB 278 0 = [.aload 2, .iconst 0, .aload 0, .iload 1, .invokeinterface 127 2, .i2l, .lastore, .goto 2] := rfl
theorem zb_278_1 : zB 278 1 = [.astore 3, .iconst 1, .ireturn] := rfl
theorem zb_278_2 : zB 278 2 = [.iconst 0, .ireturn] := rfl
theorem zb_279_0 : zB 279 0 = [.aload 3, .iconst 0, .aload 0, .iload 1, .iload 2, .invokeinterface 128 3, .ifCond .eq 1, .jsr_w 1, .goto 2] := rfl
theorem zb_279_1 : zB 279 1 = [.jsr_w 0, .goto_w 2] := rfl
theorem zb_279_2 : zB 279 2 = [.lastore, .goto 5] := rfl
theorem zb_279_3 : zB 279 3 = [.astore 4, .iconst 1, .ireturn] := rfl
theorem zb_279_4 : zB 279 4 = [.astore 4, .iconst 2, .ireturn] := rfl
theorem zb_279_5 : zB 279 5 = [.iconst 0, .ireturn] := rfl
theorem zb_280_0 : zB 280 0 = [.aload 2, .iconst 0, .aload 0, .iload 1, .invokeinterface 129 2, .i2l, .lastore, .goto 3] := rfl
theorem zb_280_1 : zB 280 1 = [.astore 3, .iconst 1, .ireturn] := rfl
theorem zb_280_2 : zB 280 2 = [.astore 3, .iconst 2, .ireturn] := rfl
theorem zb_280_3 : zB 280 3 = [.iconst 0, .ireturn] := rfl
theorem zb_281_0 : zB 281 0 = [.aload 3, .iconst 0, .aload 0, .iload 1, .iload 2, .invokeinterface 130 3, .i2l, .lastore, .goto 2] := rfl
theorem zb_281_1 : zB 281 1 = [.astore 4, .iconst 1, .ireturn] := rfl
theorem zb_281_2 : zB 281 2 = [.iconst 0, .ireturn] := rfl
theorem zb_282_0 : zB 282 0 = [.aload 3, .iconst 0, .aload 0, .iload 1, .iload 2, .invokeinterface 131 3, .i2l, .lastore, .goto 2] := rfl
theorem zb_282_1 : zB 282 1 = [.astore 4, .iconst 1, .ireturn] := rfl
theorem zb_282_2 : zB 282 2 = [.iconst 0, .ireturn] := rfl
theorem zb_283_0 : zB 283 0 = [.aload 2, .iconst 0, .aload 0, .iload 1, .invokeinterface 132 2, .i2l, .lastore, .goto 2] := rfl
theorem zb_283_1 : zB 283 1 = [.astore 3, .iconst 1, .ireturn] := rfl
theorem zb_283_2 : zB 283 2 = [.iconst 0, .ireturn] := rfl
theorem zb_284_0 : zB 284 0 = [.aload 2, .iconst 0, .aload 0, .iload 1, .invokeinterface 133 2, .i2l, .lastore, .goto 2] := rfl
theorem zb_284_1 : zB 284 1 = [.astore 3, .iconst 1, .ireturn] := rfl
theorem zb_284_2 : zB 284 2 = [.iconst 0, .ireturn] := rfl
theorem zb_285_0 : zB 285 0 = [.aload 2, .iconst 0, .aload 0, .iload 1, .invokeinterface 136 2, .i2l, .lastore, .goto 3] := rfl
theorem zb_285_1 : zB 285 1 = [.astore 3, .iconst 1, .ireturn] := rfl
theorem zb_285_2 : zB 285 2 = [.astore 3, .iconst 2, .ireturn] := rfl
theorem zb_285_3 : zB 285 3 = [.iconst 0, .ireturn] := rfl
theorem zb_286_0 : zB 286 0 = [.aload 2, .iconst 0, .aload 0, .iload 1, .invokeinterface 137 2, .i2l, .lastore, .goto 3] := rfl
theorem zb_286_1 : zB 286 1 = [.astore 3, .iconst 1, .ireturn] := rfl
theorem zb_286_2 : zB 286 2 = [.astore 3, .iconst 2, .ireturn] := rfl
theorem zb_286_3 : zB 286 3 = [.iconst 0, .ireturn] := rfl
theorem zb_287_0 : zB 287 0 = [.aload 2, .iconst 0, .aload 0, .iload 1, .invokeinterface 138 2, .i2l, .lastore, .goto 2] := rfl
theorem zb_287_1 : zB 287 1 = [.astore 3, .iconst 1, .ireturn] := rfl
theorem zb_287_2 : zB 287 2 = [.iconst 0, .ireturn] := rfl
theorem zb_288_0 : zB 288 0 = [.aload 2, .iconst 0, .aload 0, .iload 1, .invokeinterface 140 2, .i2l, .lastore, .goto 3] := rfl
theorem zb_288_1 : zB 288 1 = [.astore 3, .iconst 1, .ireturn] := rfl
theorem zb_288_2 : zB 288 2 = [.astore 3, .iconst 2, .ireturn] := rfl
theorem zb_288_3 : zB 288 3 = [.iconst 0, .ireturn] := rfl
theorem zb_289_0 : zB 289 0 = [.aload 2, .iconst 0, .aload 0, .iload 1, .invokeinterface 141 2, .i2l, .lastore, .goto 3] := rfl
theorem zb_289_1 : zB 289 1 = [.astore 3, .iconst 1, .ireturn] := rfl
theorem zb_289_2 : zB 289 2 = [.astore 3, .iconst 2, .ireturn] := rfl
theorem zb_289_3 : zB 289 3 = [.iconst 0, .ireturn] := rfl
theorem zb_290_0 : zB 290 0 = [.aload 2, .iconst 0, .aload 0, .iload 1, .invokeinterface 142 2, .i2l, .lastore, .goto 2] := rfl
theorem zb_290_1 : zB 290 1 = [.astore 3, .iconst 1, .ireturn] := rfl
theorem zb_290_2 : zB 290 2 = [.iconst 0, .ireturn] := rfl
theorem zb_291_0 : zB 291 0 = [.aload 3, .iconst 0, .aload 0, .iload 1, .iload 2, .invokeinterface 143 3, .i2l, .lastore, .goto 3] := rfl
theorem zb_291_1 : zB 291 1 = [.astore 4, .iconst 1, .ireturn] := rfl
theorem zb_291_2 : zB 291 2 = [.astore 4, .iconst 2, .ireturn] := rfl
theorem zb_291_3 : zB 291 3 = [.iconst 0, .ireturn] := rfl
theorem zb_292_0 : zB 292 0 = [.aload 3, .iconst 0, .aload 0, .iload 1, .iload 2, .invokeinterface 146 3, .ifCond .eq 1, .jsr_w 1, .goto 2] := rfl
theorem zb_292_1 : zB 292 1 = [.jsr_w 0, .goto_w 2] := rfl
theorem zb_292_2 : zB 292 2 = [.lastore, .goto 5] := rfl
theorem zb_292_3 : zB 292 3 = [.astore 4, .iconst 1, .ireturn] := rfl
theorem zb_292_4 : zB 292 4 = [.astore 4, .iconst 2, .ireturn] := rfl
theorem zb_292_5 : zB 292 5 = [.iconst 0, .ireturn] := rfl
theorem zb_293_0 : zB 293 0 = [.aload 3, .iconst 0, .aload 0, .iload 1, .iload 2, .invokeinterface 147 3, .i2l, .lastore, .goto 3] := rfl
theorem zb_293_1 : zB 293 1 = [.astore 4, .iconst 1, .ireturn] := rfl
theorem zb_293_2 : zB 293 2 = [.astore 4, .iconst 2, .ireturn] := rfl
theorem zb_293_3 : zB 293 3 = [.iconst 0, .ireturn] := rfl
theorem zb_294_0 : zB 294 0 = [.aload 4, .iconst 0, .aload 0, .iload 1, .iload 2, .iload 3, .invokeinterface 148 4, .i2l, .lastore, .goto 3] := rfl
theorem zb_294_1 : zB 294 1 = [.astore 5, .iconst 1, .ireturn] := rfl
theorem zb_294_2 : zB 294 2 = [.astore 5, .iconst 2, .ireturn] := rfl
theorem zb_294_3 : zB 294 3 = [.iconst 0, .ireturn] := rfl
theorem zb_295_0 : zB 295 0 = [.aload 2, .iconst 0, .aload 0, .iload 1, .invokeinterface 149 2, .i2l, .lastore, .goto 2] := rfl
theorem zb_295_1 : zB 295 1 = [.astore 3, .iconst 1, .ireturn] := rfl
theorem zb_295_2 : zB 295 2 = [.iconst 0, .ireturn] := rfl
theorem zb_296_0 : zB 296 0 = [.aload 2, .iconst 0, .aload 0, .iload 1, .invokeinterface 150 2, .i2l, .lastore, .goto 2] := rfl
theorem zb_296_1 : zB 296 1 = [.astore 3, .iconst 1, .ireturn] := rfl
theorem zb_296_2 : zB 296 2 = [.iconst 0, .ireturn] := rfl
theorem zb_297_0 : zB 297 0 = [.aload 2, .iconst 0, .aload 0, .iload 1, .invokeinterface 151 2, .i2l, .lastore, .goto 3] := rfl
theorem zb_297_1 : zB 297 1 = [.astore 3, .iconst 1, .ireturn] := rfl
theorem zb_297_2 : zB 297 2 = [.astore 3, .iconst 2, .ireturn] := rfl
theorem zb_297_3 : zB 297 3 = [.iconst 0, .ireturn] := rfl
theorem zb_298_0 : zB 298 0 = [.aload 1, .iconst 0, .aload 0, .invokeinterface 154 1, .i2l, .lastore, .goto 2] := rfl
theorem zb_298_1 : zB 298 1 = [.astore 2, .iconst 1, .ireturn] := rfl
theorem zb_298_2 : zB 298 2 = [.iconst 0, .ireturn] := rfl
theorem zb_299_0 : zB 299 0 = [.new 9, .dup, .invokeinterface 115 1, .astore 1, .new 10, .dup, .invokeinterface 160 1, .astore 2, .iconst 1, .newarray .long, .astore 3, .iconst 0, .istore 4, .goto_w 1] := rfl
theorem zb_299_1 : zB 299 1 = [.iload 4, .aload 0, .arraylength, .iconst 6, .isub, .if_icmp .gt 107, .aload 0, .iload 4, .iaload, .iconst 63, .iand, .lookupswitch 106 #[(0, 2), (1, 5), (2, 8), (3, 11), (4, 14), (5, 17), (6, 18), (7, 19), (8, 22), (9, 25), (10, 30), (11, 31), (12, 34), (13, 39), (14, 42), (15, 45), (16, 48), (17, 51), (18, 54), (19, 55), (20, 56), (21, 59), (22, 62), (23, 65), (24, 66), (25, 69), (26, 72), (27, 75), (28, 78), (29, 79), (30, 80), (31, 85), (32, 88), (33, 91), (34, 94), (35, 97), (36, 100), (37, 101), (38, 102), (39, 105)]] := rfl
theorem zb_299_2 : zB 299 2 = [.aload 1, .aload 0, .iload 4, .iconst 1, .iadd, .iaload, .aload 3, .invokeinterface 270 3, .istore 5, .aload 2, .aload 0, .iload 4, .iconst 1, .iadd, .iaload, .invokeinterface 193 2, .istore 6, .aload 2, .invokeinterface 161 1, .iload 5, .if_icmp .eq 3, .iconst 0, .ireturn] := rfl
theorem zb_299_3 : zB 299 3 = [.iload 5, .ifCond .ne 4, .aload 3, .iconst 0, .laload, .iload 6, .i2l, .lcmp, .ifCond .eq 4, .iconst 0, .ireturn] := rfl
theorem zb_299_4 : zB 299 4 = [.goto 106] := rfl
theorem zb_299_5 : zB 299 5 = [.aload 1, .aload 0, .iload 4, .iconst 1, .iadd, .iaload, .aload 0, .iload 4, .iconst 2, .iadd, .iaload, .aload 0, .iload 4, .iconst 3, .iadd, .iaload, .aload 0, .iload 4, .iconst 4, .iadd, .iaload, .aload 0, .iload 4, .iconst 5, .iadd, .iaload, .aload 3, .invokeinterface 271 7, .istore 5, .aload 2, .aload 0, .iload 4, .iconst 1, .iadd, .iaload, .aload 0, .iload 4, .iconst 2, .iadd, .iaload, .aload 0, .iload 4, .iconst 3, .iadd, .iaload, .aload 0, .iload 4, .iconst 4, .iadd, .iaload, .aload 0, .iload 4, .iconst 5, .iadd, .iaload, .invokeinterface 194 6, .istore 6, .aload 2, .invokeinterface 161 1, .iload 5, .if_icmp .eq 6, .iconst 0, .ireturn] := rfl
theorem zb_299_6 : zB 299 6 = [.iload 5, .ifCond .ne 7, .aload 3, .iconst 0, .laload, .iload 6, .i2l, .lcmp, .ifCond .eq 7, .iconst 0, .ireturn] := rfl
theorem zb_299_7 : zB 299 7 = [.goto 106] := rfl
theorem zb_299_8 : zB 299 8 = [.aload 1, .aload 0, .iload 4, .iconst 1, .iadd, .iaload, .aload 3, .invokeinterface 272 3, .istore 5, .aload 2, .aload 0, .iload 4, .iconst 1, .iadd, .iaload, .invokeinterface 196 2, .istore 6, .aload 2, .invokeinterface 161 1, .iload 5, .if_icmp .eq 9, .iconst 0, .ireturn] := rfl
theorem zb_299_9 : zB 299 9 = [.iload 5, .ifCond .ne 10, .aload 3, .iconst 0, .laload, .iload 6, .i2l, .lcmp, .ifCond .eq 10, .iconst 0, .ireturn] := rfl
theorem zb_299_10 : zB 299 10 = [.goto 106] := rfl
theorem zb_299_11 : zB 299 11 = [.aload 1, .aload 0, .iload 4, .iconst 1, .iadd, .iaload, .aload 0, .iload 4, .iconst 2, .iadd, .iaload, .aload 0, .iload 4, .iconst 3, .iadd, .iaload, .aload 3, .invokeinterface 273 5, .istore 5, .aload 2, .aload 0, .iload 4, .iconst 1, .iadd, .iaload, .aload 0, .iload 4, .iconst 2, .iadd, .iaload, .aload 0, .iload 4, .iconst 3, .iadd, .iaload, .invokeinterface 197 4, .istore 6, .aload 2, .invokeinterface 161 1, .iload 5, .if_icmp .eq 12, .iconst 0, .ireturn] := rfl
theorem zb_299_12 : zB 299 12 = [.iload 5, .ifCond .ne 13, .aload 3, .iconst 0, .laload, .iload 6, .i2l, .lcmp, .ifCond .eq 13, .iconst 0, .ireturn] := rfl
theorem zb_299_13 : zB 299 13 = [.goto 106] := rfl
theorem zb_299_14 : zB 299 14 = [.aload 1, .aload 0, .iload 4, .iconst 1, .iadd, .iaload, .aload 0, .iload 4, .iconst 2, .iadd, .iaload, .aload 3, .invokeinterface 274 4, .istore 5, .aload 2, .aload 0, .iload 4, .iconst 1, .iadd, .iaload, .aload 0, .iload 4, .iconst 2, .iadd, .iaload, .invokeinterface 198 3, .istore 6, .aload 2, .invokeinterface 161 1, .iload 5, .if_icmp .eq 15, .iconst 0, .ireturn] := rfl
theorem zb_299_15 : zB 299 15 = [.iload 5, .ifCond .ne 16, .aload 3, .iconst 0, .laload, .iload 6, .i2l, .lcmp, .ifCond .eq 16, .iconst 0, .ireturn] := rfl
theorem zb_299_16 : zB 299 16 = [.goto 106] := rfl
theorem zb_299_17 : zB 299 17 = [.aload 1, .invokeinterface 121 1, .aload 2, .invokeinterface 199 1, .if_icmp .eq 106, .iconst 0, .ireturn] := rfl
theorem zb_299_18 : zB 299 18 = [.aload 1, .invokeinterface 122 1, .aload 2, .invokeinterface 200 1, .if_icmp .eq 106, .iconst 0, .ireturn] := rfl
theorem zb_299_19 : zB 299 19 = [.aload 1, .aload 0, .iload 4, .iconst 1, .iadd, .iaload, .aload 0, .iload 4, .iconst 2, .iadd, .iaload, .aload 3, .invokeinterface 275 4, .istore 5, .aload 2, .aload 0, .iload 4, .iconst 1, .iadd, .iaload, .aload 0, .iload 4, .iconst 2, .iadd, .iaload, .invokeinterface 202 3, .istore 6, .aload 2, .invokeinterface 161 1, .iload 5, .if_icmp .eq 20, .iconst 0, .ireturn] := rfl
theorem zb_299_20 : zB 299 20 = [.iload 5, .ifCond .ne 21, .aload 3, .iconst 0, .laload, .iload 6, .i2l, .lcmp, .ifCond .eq 21, .iconst 0, .ireturn] := rfl
theorem zb_299_21 : zB 299 21 = [.goto 106] := rfl
theorem zb_299_22 : zB 299 22 = [.aload 1, .aload 0, .iload 4, .iconst 1, .iadd, .iaload, .aload 0, .iload 4, .iconst 2, .iadd, .iaload, .aload 3, .invokeinterface 276 4, .istore 5, .aload 2, .aload 0, .iload 4, .iconst 1, .iadd, .iaload, .aload 0, .iload 4, .iconst 2, .iadd, .iaload, .invokeinterface 204 3, .istore 6, .aload 2, .invokeinterface 161 1, .iload 5, .if_icmp .eq 23, .iconst 0, .ireturn] := rfl
theorem zb_299_23 : zB 299 23 = [.iload 5, .ifCond .ne 24, .aload 3, .iconst 0, .laload, .iload 6, .i2l, .lcmp, .ifCond .eq 24, .iconst 0, .ireturn] := rfl
theorem zb_299_24 : zB 299 24 = [.goto 106] := rfl
theorem zb_299_25 : zB 299 25 = [.aload 1, .aload 0, .iload 4, .iconst 1, .iadd, .iaload, .aload 0, .iload 4, .iconst 2, .iadd, .iaload, .aload 3, .invokeinterface 277 4, .istore 5, .aload 2, .aload 0, .iload 4, .iconst 1, .iadd, .iaload, .aload 0, .iload 4, .iconst 2, .iadd, .iaload, .invokeinterface 205 3, .istore 6, .aload 2, .invokeinterface 161 1, .iload 5, .if_icmp .eq 26, .iconst 0, .ireturn] := rfl
theorem zb_299_26 : zB 299 26 = [.iload 5, .ifCond .ne 29, .aload 3, .iconst 0, .laload, .iload 6, .ifCond .eq 27, .jsr_w 1, .goto 28] := rfl
theorem zb_299_27 : zB 299 27 = [.jsr_w 0, .goto_w 28] := rfl
theorem zb_299_28 : zB 299 28 = [.lcmp, .ifCond .eq 29, .iconst 0, .ireturn] := rfl
theorem zb_299_29 : zB 299 29 = [.goto 106] := rfl
theorem zb_299_30 : zB 299 30 = [.aload 1, .aload 0, .iload 4, .iconst 1, .iadd, .iaload, .invokeinterface 126 2, .aload 2, .aload 0, .iload 4, .iconst 1, .iadd, .iaload, .invokeinterface 206 2, .if_icmp .eq 106, .iconst 0, .ireturn] := rfl
theorem zb_299_31 : zB 299 31 = [.aload 1, .aload 0, .iload 4, .iconst 1, .iadd, .iaload, .aload 3, .invokeinterface 278 3, .istore 5, .aload 2, .aload 0, .iload 4, .iconst 1, .iadd, .iaload, .invokeinterface 208 2, .istore 6, .aload 2, .invokeinterface 161 1, .iload 5, .if_icmp .eq 32, .iconst 0, .ireturn] := rfl
theorem zb_299_32 : zB 299 32 = [.iload 5, .ifCond .ne 33, .aload 3, .iconst 0, .laload, .iload 6, .i2l, .lcmp, .ifCond .eq 33, .iconst 0, .ireturn] := rfl
theorem zb_299_33 : zB 299 33 = [.goto 106] := rfl
theorem zb_299_34 : zB 299 34 = [.aload 1, .aload 0, .iload 4, .iconst 1, .iadd, .iaload, .aload 0, .iload 4, .iconst 2, .iadd, .iaload, .aload 3, .invokeinterface 279 4, .istore 5, .aload 2, .aload 0, .iload 4, .iconst 1, .iadd, .iaload, .aload 0, .iload 4, .iconst 2, .iadd, .iaload, .invokeinterface 218 3, .istore 6, .aload 2, .invokeinterface 161 1, .iload 5, .if_icmp .eq 35, .iconst 0, .ireturn] := rfl
theorem zb_299_35 : zB 299 35 = [.iload 5, .ifCond .ne 38, .aload 3, .iconst 0, .laload, .iload 6, .ifCond .eq 36, .jsr_w 1, .goto 37] := rfl
theorem zb_299_36 : zB 299 36 = [.jsr_w 0, .goto_w 37] := rfl
theorem zb_299_37 : zB 299 37 = [.lcmp, .ifCond .eq 38, .iconst 0, .ireturn] := rfl
theorem zb_299_38 : zB 299 38 = [.goto 106] := rfl
theorem zb_299_39 : zB 299 39 = [.aload 1, .aload 0, .iload 4, .iconst 1, .iadd, .iaload, .aload 3, .invokeinterface 280 3, .istore 5, .aload 2, .aload 0, .iload 4, .iconst 1, .iadd, .iaload, .invokeinterface 219 2, .istore 6, .aload 2, .invokeinterface 161 1, .iload 5, .if_icmp .eq 40, .iconst 0, .ireturn] := rfl
theorem zb_299_40 : zB 299 40 = [.iload 5, .ifCond .ne 41, .aload 3, .iconst 0, .laload, .iload 6, .i2l, .lcmp, .ifCond .eq 41, .iconst 0, .ireturn] := rfl
theorem zb_299_41 : zB 299 41 = [.goto 106] := rfl
theorem zb_299_42 : zB 299 42 = [.aload 1, .aload 0, .iload 4, .iconst 1, .iadd, .iaload, .aload 0, .iload 4, .iconst 2, .iadd, .iaload, .aload 3, .invokeinterface 281 4, .istore 5, .aload 2, .aload 0, .iload 4, .iconst 1, .iadd, .iaload, .aload 0, .iload 4, .iconst 2, .iadd, .iaload, .invokeinterface 220 3, .istore 6, .aload 2, .invokeinterface 161 1, .iload 5, .if_icmp .eq 43, .iconst 0, .ireturn] := rfl
theorem zb_299_43 : zB 299 43 = [.iload 5, .ifCond .ne 44, .aload 3, .iconst 0, .laload, .iload 6, .i2l, .lcmp, .ifCond .eq 44, .iconst 0, .ireturn] := rfl
theorem zb_299_44 : zB 299 44 = [.goto 106] := rfl
theorem zb_299_45 : zB 299 45 = [.aload 1, .aload 0, .iload 4, .iconst 1, .iadd, .iaload, .aload 0, .iload 4, .iconst 2, .iadd, .iaload, .aload 3, .invokeinterface 282 4, .istore 5, .aload 2, .aload 0, .iload 4, .iconst 1, .iadd, .iaload, .aload 0, .iload 4, .iconst 2, .iadd, .iaload, .invokeinterface 221 3, .istore 6, .aload 2, .invokeinterface 161 1, .iload 5, .if_icmp .eq 46, .iconst 0, .ireturn] := rfl
theorem zb_299_46 : zB 299 46 = [.iload 5, .ifCond .ne 47, .aload 3, .iconst 0, .laload, .iload 6, .i2l, .lcmp, .ifCond .eq 47, .iconst 0, .ireturn] := rfl
theorem zb_299_47 : zB 299 47 = [.goto 106] := rfl
theorem zb_299_48 : zB 299 48 = [.aload 1, .aload 0, .iload 4, .iconst 1, .iadd, .iaload, .aload 3, .invokeinterface 283 3, .istore 5, .aload 2, .aload 0, .iload 4, .iconst 1, .iadd, .iaload, .invokeinterface 222 2, .istore 6, .aload 2, .invokeinterface 161 1, .iload 5, .if_icmp .eq 49, .iconst 0, .ireturn] := rfl
theorem zb_299_49 : zB 299 49 = [.iload 5, .ifCond .ne 50, .aload 3, .iconst 0, .laload, .iload 6, .i2l, .lcmp, .ifCond .eq 50, .iconst 0, .ireturn] := rfl
theorem zb_299_50 : zB 299 50 = [.goto 106] := rfl
theorem zb_299_51 : zB 299 51 = [.aload 1, .aload 0, .iload 4, .iconst 1, .iadd, .iaload, .aload 3, .invokeinterface 284 3, .istore 5, .aload 2, .aload 0, .iload 4, .iconst 1, .iadd, .iaload, .invokeinterface 225 2, .istore 6, .aload 2, .invokeinterface 161 1, .iload 5, .if_icmp .eq 52, .iconst 0, .ireturn] := rfl
theorem zb_299_52 : zB 299 52 = [.iload 5, .ifCond .ne 53, .aload 3, .iconst 0, .laload, .iload 6, .i2l, .lcmp, .ifCond .eq 53, .iconst 0, .ireturn] := rfl
theorem zb_299_53 : zB 299 53 = [.goto 106] := rfl
theorem zb_299_54 : zB 299 54 = [.aload 1, .invokeinterface 134 1, .aload 2, .invokeinterface 227 1, .if_icmp .eq 106, .iconst 0, .ireturn] := rfl
theorem zb_299_55 : zB 299 55 = [.aload 1, .invokeinterface 135 1, .aload 2, .invokeinterface 228 1, .if_icmp .eq 106, .iconst 0, .ireturn] := rfl
theorem zb_299_56 : zB 299 56 = [.aload 1, .aload 0, .iload 4, .iconst 1, .iadd, .iaload, .aload 3, .invokeinterface 285 3, .istore 5, .aload 2, .aload 0, .iload 4, .iconst 1, .iadd, .iaload, .invokeinterface 232 2, .istore 6, .aload 2, .invokeinterface 161 1, .iload 5, .if_icmp .eq 57, .iconst 0, .ireturn] := rfl
theorem zb_299_57 : zB 299 57 = [.iload 5, .ifCond .ne 58, .aload 3, .iconst 0, .laload, .iload 6, .i2l, .lcmp, .ifCond .eq 58, .iconst 0, .ireturn] := rfl
theorem zb_299_58 : zB 299 58 = [.goto 106] := rfl
theorem zb_299_59 : zB 299 59 = [.aload 1, .aload 0, .iload 4, .iconst 1, .iadd, .iaload, .aload 3, .invokeinterface 286 3, .istore 5, .aload 2, .aload 0, .iload 4, .iconst 1, .iadd, .iaload, .invokeinterface 233 2, .istore 6, .aload 2, .invokeinterface 161 1, .iload 5, .if_icmp .eq 60, .iconst 0, .ireturn] := rfl
theorem zb_299_60 : zB 299 60 = [.iload 5, .ifCond .ne 61, .aload 3, .iconst 0, .laload, .iload 6, .i2l, .lcmp, .ifCond .eq 61, .iconst 0, .ireturn] := rfl
theorem zb_299_61 : zB 299 61 = [.goto 106] := rfl
theorem zb_299_62 : zB 299 62 = [.aload 1, .aload 0, .iload 4, .iconst 1, .iadd, .iaload, .aload 3, .invokeinterface 287 3, .istore 5, .aload 2, .aload 0, .iload 4, .iconst 1, .iadd, .iaload, .invokeinterface 234 2, .istore 6, .aload 2, .invokeinterface 161 1, .iload 5, .if_icmp .eq 63, .iconst 0, .ireturn] := rfl
theorem zb_299_63 : zB 299 63 = [.iload 5, .ifCond .ne 64, .aload 3, .iconst 0, .laload, .iload 6, .i2l, .lcmp, .ifCond .eq 64, .iconst 0, .ireturn] := rfl
theorem zb_299_64 : zB 299 64 = [.goto 106] := rfl
theorem zb_299_65 : zB 299 65 = [.aload 1, .invokeinterface 139 1, .aload 2, .invokeinterface 235 1, .if_icmp .eq 106, .iconst 0, .ireturn] := rfl
theorem zb_299_66 : zB 299 66 = [.aload 1, .aload 0, .iload 4, .iconst 1, .iadd, .iaload, .aload 3, .invokeinterface 288 3, .istore 5, .aload 2, .aload 0, .iload 4, .iconst 1, .iadd, .iaload, .invokeinterface 237 2, .istore 6, .aload 2, .invokeinterface 161 1, .iload 5, .if_icmp .eq 67, .iconst 0, .ireturn] := rfl
theorem zb_299_67 : zB 299 67 = [.iload 5, .ifCond .ne 68, .aload 3, .iconst 0, .laload, .iload 6, .i2l, .lcmp, .ifCond .eq 68, .iconst 0, .ireturn] := rfl
theorem zb_299_68 : zB 299 68 = [.goto 106] := rfl
theorem zb_299_69 : zB 299 69 = [.aload 1, .aload 0, .iload 4, .iconst 1, .iadd, .iaload, .aload 3, .invokeinterface 289 3, .istore 5, .aload 2, .aload 0, .iload 4, .iconst 1, .iadd, .iaload, .invokeinterface 238 2, .istore 6, .aload 2, .invokeinterface 161 1, .iload 5, .if_icmp .eq 70, .iconst 0, .ireturn] := rfl
theorem zb_299_70 : zB 299 70 = [.iload 5, .ifCond .ne 71, .aload 3, .iconst 0, .laload, .iload 6, .i2l, .lcmp, .ifCond .eq 71, .iconst 0, .ireturn] := rfl
theorem zb_299_71 : zB 299 71 = [.goto 106] := rfl
theorem zb_299_72 : zB 299 72 = [.aload 1, .aload 0, .iload 4, .iconst 1, .iadd, .iaload, .aload 3, .invokeinterface 290 3, .istore 5, .aload 2, .aload 0, .iload 4, .iconst 1, .iadd, .iaload, .invokeinterface 241 2, .istore 6, .aload 2, .invokeinterface 161 1, .iload 5, .if_icmp .eq 73, .iconst 0, .ireturn] := rfl
theorem zb_299_73 : zB 299 73 = [.iload 5, .ifCond .ne 74, .aload 3, .iconst 0, .laload, .iload 6, .i2l, .lcmp, .ifCond .eq 74, .iconst 0, .ireturn] := rfl
theorem zb_299_74 : zB 299 74 = [.goto 106] := rfl
theorem zb_299_75 : zB 299 75 = [.aload 1, .aload 0, .iload 4, .iconst 1, .iadd, .iaload, .aload 0, .iload 4, .iconst 2, .iadd, .iaload, .aload 3, .invokeinterface 291 4, .istore 5, .aload 2, .aload 0, .iload 4, .iconst 1, .iadd, .iaload, .aload 0, .iload 4, .iconst 2, .iadd, .iaload, .invokeinterface 242 3, .istore 6, .aload 2, .invokeinterface 161 1, .iload 5, .if_icmp .eq 76, .iconst 0, .ireturn] := rfl
theorem zb_299_76 : zB 299 76 = [.iload 5, .ifCond .ne 77, .aload 3, .iconst 0, .laload, .iload 6, .i2l, .lcmp, .ifCond .eq 77, .iconst 0, .ireturn] := rfl
theorem zb_299_77 : zB 299 77 = [.goto 106] := rfl
theorem zb_299_78 : zB 299 78 = [.aload 1, .invokeinterface 144 1, .aload 2, .invokeinterface 246 1, .if_icmp .eq 106, .iconst 0, .ireturn] := rfl
theorem zb_299_79 : zB 299 79 = [.aload 1, .aload 0, .iload 4, .iconst 1, .iadd, .iaload, .invokeinterface 145 2, .aload 2, .aload 0, .iload 4, .iconst 1, .iadd, .iaload, .invokeinterface 247 2, .if_icmp .eq 106, .iconst 0, .ireturn] := rfl
theorem zb_299_80 : zB 299 80 = [.aload 1, .aload 0, .iload 4, .iconst 1, .iadd, .iaload, .aload 0, .iload 4, .iconst 2, .iadd, .iaload, .aload 3, .invokeinterface 292 4, .istore 5, .aload 2, .aload 0, .iload 4, .iconst 1, .iadd, .iaload, .aload 0, .iload 4, .iconst 2, .iadd, .iaload, .invokeinterface 249 3, .istore 6, .aload 2, .invokeinterface 161 1, .iload 5, .if_icmp .eq 81, .iconst 0, .ireturn] := rfl
theorem zb_299_81 : zB 299 81 = [.iload 5, .ifCond .ne 84, .aload 3, .iconst 0, .laload, .iload 6, .ifCond .eq 82, .jsr_w 1, .goto 83] := rfl
theorem zb_299_82 : zB 299 82 = [.jsr_w 0, .goto_w 83] := rfl
theorem zb_299_83 : zB 299 83 = [.lcmp, .ifCond .eq 84, .iconst 0, .ireturn] := rfl
theorem zb_299_84 : zB 299 84 = [.goto 106] := rfl
theorem zb_299_85 : zB 299 85 = [.aload 1, .aload 0, .iload 4, .iconst 1, .iadd, .iaload, .aload 0, .iload 4, .iconst 2, .iadd, .iaload, .aload 3, .invokeinterface 293 4, .istore 5, .aload 2, .aload 0, .iload 4, .iconst 1, .iadd, .iaload, .aload 0, .iload 4, .iconst 2, .iadd, .iaload, .invokeinterface 254 3, .istore 6, .aload 2, .invokeinterface 161 1, .iload 5, .if_icmp .eq 86, .iconst 0, .ireturn] := rfl
theorem zb_299_86 : zB 299 86 = [.iload 5, .ifCond .ne 87, .aload 3, .iconst 0, .laload, .iload 6, .i2l, .lcmp, .ifCond .eq 87, .iconst 0, .ireturn] := rfl
theorem zb_299_87 : zB 299 87 = [.goto 106] := rfl
theorem zb_299_88 : zB 299 88 = [.aload 1, .aload 0, .iload 4, .iconst 1, .iadd, .iaload, .aload 0, .iload 4, .iconst 2, .iadd, .iaload, .aload 0, .iload 4, .iconst 3, .iadd, .iaload, .aload 3, .invokeinterface 294 5, .istore 5, .aload 2, .aload 0, .iload 4, .iconst 1, .iadd, .iaload, .aload 0, .iload 4, .iconst 2, .iadd, .iaload, .aload 0, .iload 4, .iconst 3, .iadd, .iaload, .invokeinterface 255 4, .istore 6, .aload 2, .invokeinterface 161 1, .iload 5, .if_icmp .eq 89, .iconst 0, .ireturn] := rfl
theorem zb_299_89 : zB 299 89 = [.iload 5, .ifCond .ne 90, .aload 3, .iconst 0, .laload, .iload 6, .i2l, .lcmp, .ifCond .eq 90, .iconst 0, .ireturn] := rfl
theorem zb_299_90 : zB 299 90 = [.goto 106] := rfl
theorem zb_299_91 : zB 299 91 = [.aload 1, .aload 0, .iload 4, .iconst 1, .iadd, .iaload, .aload 3, .invokeinterface 295 3, .istore 5, .aload 2, .aload 0, .iload 4, .iconst 1, .iadd, .iaload, .invokeinterface 257 2, .istore 6, .aload 2, .invokeinterface 161 1, .iload 5, .if_icmp .eq 92, .iconst 0, .ireturn] := rfl
theorem zb_299_92 : zB 299 92 = [.iload 5, .ifCond .ne 93, .aload 3, .iconst 0, .laload, .iload 6, .i2l, .lcmp, .ifCond .eq 93, .iconst 0, .ireturn] := rfl
theorem zb_299_93 : zB 299 93 = [.goto 106] := rfl
theorem zb_299_94 : zB 299 94 = [.aload 1, .aload 0, .iload 4, .iconst 1, .iadd, .iaload, .aload 3, .invokeinterface 296 3, .istore 5, .aload 2, .aload 0, .iload 4, .iconst 1, .iadd, .iaload, .invokeinterface 258 2, .istore 6, .aload 2, .invokeinterface 161 1, .iload 5, .if_icmp .eq 95, .iconst 0, .ireturn] := rfl
theorem zb_299_95 : zB 299 95 = [.iload 5, .ifCond .ne 96, .aload 3, .iconst 0, .laload, .iload 6, .i2l, .lcmp, .ifCond .eq 96, .iconst 0, .ireturn] := rfl
theorem zb_299_96 : zB 299 96 = [.goto 106] := rfl
theorem zb_299_97 : zB 299 97 = [.aload 1, .aload 0, .iload 4, .iconst 1, .iadd, .iaload, .aload 3, .invokeinterface 297 3, .istore 5, .aload 2, .aload 0, .iload 4, .iconst 1, .iadd, .iaload, .invokeinterface 259 2, .istore 6, .aload 2, .invokeinterface 161 1, .iload 5, .if_icmp .eq 98, .iconst 0, .ireturn] := rfl
theorem zb_299_98 : zB 299 98 = [.iload 5, .ifCond .ne 99, .aload 3, .iconst 0, .laload, .iload 6, .i2l, .lcmp, .ifCond .eq 99, .iconst 0, .ireturn] := rfl
theorem zb_299_99 : zB 299 99 = [.goto 106] := rfl
theorem zb_299_100 : zB 299 100 = [.aload 1, .invokeinterface 152 1, .aload 2, .invokeinterface 260 1, .if_icmp .eq 106, .iconst 0, .ireturn] := rfl
theorem zb_299_101 : zB 299 101 = [.aload 1, .invokeinterface 153 1, .aload 2, .invokeinterface 266 1, .if_icmp .eq 106, .iconst 0, .ireturn] := rfl
theorem zb_299_102 : zB 299 102 = [.aload 1, .aload 3, .invokeinterface 298 2, .istore 5, .aload 2, .invokeinterface 267 1, .istore 6, .aload 2, .invokeinterface 161 1, .iload 5, .if_icmp .eq 103, .iconst 0, .ireturn] := rfl
theorem zb_299_103 : zB 299 103 = [.iload 5, .ifCond .ne 104, .aload 3, .iconst 0, .laload, .iload 6, .i2l, .lcmp, .ifCond .eq 104, .iconst 0, .ireturn] := rfl
theorem zb_299_104 : zB 299 104 = [.goto 106] := rfl
theorem zb_299_105 : zB 299 105 = [.aload 1, .invokeinterface 155 1, .aload 2, .invokeinterface 269 1, .lcmp, .ifCond .eq 106, .iconst 0, .ireturn] := rfl
theorem zb_299_106 : zB 299 106 = [.iinc 4 6, .goto 1] := rfl
theorem zb_299_107 : zB 299 107 = [.iconst 1, .ireturn] := rfl
theorem zb_300_0 : zB 300 0 = [.iload 0, .iload 1, .if_icmp .lt 1, .iload 0, .goto 2] := rfl
theorem zb_300_1 : zB 300 1 = [.iload 1, .goto_w 2] := rfl
theorem zb_300_2 : zB 300 2 = [.ireturn] := rfl
theorem zb_301_0 : zB 301 0 = [.iload 0, .iload 1, .if_icmp .gt 1, .iload 0, .goto 2] := rfl
theorem zb_301_1 : zB 301 1 = [.iload 1, .goto_w 2] := rfl
theorem zb_301_2 : zB 301 2 = [.ireturn] := rfl
theorem zb_302_0 : zB 302 0 = [.iload 0, .iload 0, .iconst 1, .iushr, .iconst 1431655765, .iand, .isub, .istore 0, .iload 0, .iconst 858993459, .iand, .iload 0, .iconst 2, .iushr, .iconst 858993459, .iand, .iadd, .istore 0, .iload 0, .iload 0, .iconst 4, .iushr, .iadd, .iconst 252645135, .iand, .istore 0, .iload 0, .iload 0, .iconst 8, .iushr, .iadd, .istore 0, .iload 0, .iload 0, .iconst 16, .iushr, .iadd, .istore 0, .iload 0, .iconst 63, .iand, .ireturn] := rfl
theorem zb_303_0 : zB 303 0 = [.fload 0, .invokeinterface 304 1, .ifCond .ne 1, .fload 0, .f2i, .ireturn] := rfl
theorem zb_303_1 : zB 303 1 = [.iconst 2143289344, .ireturn] := rfl
theorem zb_304_0 : zB 304 0 = [.fload 0, .fload 0, .fcmp .l, .ifCond .eq 1, .iconst 1, .goto 2] := rfl
theorem zb_304_1 : zB 304 1 = [.iconst 0, .goto_w 2] := rfl
theorem zb_304_2 : zB 304 2 = [.ireturn] := rfl
theorem zc_0 {d : Nat} {a0 : Value} {h : zH} {Q : zO → zH → Prop} : zcall (d + 1) 0 [a0] h Q = zwp (zcall d) 0 Q (zB 0 0) [a0] [] h := zcall_in (by decide) rfl (zRc_9 rfl)
theorem zc_1 {d a : Nat} {a1 a2 : Value} {s : zS} {V : zV} {Q : zO → zH → Prop} (ht : s.tg a = 0) : zcall (d + 1) 1 [.ref a, a1, a2] (s, V) Q = zwp (zcall d) 1 Q (zB 1 0) [.ref a, a1, a2, zJ, zJ] [] (s, V) := zcall_in (by decide) rfl (zRc_t rfl ht (by decide) (by decide))
theorem zc_2 {d a : Nat} {a1 a2 a3 : Value} {s : zS} {V : zV} {Q : zO → zH → Prop} (ht : s.tg a = 0) : zcall (d + 1) 2 [.ref a, a1, a2, a3] (s, V) Q = zwp (zcall d) 2 Q (zB 2 0) [.ref a, a1, a2, a3, zJ] [] (s, V) := zcall_in (by decide) rfl (zRc_t rfl ht (by decide) (by decide))
theorem zc_3 {d a : Nat} {a1 a2 a3 a4 a5 : Value} {s : zS} {V : zV} {Q : zO → zH → Prop} (ht : s.tg a = 0) : zcall (d + 1) 3 [.ref a, a1, a2, a3, a4, a5] (s, V) Q = zwp (zcall d) 3 Q (zB 3 0) [.ref a, a1, a2, a3, a4, a5] [] (s, V) := zcall_in (by decide) rfl (zRc_t rfl ht (by decide) (by decide))
theorem zc_4 {d a : Nat} {a1 a2 a3 a4 : Value} {s : zS} {V : zV} {Q : zO → zH → Prop} (ht : s.tg a = 0) : zcall (d + 1) 4 [.ref a, a1, a2, a3, a4] (s, V) Q = zwp (zcall d) 4 Q (zB 4 0) [.ref a, a1, a2, a3, a4] [] (s, V) := zcall_in (by decide) rfl (zRc_t rfl ht (by decide) (by decide))
theorem zc_5 {d a : Nat} {s : zS} {V : zV} {Q : zO → zH → Prop} (ht : s.tg a = 0) : zcall (d + 1) 5 [.ref a] (s, V) Q = zwp (zcall d) 5 Q (zB 5 0) [.ref a] [] (s, V) := zcall_in (by decide) rfl (zRc_t rfl ht (by decide) (by decide))
theorem zc_6 {d : Nat} {a0 : Value} {h : zH} {Q : zO → zH → Prop} : zcall (d + 1) 6 [a0] h Q = zwp (zcall d) 6 Q (zB 6 0) [a0] [] h := zcall_in (by decide) rfl (zRc_9 rfl)
theorem zc_7 {d a : Nat} {a1 a2 : Value} {s : zS} {V : zV} {Q : zO → zH → Prop} (ht : s.tg a = 1) : zcall (d + 1) 7 [.ref a, a1, a2] (s, V) Q = zwp (zcall d) 7 Q (zB 7 0) [.ref a, a1, a2, zJ, zJ, zJ, zJ] [] (s, V) := zcall_in (by decide) rfl (zRc_t rfl ht (by decide) (by decide))
theorem zc_8 {d : Nat} {a0 a1 : Value} {h : zH} {Q : zO → zH → Prop} : zcall (d + 1) 8 [a0, a1] h Q = zwp (zcall d) 8 Q (zB 8 0) [a0, a1] [] h := zcall_in (by decide) rfl (zRc_9 rfl)
theorem zc_9 {d a : Nat} {a1 a2 a3 : Value} {s : zS} {V : zV} {Q : zO → zH → Prop} (ht : s.tg a = 1) : zcall (d + 1) 9 [.ref a, a1, a2, a3] (s, V) Q = zwp (zcall d) 9 Q (zB 9 0) [.ref a, a1, a2, a3, zJ, zJ, zJ] [] (s, V) := zcall_in (by decide) rfl (zRc_t rfl ht (by decide) (by decide))
theorem zc_10 {d a : Nat} {a1 a2 : Value} {s : zS} {V : zV} {Q : zO → zH → Prop} (ht : s.tg a = 1) : zcall (d + 1) 10 [.ref a, a1, a2] (s, V) Q = zwp (zcall d) 10 Q (zB 10 0) [.ref a, a1, a2] [] (s, V) := zcall_in (by decide) rfl (zRc_t rfl ht (by decide) (by decide))
theorem zc_11 {d a : Nat} {a1 a2 a3 : Value} {s : zS} {V : zV} {Q : zO → zH → Prop} (ht : s.tg a = 1) : zcall (d + 1) 11 [.ref a, a1, a2, a3] (s, V) Q = zwp (zcall d) 11 Q (zB 11 0) [.ref a, a1, a2, a3, zJ] [] (s, V) := zcall_in (by decide) rfl (zRc_t rfl ht (by decide) (by decide))
theorem zc_12 {d a : Nat} {a1 a2 a3 : Value} {s : zS} {V : zV} {Q : zO → zH → Prop} (ht : s.tg a = 1) : zcall (d + 1) 12 [.ref a, a1, a2, a3] (s, V) Q = zwp (zcall d) 12 Q (zB 12 0) [.ref a, a1, a2, a3, zJ, zJ] [] (s, V) := zcall_in (by decide) rfl (zRc_t rfl ht (by decide) (by decide))
theorem zc_13 {d a : Nat} {a1 a2 a3 a4 : Value} {s : zS} {V : zV} {Q : zO → zH → Prop} (ht : s.tg a = 1) : zcall (d + 1) 13 [.ref a, a1, a2, a3, a4] (s, V) Q = zwp (zcall d) 13 Q (zB 13 0) [.ref a, a1, a2, a3, a4, zJ, zJ] [] (s, V) := zcall_in (by decide) rfl (zRc_t rfl ht (by decide) (by decide))
theorem zc_14 {d a : Nat} {a1 a2 a3 : Value} {s : zS} {V : zV} {Q : zO → zH → Prop} (ht : s.tg a = 1) : zcall (d + 1) 14 [.ref a, a1, a2, a3] (s, V) Q = zwp (zcall d) 14 Q (zB 14 0) [.ref a, a1, a2, a3, zJ, zJ, zJ] [] (s, V) := zcall_in (by decide) rfl (zRc_t rfl ht (by decide) (by decide))
theorem zc_15 {d a : Nat} {a1 a2 : Value} {s : zS} {V : zV} {Q : zO → zH → Prop} (ht : s.tg a = 1) : zcall (d + 1) 15 [.ref a, a1, a2] (s, V) Q = zwp (zcall d) 15 Q (zB 15 0) [.ref a, a1, a2, zJ, zJ, zJ, zJ, zJ, zJ, zJ, zJ] [] (s, V) := zcall_in (by decide) rfl (zRc_t rfl ht (by decide) (by decide))
theorem zc_16 {d a : Nat} {a1 a2 : Value} {s : zS} {V : zV} {Q : zO → zH → Prop} (ht : s.tg a = 1) : zcall (d + 1) 16 [.ref a, a1, a2] (s, V) Q = zwp (zcall d) 16 Q (zB 16 0) [.ref a, a1, a2, zJ, zJ, zJ, zJ, zJ, zJ] [] (s, V) := zcall_in (by decide) rfl (zRc_t rfl ht (by decide) (by decide))
theorem zc_17 {d : Nat} {a0 : Value} {h : zH} {Q : zO → zH → Prop} : zcall (d + 1) 17 [a0] h Q = zwp (zcall d) 17 Q (zB 17 0) [a0] [] h := zcall_in (by decide) rfl (zRc_9 rfl)
theorem zc_18 {d a : Nat} {a1 : Value} {s : zS} {V : zV} {Q : zO → zH → Prop} (ht : s.tg a = 2) : zcall (d + 1) 18 [.ref a, a1] (s, V) Q = zwp (zcall d) 18 Q (zB 18 0) [.ref a, a1, zJ, zJ, zJ] [] (s, V) := zcall_in (by decide) rfl (zRc_t rfl ht (by decide) (by decide))
theorem zc_19 {d a : Nat} {a1 : Value} {s : zS} {V : zV} {Q : zO → zH → Prop} (ht : s.tg a = 2) : zcall (d + 1) 19 [.ref a, a1] (s, V) Q = zwp (zcall d) 19 Q (zB 19 0) [.ref a, a1, zJ] [] (s, V) := zcall_in (by decide) rfl (zRc_t rfl ht (by decide) (by decide))
theorem zc_20 {d a : Nat} {a1 a2 : Value} {s : zS} {V : zV} {Q : zO → zH → Prop} (ht : s.tg a = 2) : zcall (d + 1) 20 [.ref a, a1, a2] (s, V) Q = zwp (zcall d) 20 Q (zB 20 0) [.ref a, a1, a2, zJ] [] (s, V) := zcall_in (by decide) rfl (zRc_t rfl ht (by decide) (by decide))
theorem zc_21 {d a : Nat} {a1 : Value} {s : zS} {V : zV} {Q : zO → zH → Prop} (ht : s.tg a = 2) : zcall (d + 1) 21 [.ref a, a1] (s, V) Q = zwp (zcall d) 21 Q (zB 21 0) [.ref a, a1] [] (s, V) := zcall_in (by decide) rfl (zRc_t rfl ht (by decide) (by decide))
theorem zc_22 {d a : Nat} {s : zS} {V : zV} {Q : zO → zH → Prop} (ht : s.tg a = 2) : zcall (d + 1) 22 [.ref a] (s, V) Q = zwp (zcall d) 22 Q (zB 22 0) [.ref a] [] (s, V) := zcall_in (by decide) rfl (zRc_t rfl ht (by decide) (by decide))
theorem zc_23 {d a : Nat} {a1 : Value} {s : zS} {V : zV} {Q : zO → zH → Prop} (ht : s.tg a = 2) : zcall (d + 1) 23 [.ref a, a1] (s, V) Q = zwp (zcall d) 23 Q (zB 23 0) [.ref a, a1, zJ] [] (s, V) := zcall_in (by decide) rfl (zRc_t rfl ht (by decide) (by decide))
theorem zc_24 {d a : Nat} {a1 a2 : Value} {s : zS} {V : zV} {Q : zO → zH → Prop} (ht : s.tg a = 2) : zcall (d + 1) 24 [.ref a, a1, a2] (s, V) Q = zwp (zcall d) 24 Q (zB 24 0) [.ref a, a1, a2, zJ, zJ] [] (s, V) := zcall_in (by decide) rfl (zRc_t rfl ht (by decide) (by decide))
theorem zc_25 {d a : Nat} {a1 : Value} {s : zS} {V : zV} {Q : zO → zH → Prop} (ht : s.tg a = 2) : zcall (d + 1) 25 [.ref a, a1] (s, V) Q = zwp (zcall d) 25 Q (zB 25 0) [.ref a, a1, zJ] [] (s, V) := zcall_in (by decide) rfl (zRc_t rfl ht (by decide) (by decide))
theorem zc_26 {d a : Nat} {a1 a2 : Value} {s : zS} {V : zV} {Q : zO → zH → Prop} (ht : s.tg a = 2) : zcall (d + 1) 26 [.ref a, a1, a2] (s, V) Q = zwp (zcall d) 26 Q (zB 26 0) [.ref a, a1, a2, zJ, zJ, zJ, zJ] [] (s, V) := zcall_in (by decide) rfl (zRc_t rfl ht (by decide) (by decide))
theorem zc_27 {d a : Nat} {a1 : Value} {s : zS} {V : zV} {Q : zO → zH → Prop} (ht : s.tg a = 2) : zcall (d + 1) 27 [.ref a, a1] (s, V) Q = zwp (zcall d) 27 Q (zB 27 0) [.ref a, a1, zJ, zJ] [] (s, V) := zcall_in (by decide) rfl (zRc_t rfl ht (by decide) (by decide))
theorem zc_28 {d a : Nat} {a1 : Value} {s : zS} {V : zV} {Q : zO → zH → Prop} (ht : s.tg a = 2) : zcall (d + 1) 28 [.ref a, a1] (s, V) Q = zwp (zcall d) 28 Q (zB 28 0) [.ref a, a1, zJ, zJ, zJ] [] (s, V) := zcall_in (by decide) rfl (zRc_t rfl ht (by decide) (by decide))
theorem zc_29 {d a : Nat} {a1 a2 a3 : Value} {s : zS} {V : zV} {Q : zO → zH → Prop} (ht : s.tg a = 2) : zcall (d + 1) 29 [.ref a, a1, a2, a3] (s, V) Q = zwp (zcall d) 29 Q (zB 29 0) [.ref a, a1, a2, a3, zJ, zJ] [] (s, V) := zcall_in (by decide) rfl (zRc_t rfl ht (by decide) (by decide))
theorem zc_30 {d a : Nat} {a1 a2 : Value} {s : zS} {V : zV} {Q : zO → zH → Prop} (ht : s.tg a = 2) : zcall (d + 1) 30 [.ref a, a1, a2] (s, V) Q = zwp (zcall d) 30 Q (zB 30 0) [.ref a, a1, a2, zJ, zJ] [] (s, V) := zcall_in (by decide) rfl (zRc_t rfl ht (by decide) (by decide))
theorem zc_31 {d : Nat} {a0 : Value} {h : zH} {Q : zO → zH → Prop} : zcall (d + 1) 31 [a0] h Q = zwp (zcall d) 31 Q (zB 31 0) [a0, zJ] [] h := zcall_in (by decide) rfl (zRc_9 rfl)
theorem zc_32 {d a : Nat} {a1 : Value} {s : zS} {V : zV} {Q : zO → zH → Prop} (ht : s.tg a = 3) : zcall (d + 1) 32 [.ref a, a1] (s, V) Q = zwp (zcall d) 32 Q (zB 32 0) [.ref a, a1] [] (s, V) := zcall_in (by decide) rfl (zRc_t rfl ht (by decide) (by decide))
theorem zc_33 {d a : Nat} {s : zS} {V : zV} {Q : zO → zH → Prop} (ht : s.tg a = 3) : zcall (d + 1) 33 [.ref a] (s, V) Q = zwp (zcall d) 33 Q (zB 33 0) [.ref a, zJ, zJ] [] (s, V) := zcall_in (by decide) rfl (zRc_t rfl ht (by decide) (by decide))
theorem zc_34 {d a : Nat} {s : zS} {V : zV} {Q : zO → zH → Prop} (ht : s.tg a = 3) : zcall (d + 1) 34 [.ref a] (s, V) Q = zwp (zcall d) 34 Q (zB 34 0) [.ref a] [] (s, V) := zcall_in (by decide) rfl (zRc_t rfl ht (by decide) (by decide))
theorem zc_35 {d a : Nat} {a1 : Value} {s : zS} {V : zV} {Q : zO → zH → Prop} (ht : s.tg a = 3) : zcall (d + 1) 35 [.ref a, a1] (s, V) Q = zwp (zcall d) 35 Q (zB 35 0) [.ref a, a1] [] (s, V) := zcall_in (by decide) rfl (zRc_t rfl ht (by decide) (by decide))
theorem zc_36 {d : Nat} {a0 : Value} {h : zH} {Q : zO → zH → Prop} : zcall (d + 1) 36 [a0] h Q = zwp (zcall d) 36 Q (zB 36 0) [a0] [] h := zcall_in (by decide) rfl (zRc_9 rfl)
theorem zc_37 {d a : Nat} {a1 : Value} {s : zS} {V : zV} {Q : zO → zH → Prop} (ht : s.tg a = 4) : zcall (d + 1) 37 [.ref a, a1] (s, V) Q = zwp (zcall d) 37 Q (zB 37 0) [.ref a, a1, zJ, zJ] [] (s, V) := zcall_in (by decide) rfl (zRc_t rfl ht (by decide) (by decide))
theorem zc_38 {d a : Nat} {a1 a2 : Value} {s : zS} {V : zV} {Q : zO → zH → Prop} (ht : s.tg a = 4) : zcall (d + 1) 38 [.ref a, a1, a2] (s, V) Q = zwp (zcall d) 38 Q (zB 38 0) [.ref a, a1, a2, zJ, zJ, zJ, zJ, zJ, zJ, zJ, zJ] [] (s, V) := zcall_in (by decide) rfl (zRc_t rfl ht (by decide) (by decide))
theorem zc_39 {d a : Nat} {a1 a2 a3 : Value} {s : zS} {V : zV} {Q : zO → zH → Prop} (ht : s.tg a = 4) : zcall (d + 1) 39 [.ref a, a1, a2, a3] (s, V) Q = zwp (zcall d) 39 Q (zB 39 0) [.ref a, a1, a2, a3, zJ, zJ] [] (s, V) := zcall_in (by decide) rfl (zRc_t rfl ht (by decide) (by decide))
theorem zc_40 {d a : Nat} {a1 a2 : Value} {s : zS} {V : zV} {Q : zO → zH → Prop} (ht : s.tg a = 4) : zcall (d + 1) 40 [.ref a, a1, a2] (s, V) Q = zwp (zcall d) 40 Q (zB 40 0) [.ref a, a1, a2, zJ, zJ] [] (s, V) := zcall_in (by decide) rfl (zRc_t rfl ht (by decide) (by decide))
theorem zc_41 {d a : Nat} {a1 a2 a3 : Value} {s : zS} {V : zV} {Q : zO → zH → Prop} (ht : s.tg a = 4) : zcall (d + 1) 41 [.ref a, a1, a2, a3] (s, V) Q = zwp (zcall d) 41 Q (zB 41 0) [.ref a, a1, a2, a3, zJ, zJ, zJ] [] (s, V) := zcall_in (by decide) rfl (zRc_t rfl ht (by decide) (by decide))
theorem zc_42 {d a : Nat} {a1 : Value} {s : zS} {V : zV} {Q : zO → zH → Prop} (ht : s.tg a = 4) : zcall (d + 1) 42 [.ref a, a1] (s, V) Q = zwp (zcall d) 42 Q (zB 42 0) [.ref a, a1, zJ, zJ] [] (s, V) := zcall_in (by decide) rfl (zRc_t rfl ht (by decide) (by decide))
theorem zc_43 {d a : Nat} {a1 a2 a3 : Value} {s : zS} {V : zV} {Q : zO → zH → Prop} (ht : s.tg a = 4) : zcall (d + 1) 43 [.ref a, a1, a2, a3] (s, V) Q = zwp (zcall d) 43 Q (zB 43 0) [.ref a, a1, a2, a3, zJ, zJ, zJ, zJ, zJ, zJ] [] (s, V) := zcall_in (by decide) rfl (zRc_t rfl ht (by decide) (by decide))
theorem zc_44 {d : Nat} {a0 a1 : Value} {h : zH} {Q : zO → zH → Prop} : zcall (d + 1) 44 [a0, a1] h Q = zwp (zcall d) 44 Q (zB 44 0) [a0, a1, zJ, zJ] [] h := zcall_in (by decide) rfl (zRc_9 rfl)
theorem zc_45 {d a : Nat} {a1 a2 : Value} {s : zS} {V : zV} {Q : zO → zH → Prop} (ht : s.tg a = 4) : zcall (d + 1) 45 [.ref a, a1, a2] (s, V) Q = zwp (zcall d) 45 Q (zB 45 0) [.ref a, a1, a2, zJ, zJ, zJ, zJ] [] (s, V) := zcall_in (by decide) rfl (zRc_t rfl ht (by decide) (by decide))
theorem zc_46 {d : Nat} {a0 : Value} {h : zH} {Q : zO → zH → Prop} : zcall (d + 1) 46 [a0] h Q = zwp (zcall d) 46 Q (zB 46 0) [a0] [] h := zcall_in (by decide) rfl (zRc_9 rfl)
theorem zc_47 {d a : Nat} {a1 a2 a3 : Value} {s : zS} {V : zV} {Q : zO → zH → Prop} (ht : s.tg a = 5) : zcall (d + 1) 47 [.ref a, a1, a2, a3] (s, V) Q = zwp (zcall d) 47 Q (zB 47 0) [.ref a, a1, a2, a3] [] (s, V) := zcall_in (by decide) rfl (zRc_t rfl ht (by decide) (by decide))
theorem zc_48 {d a : Nat} {a1 a2 a3 a4 a5 : Value} {s : zS} {V : zV} {Q : zO → zH → Prop} (ht : s.tg a = 5) : zcall (d + 1) 48 [.ref a, a1, a2, a3, a4, a5] (s, V) Q = zwp (zcall d) 48 Q (zB 48 0) [.ref a, a1, a2, a3, a4, a5, zJ, zJ] [] (s, V) := zcall_in (by decide) rfl (zRc_t rfl ht (by decide) (by decide))
theorem zc_49 {d a : Nat} {a1 a2 a3 : Value} {s : zS} {V : zV} {Q : zO → zH → Prop} (ht : s.tg a = 5) : zcall (d + 1) 49 [.ref a, a1, a2, a3] (s, V) Q = zwp (zcall d) 49 Q (zB 49 0) [.ref a, a1, a2, a3, zJ] [] (s, V) := zcall_in (by decide) rfl (zRc_t rfl ht (by decide) (by decide))
theorem zc_50 {d a : Nat} {a1 a2 a3 a4 : Value} {s : zS} {V : zV} {Q : zO → zH → Prop} (ht : s.tg a = 5) : zcall (d + 1) 50 [.ref a, a1, a2, a3, a4] (s, V) Q = zwp (zcall d) 50 Q (zB 50 0) [.ref a, a1, a2, a3, a4] [] (s, V) := zcall_in (by decide) rfl (zRc_t rfl ht (by decide) (by decide))
theorem zc_51 {d a : Nat} {s : zS} {V : zV} {Q : zO → zH → Prop} (ht : s.tg a = 5) : zcall (d + 1) 51 [.ref a] (s, V) Q = zwp (zcall d) 51 Q (zB 51 0) [.ref a] [] (s, V) := zcall_in (by decide) rfl (zRc_t rfl ht (by decide) (by decide))
theorem zc_52 {d a : Nat} {s : zS} {V : zV} {Q : zO → zH → Prop} (ht : s.tg a = 5) : zcall (d + 1) 52 [.ref a] (s, V) Q = zwp (zcall d) 52 Q (zB 52 0) [.ref a] [] (s, V) := zcall_in (by decide) rfl (zRc_t rfl ht (by decide) (by decide))
theorem zc_53 {d a : Nat} {a1 : Value} {s : zS} {V : zV} {Q : zO → zH → Prop} (ht : s.tg a = 5) : zcall (d + 1) 53 [.ref a, a1] (s, V) Q = zwp (zcall d) 53 Q (zB 53 0) [.ref a, a1] [] (s, V) := zcall_in (by decide) rfl (zRc_t rfl ht (by decide) (by decide))
theorem zc_54 {d a : Nat} {s : zS} {V : zV} {Q : zO → zH → Prop} (ht : s.tg a = 5) : zcall (d + 1) 54 [.ref a] (s, V) Q = zwp (zcall d) 54 Q (zB 54 0) [.ref a] [] (s, V) := zcall_in (by decide) rfl (zRc_t rfl ht (by decide) (by decide))
theorem zc_55 {d a : Nat} {a1 a2 : Value} {s : zS} {V : zV} {Q : zO → zH → Prop} (ht : s.tg a = 5) : zcall (d + 1) 55 [.ref a, a1, a2] (s, V) Q = zwp (zcall d) 55 Q (zB 55 0) [.ref a, a1, a2] [] (s, V) := zcall_in (by decide) rfl (zRc_t rfl ht (by decide) (by decide))
theorem zc_56 {d a : Nat} {a1 a2 : Value} {s : zS} {V : zV} {Q : zO → zH → Prop} (ht : s.tg a = 5) : zcall (d + 1) 56 [.ref a, a1, a2] (s, V) Q = zwp (zcall d) 56 Q (zB 56 0) [.ref a, a1, a2] [] (s, V) := zcall_in (by decide) rfl (zRc_t rfl ht (by decide) (by decide))
theorem zc_57 {d : Nat} {a0 : Value} {h : zH} {Q : zO → zH → Prop} : zcall (d + 1) 57 [a0] h Q = zwp (zcall d) 57 Q (zB 57 0) [a0] [] h := zcall_in (by decide) rfl (zRc_9 rfl)
theorem zc_58 {d : Nat} {a0 : Value} {h : zH} {Q : zO → zH → Prop} : zcall (d + 1) 58 [a0] h Q = zwp (zcall d) 58 Q (zB 58 0) [a0] [] h := zcall_in (by decide) rfl (zRc_9 rfl)
theorem zc_59 {d : Nat} {a0 : Value} {h : zH} {Q : zO → zH → Prop} : zcall (d + 1) 59 [a0] h Q = zwp (zcall d) 59 Q (zB 59 0) [a0] [] h := zcall_in (by decide) rfl (zRc_9 rfl)
theorem zc_60 {d : Nat} {a0 : Value} {h : zH} {Q : zO → zH → Prop} : zcall (d + 1) 60 [a0] h Q = zwp (zcall d) 60 Q (zB 60 0) [a0] [] h := zcall_in (by decide) rfl (zRc_9 rfl)
theorem zc_61 {d : Nat} {a0 : Value} {h : zH} {Q : zO → zH → Prop} : zcall (d + 1) 61 [a0] h Q = zwp (zcall d) 61 Q (zB 61 0) [a0] [] h := zcall_in (by decide) rfl (zRc_9 rfl)
theorem zc_62 {d a : Nat} {a1 a2 a3 a4 a5 : Value} {s : zS} {V : zV} {Q : zO → zH → Prop} (ht : s.tg a = 0 ∨ s.tg a = 5) : zcall (d + 1) 62 [.ref a, a1, a2, a3, a4, a5] (s, V) Q = zwp (zcall d) 62 Q (zB 62 0) [.ref a, a1, a2, a3, a4, a5, zJ, zJ, zJ] [] (s, V) := zcall_in (by decide) rfl (zRc_6 rfl ht)
theorem zc_63 {d a : Nat} {a1 a2 a3 a4 a5 a6 : Value} {s : zS} {V : zV} {Q : zO → zH → Prop} (ht : s.tg a = 0 ∨ s.tg a = 5) : zcall (d + 1) 63 [.ref a, a1, a2, a3, a4, a5, a6] (s, V) Q = zwp (zcall d) 63 Q (zB 63 0) [.ref a, a1, a2, a3, a4, a5, a6, zJ, zJ, zJ] [] (s, V) := zcall_in (by decide) rfl (zRc_6 rfl ht)
theorem zc_64 {d a : Nat} {a1 a2 a3 a4 a5 a6 : Value} {s : zS} {V : zV} {Q : zO → zH → Prop} (ht : s.tg a = 0 ∨ s.tg a = 5) : zcall (d + 1) 64 [.ref a, a1, a2, a3, a4, a5, a6] (s, V) Q = zwp (zcall d) 64 Q (zB 64 0) [.ref a, a1, a2, a3, a4, a5, a6, zJ, zJ, zJ, zJ, zJ] [] (s, V) := zcall_in (by decide) rfl (zRc_6 rfl ht)
theorem zc_65 {d : Nat} {a0 : Value} {h : zH} {Q : zO → zH → Prop} : zcall (d + 1) 65 [a0] h Q = zwp (zcall d) 65 Q (zB 65 0) [a0] [] h := zcall_in (by decide) rfl (zRc_9 rfl)
theorem zc_66 {d a : Nat} {a1 : Value} {s : zS} {V : zV} {Q : zO → zH → Prop} (ht : s.tg a = 7) : zcall (d + 1) 66 [.ref a, a1] (s, V) Q = zwp (zcall d) 66 Q (zB 66 0) [.ref a, a1, zJ] [] (s, V) := zcall_in (by decide) rfl (zRc_t rfl ht (by decide) (by decide))
theorem zc_67 {d a : Nat} {a1 : Value} {s : zS} {V : zV} {Q : zO → zH → Prop} (ht : s.tg a = 7) : zcall (d + 1) 67 [.ref a, a1] (s, V) Q = zwp (zcall d) 67 Q (zB 67 0) [.ref a, a1] [] (s, V) := zcall_in (by decide) rfl (zRc_t rfl ht (by decide) (by decide))
theorem zc_68 {d a : Nat} {a1 : Value} {s : zS} {V : zV} {Q : zO → zH → Prop} (ht : s.tg a = 7) : zcall (d + 1) 68 [.ref a, a1] (s, V) Q = zwp (zcall d) 68 Q (zB 68 0) [.ref a, a1] [] (s, V) := zcall_in (by decide) rfl (zRc_t rfl ht (by decide) (by decide))
theorem zc_69 {d a : Nat} {a1 : Value} {s : zS} {V : zV} {Q : zO → zH → Prop} (ht : s.tg a = 7) : zcall (d + 1) 69 [.ref a, a1] (s, V) Q = zwp (zcall d) 69 Q (zB 69 0) [.ref a, a1] [] (s, V) := zcall_in (by decide) rfl (zRc_t rfl ht (by decide) (by decide))
theorem zc_70 {d a : Nat} {a1 : Value} {s : zS} {V : zV} {Q : zO → zH → Prop} (ht : s.tg a = 7) : zcall (d + 1) 70 [.ref a, a1] (s, V) Q = zwp (zcall d) 70 Q (zB 70 0) [.ref a, a1] [] (s, V) := zcall_in (by decide) rfl (zRc_t rfl ht (by decide) (by decide))
theorem zc_71 {d a : Nat} {a1 : Value} {s : zS} {V : zV} {Q : zO → zH → Prop} (ht : s.tg a = 7) : zcall (d + 1) 71 [.ref a, a1] (s, V) Q = zwp (zcall d) 71 Q (zB 71 0) [.ref a, a1, zJ, zJ] [] (s, V) := zcall_in (by decide) rfl (zRc_t rfl ht (by decide) (by decide))
theorem zc_72 {d a : Nat} {a1 a2 a3 a4 a5 : Value} {s : zS} {V : zV} {Q : zO → zH → Prop} (ht : s.tg a = 7) : zcall (d + 1) 72 [.ref a, a1, a2, a3, a4, a5] (s, V) Q = zwp (zcall d) 72 Q (zB 72 0) [.ref a, a1, a2, a3, a4, a5] [] (s, V) := zcall_in (by decide) rfl (zRc_t rfl ht (by decide) (by decide))
theorem zc_73 {d a : Nat} {a1 a2 a3 a4 a5 : Value} {s : zS} {V : zV} {Q : zO → zH → Prop} (ht : s.tg a = 7) : zcall (d + 1) 73 [.ref a, a1, a2, a3, a4, a5] (s, V) Q = zwp (zcall d) 73 Q (zB 73 0) [.ref a, a1, a2, a3, a4, a5, zJ] [] (s, V) := zcall_in (by decide) rfl (zRc_t rfl ht (by decide) (by decide))
theorem zc_74 {d a : Nat} {a1 : Value} {s : zS} {V : zV} {Q : zO → zH → Prop} (ht : s.tg a = 7) : zcall (d + 1) 74 [.ref a, a1] (s, V) Q = zwp (zcall d) 74 Q (zB 74 0) [.ref a, a1, zJ] [] (s, V) := zcall_in (by decide) rfl (zRc_t rfl ht (by decide) (by decide))
theorem zc_75 {d a : Nat} {a1 : Value} {s : zS} {V : zV} {Q : zO → zH → Prop} (ht : s.tg a = 7) : zcall (d + 1) 75 [.ref a, a1] (s, V) Q = zwp (zcall d) 75 Q (zB 75 0) [.ref a, a1, zJ] [] (s, V) := zcall_in (by decide) rfl (zRc_t rfl ht (by decide) (by decide))
theorem zc_76 {d a : Nat} {a1 a2 a3 : Value} {s : zS} {V : zV} {Q : zO → zH → Prop} (ht : s.tg a = 7) : zcall (d + 1) 76 [.ref a, a1, a2, a3] (s, V) Q = zwp (zcall d) 76 Q (zB 76 0) [.ref a, a1, a2, a3] [] (s, V) := zcall_in (by decide) rfl (zRc_t rfl ht (by decide) (by decide))
theorem zc_77 {d a : Nat} {a1 a2 a3 : Value} {s : zS} {V : zV} {Q : zO → zH → Prop} (ht : s.tg a = 7) : zcall (d + 1) 77 [.ref a, a1, a2, a3] (s, V) Q = zwp (zcall d) 77 Q (zB 77 0) [.ref a, a1, a2, a3, zJ] [] (s, V) := zcall_in (by decide) rfl (zRc_t rfl ht (by decide) (by decide))
theorem zc_78 {d a : Nat} {a1 a2 : Value} {s : zS} {V : zV} {Q : zO → zH → Prop} (ht : s.tg a = 7) : zcall (d + 1) 78 [.ref a, a1, a2] (s, V) Q = zwp (zcall d) 78 Q (zB 78 0) [.ref a, a1, a2] [] (s, V) := zcall_in (by decide) rfl (zRc_t rfl ht (by decide) (by decide))
theorem zc_79 {d a : Nat} {a1 a2 : Value} {s : zS} {V : zV} {Q : zO → zH → Prop} (ht : s.tg a = 7) : zcall (d + 1) 79 [.ref a, a1, a2] (s, V) Q = zwp (zcall d) 79 Q (zB 79 0) [.ref a, a1, a2, zJ] [] (s, V) := zcall_in (by decide) rfl (zRc_t rfl ht (by decide) (by decide))
theorem zc_80 {d a : Nat} {a1 a2 : Value} {s : zS} {V : zV} {Q : zO → zH → Prop} (ht : s.tg a = 7) : zcall (d + 1) 80 [.ref a, a1, a2] (s, V) Q = zwp (zcall d) 80 Q (zB 80 0) [.ref a, a1, a2] [] (s, V) := zcall_in (by decide) rfl (zRc_t rfl ht (by decide) (by decide))
theorem zc_81 {d a : Nat} {a1 : Value} {s : zS} {V : zV} {Q : zO → zH → Prop} (ht : s.tg a = 7) : zcall (d + 1) 81 [.ref a, a1] (s, V) Q = zwp (zcall d) 81 Q (zB 81 0) [.ref a, a1] [] (s, V) := zcall_in (by decide) rfl (zRc_t rfl ht (by decide) (by decide))
theorem zc_82 {d a : Nat} {a1 : Value} {s : zS} {V : zV} {Q : zO → zH → Prop} (ht : s.tg a = 7) : zcall (d + 1) 82 [.ref a, a1] (s, V) Q = zwp (zcall d) 82 Q (zB 82 0) [.ref a, a1, zJ, zJ] [] (s, V) := zcall_in (by decide) rfl (zRc_t rfl ht (by decide) (by decide))
theorem zc_83 {d a : Nat} {a1 : Value} {s : zS} {V : zV} {Q : zO → zH → Prop} (ht : s.tg a = 7) : zcall (d + 1) 83 [.ref a, a1] (s, V) Q = zwp (zcall d) 83 Q (zB 83 0) [.ref a, a1, zJ] [] (s, V) := zcall_in (by decide) rfl (zRc_t rfl ht (by decide) (by decide))
theorem zc_84 {d a : Nat} {a1 a2 : Value} {s : zS} {V : zV} {Q : zO → zH → Prop} (ht : s.tg a = 7) : zcall (d + 1) 84 [.ref a, a1, a2] (s, V) Q = zwp (zcall d) 84 Q (zB 84 0) [.ref a, a1, a2] [] (s, V) := zcall_in (by decide) rfl (zRc_t rfl ht (by decide) (by decide))
theorem zc_85 {d a : Nat} {a1 a2 : Value} {s : zS} {V : zV} {Q : zO → zH → Prop} (ht : s.tg a = 7) : zcall (d + 1) 85 [.ref a, a1, a2] (s, V) Q = zwp (zcall d) 85 Q (zB 85 0) [.ref a, a1, a2] [] (s, V) := zcall_in (by decide) rfl (zRc_t rfl ht (by decide) (by decide))
theorem zc_86 {d a : Nat} {a1 : Value} {s : zS} {V : zV} {Q : zO → zH → Prop} (ht : s.tg a = 7) : zcall (d + 1) 86 [.ref a, a1] (s, V) Q = zwp (zcall d) 86 Q (zB 86 0) [.ref a, a1] [] (s, V) := zcall_in (by decide) rfl (zRc_t rfl ht (by decide) (by decide))
theorem zc_87 {d a : Nat} {a1 : Value} {s : zS} {V : zV} {Q : zO → zH → Prop} (ht : s.tg a = 7) : zcall (d + 1) 87 [.ref a, a1] (s, V) Q = zwp (zcall d) 87 Q (zB 87 0) [.ref a, a1, zJ, zJ, zJ, zJ] [] (s, V) := zcall_in (by decide) rfl (zRc_t rfl ht (by decide) (by decide))
theorem zc_88 {d a : Nat} {a1 : Value} {s : zS} {V : zV} {Q : zO → zH → Prop} (ht : s.tg a = 7) : zcall (d + 1) 88 [.ref a, a1] (s, V) Q = zwp (zcall d) 88 Q (zB 88 0) [.ref a, a1, zJ, zJ] [] (s, V) := zcall_in (by decide) rfl (zRc_t rfl ht (by decide) (by decide))
theorem zc_89 {d a : Nat} {a1 a2 : Value} {s : zS} {V : zV} {Q : zO → zH → Prop} (ht : s.tg a = 7) : zcall (d + 1) 89 [.ref a, a1, a2] (s, V) Q = zwp (zcall d) 89 Q (zB 89 0) [.ref a, a1, a2, zJ] [] (s, V) := zcall_in (by decide) rfl (zRc_t rfl ht (by decide) (by decide))
theorem zc_90 {d a : Nat} {a1 a2 : Value} {s : zS} {V : zV} {Q : zO → zH → Prop} (ht : s.tg a = 7) : zcall (d + 1) 90 [.ref a, a1, a2] (s, V) Q = zwp (zcall d) 90 Q (zB 90 0) [.ref a, a1, a2, zJ] [] (s, V) := zcall_in (by decide) rfl (zRc_t rfl ht (by decide) (by decide))
theorem zc_91 {d a : Nat} {a1 : Value} {s : zS} {V : zV} {Q : zO → zH → Prop} (ht : s.tg a = 7) : zcall (d + 1) 91 [.ref a, a1] (s, V) Q = zwp (zcall d) 91 Q (zB 91 0) [.ref a, a1] [] (s, V) := zcall_in (by decide) rfl (zRc_t rfl ht (by decide) (by decide))
theorem zc_92 {d a : Nat} {s : zS} {V : zV} {Q : zO → zH → Prop} (ht : s.tg a = 7) : zcall (d + 1) 92 [.ref a] (s, V) Q = zwp (zcall d) 92 Q (zB 92 0) [.ref a, zJ, zJ] [] (s, V) := zcall_in (by decide) rfl (zRc_t rfl ht (by decide) (by decide))
theorem zc_93 {d a : Nat} {s : zS} {V : zV} {Q : zO → zH → Prop} (ht : s.tg a = 7) : zcall (d + 1) 93 [.ref a] (s, V) Q = zwp (zcall d) 93 Q (zB 93 0) [.ref a] [] (s, V) := zcall_in (by decide) rfl (zRc_t rfl ht (by decide) (by decide))
theorem zc_94 {d a : Nat} {a1 : Value} {s : zS} {V : zV} {Q : zO → zH → Prop} (ht : s.tg a = 7) : zcall (d + 1) 94 [.ref a, a1] (s, V) Q = zwp (zcall d) 94 Q (zB 94 0) [.ref a, a1] [] (s, V) := zcall_in (by decide) rfl (zRc_t rfl ht (by decide) (by decide))
theorem zc_95 {d a : Nat} {a1 : Value} {s : zS} {V : zV} {Q : zO → zH → Prop} (ht : s.tg a = 7) : zcall (d + 1) 95 [.ref a, a1] (s, V) Q = zwp (zcall d) 95 Q (zB 95 0) [.ref a, a1] [] (s, V) := zcall_in (by decide) rfl (zRc_t rfl ht (by decide) (by decide))
theorem zc_96 {d a : Nat} {a1 : Value} {s : zS} {V : zV} {Q : zO → zH → Prop} (ht : s.tg a = 7) : zcall (d + 1) 96 [.ref a, a1] (s, V) Q = zwp (zcall d) 96 Q (zB 96 0) [.ref a, a1] [] (s, V) := zcall_in (by decide) rfl (zRc_t rfl ht (by decide) (by decide))
theorem zc_97 {d a : Nat} {a1 : Value} {s : zS} {V : zV} {Q : zO → zH → Prop} (ht : s.tg a = 7) : zcall (d + 1) 97 [.ref a, a1] (s, V) Q = zwp (zcall d) 97 Q (zB 97 0) [.ref a, a1] [] (s, V) := zcall_in (by decide) rfl (zRc_t rfl ht (by decide) (by decide))
theorem zc_98 {d a : Nat} {a1 : Value} {s : zS} {V : zV} {Q : zO → zH → Prop} (ht : s.tg a = 7) : zcall (d + 1) 98 [.ref a, a1] (s, V) Q = zwp (zcall d) 98 Q (zB 98 0) [.ref a, a1, zJ] [] (s, V) := zcall_in (by decide) rfl (zRc_t rfl ht (by decide) (by decide))
theorem zc_99 {d a : Nat} {s : zS} {V : zV} {Q : zO → zH → Prop} (ht : s.tg a = 7) : zcall (d + 1) 99 [.ref a] (s, V) Q = zwp (zcall d) 99 Q (zB 99 0) [.ref a, zJ, zJ, zJ, zJ] [] (s, V) := zcall_in (by decide) rfl (zRc_t rfl ht (by decide) (by decide))
theorem zc_100 {d a : Nat} {a1 a2 : Value} {s : zS} {V : zV} {Q : zO → zH → Prop} (ht : s.tg a = 7) : zcall (d + 1) 100 [.ref a, a1, a2] (s, V) Q = zwp (zcall d) 100 Q (zB 100 0) [.ref a, a1, a2, zJ] [] (s, V) := zcall_in (by decide) rfl (zRc_t rfl ht (by decide) (by decide))
theorem zc_101 {d a : Nat} {a1 a2 : Value} {s : zS} {V : zV} {Q : zO → zH → Prop} (ht : s.tg a = 7) : zcall (d + 1) 101 [.ref a, a1, a2] (s, V) Q = zwp (zcall d) 101 Q (zB 101 0) [.ref a, a1, a2] [] (s, V) := zcall_in (by decide) rfl (zRc_t rfl ht (by decide) (by decide))
theorem zc_102 {d : Nat} {a0 : Value} {h : zH} {Q : zO → zH → Prop} : zcall (d + 1) 102 [a0] h Q = zwp (zcall d) 102 Q (zB 102 0) [a0] [] h := zcall_in (by decide) rfl (zRc_9 rfl)
theorem zc_103 {d a : Nat} {s : zS} {V : zV} {Q : zO → zH → Prop} (ht : s.tg a = 8) : zcall (d + 1) 103 [.ref a] (s, V) Q = zwp (zcall d) 103 Q (zB 103 0) [.ref a] [] (s, V) := zcall_in (by decide) rfl (zRc_t rfl ht (by decide) (by decide))
theorem zc_104 {d a : Nat} {a1 : Value} {s : zS} {V : zV} {Q : zO → zH → Prop} (ht : s.tg a = 8) : zcall (d + 1) 104 [.ref a, a1] (s, V) Q = zwp (zcall d) 104 Q (zB 104 0) [.ref a, a1] [] (s, V) := zcall_in (by decide) rfl (zRc_t rfl ht (by decide) (by decide))
theorem zc_105 {d a : Nat} {s : zS} {V : zV} {Q : zO → zH → Prop} (ht : s.tg a = 8) : zcall (d + 1) 105 [.ref a] (s, V) Q = zwp (zcall d) 105 Q (zB 105 0) [.ref a, zJ] [] (s, V) := zcall_in (by decide) rfl (zRc_t rfl ht (by decide) (by decide))
theorem zc_106 {d a : Nat} {s : zS} {V : zV} {Q : zO → zH → Prop} (ht : s.tg a = 8) : zcall (d + 1) 106 [.ref a] (s, V) Q = zwp (zcall d) 106 Q (zB 106 0) [.ref a, zJ, zJ] [] (s, V) := zcall_in (by decide) rfl (zRc_t rfl ht (by decide) (by decide))
theorem zc_107 {d : Nat} {a0 : Value} {h : zH} {Q : zO → zH → Prop} : zcall (d + 1) 107 [a0] h Q = zwp (zcall d) 107 Q (zB 107 0) [a0] [] h := zcall_in (by decide) rfl (zRc_9 rfl)
theorem zc_108 {d : Nat} {a0 : Value} {h : zH} {Q : zO → zH → Prop} : zcall (d + 1) 108 [a0] h Q = zwp (zcall d) 108 Q (zB 108 0) [a0] [] h := zcall_in (by decide) rfl (zRc_9 rfl)
theorem zc_109 {d a : Nat} {a1 a2 : Value} {s : zS} {V : zV} {Q : zO → zH → Prop} (ht : s.tg a = 8) : zcall (d + 1) 109 [.ref a, a1, a2] (s, V) Q = zwp (zcall d) 109 Q (zB 109 0) [.ref a, a1, a2, zJ, zJ, zJ, zJ] [] (s, V) := zcall_in (by decide) rfl (zRc_t rfl ht (by decide) (by decide))
theorem zc_110 {d : Nat} {a0 : Value} {h : zH} {Q : zO → zH → Prop} : zcall (d + 1) 110 [a0] h Q = zwp (zcall d) 110 Q (zB 110 0) [a0] [] h := zcall_in (by decide) rfl (zRc_9 rfl)
theorem zc_111 {d a : Nat} {a1 : Value} {s : zS} {V : zV} {Q : zO → zH → Prop} (ht : s.tg a = 8) : zcall (d + 1) 111 [.ref a, a1] (s, V) Q = zwp (zcall d) 111 Q (zB 111 0) [.ref a, a1, zJ] [] (s, V) := zcall_in (by decide) rfl (zRc_t rfl ht (by decide) (by decide))
theorem zc_112 {d a : Nat} {a1 a2 : Value} {s : zS} {V : zV} {Q : zO → zH → Prop} (ht : s.tg a = 8) : zcall (d + 1) 112 [.ref a, a1, a2] (s, V) Q = zwp (zcall d) 112 Q (zB 112 0) [.ref a, a1, a2, zJ, zJ] [] (s, V) := zcall_in (by decide) rfl (zRc_t rfl ht (by decide) (by decide))
theorem zc_113 {d a : Nat} {a1 a2 : Value} {s : zS} {V : zV} {Q : zO → zH → Prop} (ht : s.tg a = 8) : zcall (d + 1) 113 [.ref a, a1, a2] (s, V) Q = zwp (zcall d) 113 Q (zB 113 0) [.ref a, a1, a2, zJ, zJ, zJ] [] (s, V) := zcall_in (by decide) rfl (zRc_t rfl ht (by decide) (by decide))
theorem zc_114 {d a : Nat} {a1 a2 : Value} {s : zS} {V : zV} {Q : zO → zH → Prop} (ht : s.tg a = 8) : zcall (d + 1) 114 [.ref a, a1, a2] (s, V) Q = zwp (zcall d) 114 Q (zB 114 0) [.ref a, a1, a2, zJ, zJ, zJ] [] (s, V) := zcall_in (by decide) rfl (zRc_t rfl ht (by decide) (by decide))
theorem zc_115 {d : Nat} {a0 : Value} {h : zH} {Q : zO → zH → Prop} : zcall (d + 1) 115 [a0] h Q = zwp (zcall d) 115 Q (zB 115 0) [a0] [] h := zcall_in (by decide) rfl (zRc_9 rfl)
theorem zc_116 {d a : Nat} {a1 : Value} {s : zS} {V : zV} {Q : zO → zH → Prop} (ht : s.tg a = 9) : zcall (d + 1) 116 [.ref a, a1] (s, V) Q = zwp (zcall d) 116 Q (zB 116 0) [.ref a, a1] [] (s, V) := zcall_in (by decide) rfl (zRc_t rfl ht (by decide) (by decide))
theorem zc_117 {d a : Nat} {a1 a2 a3 a4 a5 : Value} {s : zS} {V : zV} {Q : zO → zH → Prop} (ht : s.tg a = 9) : zcall (d + 1) 117 [.ref a, a1, a2, a3, a4, a5] (s, V) Q = zwp (zcall d) 117 Q (zB 117 0) [.ref a, a1, a2, a3, a4, a5] [] (s, V) := zcall_in (by decide) rfl (zRc_t rfl ht (by decide) (by decide))
theorem zc_118 {d a : Nat} {a1 : Value} {s : zS} {V : zV} {Q : zO → zH → Prop} (ht : s.tg a = 9) : zcall (d + 1) 118 [.ref a, a1] (s, V) Q = zwp (zcall d) 118 Q (zB 118 0) [.ref a, a1] [] (s, V) := zcall_in (by decide) rfl (zRc_t rfl ht (by decide) (by decide))
theorem zc_119 {d a : Nat} {a1 a2 a3 : Value} {s : zS} {V : zV} {Q : zO → zH → Prop} (ht : s.tg a = 9) : zcall (d + 1) 119 [.ref a, a1, a2, a3] (s, V) Q = zwp (zcall d) 119 Q (zB 119 0) [.ref a, a1, a2, a3] [] (s, V) := zcall_in (by decide) rfl (zRc_t rfl ht (by decide) (by decide))
theorem zc_120 {d a : Nat} {a1 a2 : Value} {s : zS} {V : zV} {Q : zO → zH → Prop} (ht : s.tg a = 9) : zcall (d + 1) 120 [.ref a, a1, a2] (s, V) Q = zwp (zcall d) 120 Q (zB 120 0) [.ref a, a1, a2] [] (s, V) := zcall_in (by decide) rfl (zRc_t rfl ht (by decide) (by decide))
theorem zc_121 {d a : Nat} {s : zS} {V : zV} {Q : zO → zH → Prop} (ht : s.tg a = 9) : zcall (d + 1) 121 [.ref a] (s, V) Q = zwp (zcall d) 121 Q (zB 121 0) [.ref a] [] (s, V) := zcall_in (by decide) rfl (zRc_t rfl ht (by decide) (by decide))
theorem zc_122 {d a : Nat} {s : zS} {V : zV} {Q : zO → zH → Prop} (ht : s.tg a = 9) : zcall (d + 1) 122 [.ref a] (s, V) Q = zwp (zcall d) 122 Q (zB 122 0) [.ref a] [] (s, V) := zcall_in (by decide) rfl (zRc_t rfl ht (by decide) (by decide))
theorem zc_123 {d a : Nat} {a1 a2 : Value} {s : zS} {V : zV} {Q : zO → zH → Prop} (ht : s.tg a = 9) : zcall (d + 1) 123 [.ref a, a1, a2] (s, V) Q = zwp (zcall d) 123 Q (zB 123 0) [.ref a, a1, a2] [] (s, V) := zcall_in (by decide) rfl (zRc_t rfl ht (by decide) (by decide))
theorem zc_124 {d a : Nat} {a1 a2 : Value} {s : zS} {V : zV} {Q : zO → zH → Prop} (ht : s.tg a = 9) : zcall (d + 1) 124 [.ref a, a1, a2] (s, V) Q = zwp (zcall d) 124 Q (zB 124 0) [.ref a, a1, a2] [] (s, V) := zcall_in (by decide) rfl (zRc_t rfl ht (by decide) (by decide))
theorem zc_125 {d a : Nat} {a1 a2 : Value} {s : zS} {V : zV} {Q : zO → zH → Prop} (ht : s.tg a = 9) : zcall (d + 1) 125 [.ref a, a1, a2] (s, V) Q = zwp (zcall d) 125 Q (zB 125 0) [.ref a, a1, a2] [] (s, V) := zcall_in (by decide) rfl (zRc_t rfl ht (by decide) (by decide))
theorem zc_126 {d a : Nat} {a1 : Value} {s : zS} {V : zV} {Q : zO → zH → Prop} (ht : s.tg a = 9) : zcall (d + 1) 126 [.ref a, a1] (s, V) Q = zwp (zcall d) 126 Q (zB 126 0) [.ref a, a1] [] (s, V) := zcall_in (by decide) rfl (zRc_t rfl ht (by decide) (by decide))
theorem zc_127 {d a : Nat} {a1 : Value} {s : zS} {V : zV} {Q : zO → zH → Prop} (ht : s.tg a = 9) : zcall (d + 1) 127 [.ref a, a1] (s, V) Q = zwp (zcall d) 127 Q (zB 127 0) [.ref a, a1] [] (s, V) := zcall_in (by decide) rfl (zRc_t rfl ht (by decide) (by decide))
theorem zc_128 {d a : Nat} {a1 a2 : Value} {s : zS} {V : zV} {Q : zO → zH → Prop} (ht : s.tg a = 9) : zcall (d + 1) 128 [.ref a, a1, a2] (s, V) Q = zwp (zcall d) 128 Q (zB 128 0) [.ref a, a1, a2] [] (s, V) := zcall_in (by decide) rfl (zRc_t rfl ht (by decide) (by decide))
theorem zc_129 {d a : Nat} {a1 : Value} {s : zS} {V : zV} {Q : zO → zH → Prop} (ht : s.tg a = 9) : zcall (d + 1) 129 [.ref a, a1] (s, V) Q = zwp (zcall d) 129 Q (zB 129 0) [.ref a, a1] [] (s, V) := zcall_in (by decide) rfl (zRc_t rfl ht (by decide) (by decide))
theorem zc_130 {d a : Nat} {a1 a2 : Value} {s : zS} {V : zV} {Q : zO → zH → Prop} (ht : s.tg a = 9) : zcall (d + 1) 130 [.ref a, a1, a2] (s, V) Q = zwp (zcall d) 130 Q (zB 130 0) [.ref a, a1, a2] [] (s, V) := zcall_in (by decide) rfl (zRc_t rfl ht (by decide) (by decide))
theorem zc_131 {d a : Nat} {a1 a2 : Value} {s : zS} {V : zV} {Q : zO → zH → Prop} (ht : s.tg a = 9) : zcall (d + 1) 131 [.ref a, a1, a2] (s, V) Q = zwp (zcall d) 131 Q (zB 131 0) [.ref a, a1, a2] [] (s, V) := zcall_in (by decide) rfl (zRc_t rfl ht (by decide) (by decide))
theorem zc_132 {d a : Nat} {a1 : Value} {s : zS} {V : zV} {Q : zO → zH → Prop} (ht : s.tg a = 9) : zcall (d + 1) 132 [.ref a, a1] (s, V) Q = zwp (zcall d) 132 Q (zB 132 0) [.ref a, a1] [] (s, V) := zcall_in (by decide) rfl (zRc_t rfl ht (by decide) (by decide))
theorem zc_133 {d a : Nat} {a1 : Value} {s : zS} {V : zV} {Q : zO → zH → Prop} (ht : s.tg a = 9) : zcall (d + 1) 133 [.ref a, a1] (s, V) Q = zwp (zcall d) 133 Q (zB 133 0) [.ref a, a1] [] (s, V) := zcall_in (by decide) rfl (zRc_t rfl ht (by decide) (by decide))
theorem zc_134 {d a : Nat} {s : zS} {V : zV} {Q : zO → zH → Prop} (ht : s.tg a = 9) : zcall (d + 1) 134 [.ref a] (s, V) Q = zwp (zcall d) 134 Q (zB 134 0) [.ref a] [] (s, V) := zcall_in (by decide) rfl (zRc_t rfl ht (by decide) (by decide))
theorem zc_135 {d a : Nat} {s : zS} {V : zV} {Q : zO → zH → Prop} (ht : s.tg a = 9) : zcall (d + 1) 135 [.ref a] (s, V) Q = zwp (zcall d) 135 Q (zB 135 0) [.ref a] [] (s, V) := zcall_in (by decide) rfl (zRc_t rfl ht (by decide) (by decide))
theorem zc_136 {d a : Nat} {a1 : Value} {s : zS} {V : zV} {Q : zO → zH → Prop} (ht : s.tg a = 9) : zcall (d + 1) 136 [.ref a, a1] (s, V) Q = zwp (zcall d) 136 Q (zB 136 0) [.ref a, a1] [] (s, V) := zcall_in (by decide) rfl (zRc_t rfl ht (by decide) (by decide))
theorem zc_137 {d a : Nat} {a1 : Value} {s : zS} {V : zV} {Q : zO → zH → Prop} (ht : s.tg a = 9) : zcall (d + 1) 137 [.ref a, a1] (s, V) Q = zwp (zcall d) 137 Q (zB 137 0) [.ref a, a1] [] (s, V) := zcall_in (by decide) rfl (zRc_t rfl ht (by decide) (by decide))
theorem zc_138 {d a : Nat} {a1 : Value} {s : zS} {V : zV} {Q : zO → zH → Prop} (ht : s.tg a = 9) : zcall (d + 1) 138 [.ref a, a1] (s, V) Q = zwp (zcall d) 138 Q (zB 138 0) [.ref a, a1] [] (s, V) := zcall_in (by decide) rfl (zRc_t rfl ht (by decide) (by decide))
theorem zc_139 {d a : Nat} {s : zS} {V : zV} {Q : zO → zH → Prop} (ht : s.tg a = 9) : zcall (d + 1) 139 [.ref a] (s, V) Q = zwp (zcall d) 139 Q (zB 139 0) [.ref a] [] (s, V) := zcall_in (by decide) rfl (zRc_t rfl ht (by decide) (by decide))
theorem zc_140 {d a : Nat} {a1 : Value} {s : zS} {V : zV} {Q : zO → zH → Prop} (ht : s.tg a = 9) : zcall (d + 1) 140 [.ref a, a1] (s, V) Q = zwp (zcall d) 140 Q (zB 140 0) [.ref a, a1] [] (s, V) := zcall_in (by decide) rfl (zRc_t rfl ht (by decide) (by decide))
theorem zc_141 {d a : Nat} {a1 : Value} {s : zS} {V : zV} {Q : zO → zH → Prop} (ht : s.tg a = 9) : zcall (d + 1) 141 [.ref a, a1] (s, V) Q = zwp (zcall d) 141 Q (zB 141 0) [.ref a, a1, zJ] [] (s, V) := zcall_in (by decide) rfl (zRc_t rfl ht (by decide) (by decide))
theorem zc_142 {d a : Nat} {a1 : Value} {s : zS} {V : zV} {Q : zO → zH → Prop} (ht : s.tg a = 9) : zcall (d + 1) 142 [.ref a, a1] (s, V) Q = zwp (zcall d) 142 Q (zB 142 0) [.ref a, a1] [] (s, V) := zcall_in (by decide) rfl (zRc_t rfl ht (by decide) (by decide))
theorem zc_143 {d a : Nat} {a1 a2 : Value} {s : zS} {V : zV} {Q : zO → zH → Prop} (ht : s.tg a = 9) : zcall (d + 1) 143 [.ref a, a1, a2] (s, V) Q = zwp (zcall d) 143 Q (zB 143 0) [.ref a, a1, a2] [] (s, V) := zcall_in (by decide) rfl (zRc_t rfl ht (by decide) (by decide))
theorem zc_144 {d a : Nat} {s : zS} {V : zV} {Q : zO → zH → Prop} (ht : s.tg a = 9) : zcall (d + 1) 144 [.ref a] (s, V) Q = zwp (zcall d) 144 Q (zB 144 0) [.ref a] [] (s, V) := zcall_in (by decide) rfl (zRc_t rfl ht (by decide) (by decide))
theorem zc_145 {d a : Nat} {a1 : Value} {s : zS} {V : zV} {Q : zO → zH → Prop} (ht : s.tg a = 9) : zcall (d + 1) 145 [.ref a, a1] (s, V) Q = zwp (zcall d) 145 Q (zB 145 0) [.ref a, a1] [] (s, V) := zcall_in (by decide) rfl (zRc_t rfl ht (by decide) (by decide))
theorem zc_146 {d a : Nat} {a1 a2 : Value} {s : zS} {V : zV} {Q : zO → zH → Prop} (ht : s.tg a = 9) : zcall (d + 1) 146 [.ref a, a1, a2] (s, V) Q = zwp (zcall d) 146 Q (zB 146 0) [.ref a, a1, a2] [] (s, V) := zcall_in (by decide) rfl (zRc_t rfl ht (by decide) (by decide))
theorem zc_147 {d a : Nat} {a1 a2 : Value} {s : zS} {V : zV} {Q : zO → zH → Prop} (ht : s.tg a = 9) : zcall (d + 1) 147 [.ref a, a1, a2] (s, V) Q = zwp (zcall d) 147 Q (zB 147 0) [.ref a, a1, a2] [] (s, V) := zcall_in (by decide) rfl (zRc_t rfl ht (by decide) (by decide))
theorem zc_148 {d a : Nat} {a1 a2 a3 : Value} {s : zS} {V : zV} {Q : zO → zH → Prop} (ht : s.tg a = 9) : zcall (d + 1) 148 [.ref a, a1, a2, a3] (s, V) Q = zwp (zcall d) 148 Q (zB 148 0) [.ref a, a1, a2, a3] [] (s, V) := zcall_in (by decide) rfl (zRc_t rfl ht (by decide) (by decide))
theorem zc_149 {d a : Nat} {a1 : Value} {s : zS} {V : zV} {Q : zO → zH → Prop} (ht : s.tg a = 9) : zcall (d + 1) 149 [.ref a, a1] (s, V) Q = zwp (zcall d) 149 Q (zB 149 0) [.ref a, a1] [] (s, V) := zcall_in (by decide) rfl (zRc_t rfl ht (by decide) (by decide))
theorem zc_150 {d a : Nat} {a1 : Value} {s : zS} {V : zV} {Q : zO → zH → Prop} (ht : s.tg a = 9) : zcall (d + 1) 150 [.ref a, a1] (s, V) Q = zwp (zcall d) 150 Q (zB 150 0) [.ref a, a1] [] (s, V) := zcall_in (by decide) rfl (zRc_t rfl ht (by decide) (by decide))
theorem zc_151 {d a : Nat} {a1 : Value} {s : zS} {V : zV} {Q : zO → zH → Prop} (ht : s.tg a = 9) : zcall (d + 1) 151 [.ref a, a1] (s, V) Q = zwp (zcall d) 151 Q (zB 151 0) [.ref a, a1] [] (s, V) := zcall_in (by decide) rfl (zRc_t rfl ht (by decide) (by decide))
theorem zc_152 {d a : Nat} {s : zS} {V : zV} {Q : zO → zH → Prop} (ht : s.tg a = 9) : zcall (d + 1) 152 [.ref a] (s, V) Q = zwp (zcall d) 152 Q (zB 152 0) [.ref a] [] (s, V) := zcall_in (by decide) rfl (zRc_t rfl ht (by decide) (by decide))
theorem zc_153 {d a : Nat} {s : zS} {V : zV} {Q : zO → zH → Prop} (ht : s.tg a = 9) : zcall (d + 1) 153 [.ref a] (s, V) Q = zwp (zcall d) 153 Q (zB 153 0) [.ref a, zJ, zJ] [] (s, V) := zcall_in (by decide) rfl (zRc_t rfl ht (by decide) (by decide))
theorem zc_154 {d a : Nat} {s : zS} {V : zV} {Q : zO → zH → Prop} (ht : s.tg a = 9) : zcall (d + 1) 154 [.ref a] (s, V) Q = zwp (zcall d) 154 Q (zB 154 0) [.ref a] [] (s, V) := zcall_in (by decide) rfl (zRc_t rfl ht (by decide) (by decide))
theorem zc_155 {d a : Nat} {s : zS} {V : zV} {Q : zO → zH → Prop} (ht : s.tg a = 9) : zcall (d + 1) 155 [.ref a] (s, V) Q = zwp (zcall d) 155 Q (zB 155 0) [.ref a, zJ, zJ, zJ, zJ] [] (s, V) := zcall_in (by decide) rfl (zRc_t rfl ht (by decide) (by decide))
theorem zc_157 {d : Nat} {a0 a1 a2 : Value} {h : zH} {Q : zO → zH → Prop} : zcall (d + 1) 157 [a0, a1, a2] h Q = zwp (zcall d) 157 Q (zB 157 0) [a0, a1, a2] [] h := zcall_in (by decide) rfl (zRc_9 rfl)
theorem zc_158 {d : Nat} {a0 a1 : Value} {h : zH} {Q : zO → zH → Prop} : zcall (d + 1) 158 [a0, a1] h Q = zwp (zcall d) 158 Q (zB 158 0) [a0, a1] [] h := zcall_in (by decide) rfl (zRc_9 rfl)
theorem zc_159 {d : Nat} {a0 : Value} {h : zH} {Q : zO → zH → Prop} : zcall (d + 1) 159 [a0] h Q = zwp (zcall d) 159 Q (zB 159 0) [a0, zJ, zJ, zJ] [] h := zcall_in (by decide) rfl (zRc_9 rfl)
theorem zc_160 {d : Nat} {a0 : Value} {h : zH} {Q : zO → zH → Prop} : zcall (d + 1) 160 [a0] h Q = zwp (zcall d) 160 Q (zB 160 0) [a0] [] h := zcall_in (by decide) rfl (zRc_9 rfl)
theorem zc_161 {d a : Nat} {s : zS} {V : zV} {Q : zO → zH → Prop} (ht : s.tg a = 10) : zcall (d + 1) 161 [.ref a] (s, V) Q = zwp (zcall d) 161 Q (zB 161 0) [.ref a] [] (s, V) := zcall_in (by decide) rfl (zRc_t rfl ht (by decide) (by decide))
theorem zc_162 {d : Nat} {a0 a1 a2 : Value} {h : zH} {Q : zO → zH → Prop} : zcall (d + 1) 162 [a0, a1, a2] h Q = zwp (zcall d) 162 Q (zB 162 0) [a0, a1, a2] [] h := zcall_in (by decide) rfl (zRc_9 rfl)
theorem zc_163 {d a : Nat} {a1 : Value} {s : zS} {V : zV} {Q : zO → zH → Prop} (ht : s.tg a = 10) : zcall (d + 1) 163 [.ref a, a1] (s, V) Q = zwp (zcall d) 163 Q (zB 163 0) [.ref a, a1] [] (s, V) := zcall_in (by decide) rfl (zRc_t rfl ht (by decide) (by decide))
theorem zc_164 {d a : Nat} {a1 : Value} {s : zS} {V : zV} {Q : zO → zH → Prop} (ht : s.tg a = 10) : zcall (d + 1) 164 [.ref a, a1] (s, V) Q = zwp (zcall d) 164 Q (zB 164 0) [.ref a, a1] [] (s, V) := zcall_in (by decide) rfl (zRc_t rfl ht (by decide) (by decide))
theorem zc_165 {d a : Nat} {s : zS} {V : zV} {Q : zO → zH → Prop} (ht : s.tg a = 10) : zcall (d + 1) 165 [.ref a] (s, V) Q = zwp (zcall d) 165 Q (zB 165 0) [.ref a, zJ] [] (s, V) := zcall_in (by decide) rfl (zRc_t rfl ht (by decide) (by decide))
theorem zc_166 {d a : Nat} {s : zS} {V : zV} {Q : zO → zH → Prop} (ht : s.tg a = 10) : zcall (d + 1) 166 [.ref a] (s, V) Q = zwp (zcall d) 166 Q (zB 166 0) [.ref a, zJ] [] (s, V) := zcall_in (by decide) rfl (zRc_t rfl ht (by decide) (by decide))
theorem zc_167 {d a : Nat} {a1 : Value} {s : zS} {V : zV} {Q : zO → zH → Prop} (ht : s.tg a = 10) : zcall (d + 1) 167 [.ref a, a1] (s, V) Q = zwp (zcall d) 167 Q (zB 167 0) [.ref a, a1, zJ] [] (s, V) := zcall_in (by decide) rfl (zRc_t rfl ht (by decide) (by decide))
theorem zc_168 {d a : Nat} {a1 a2 : Value} {s : zS} {V : zV} {Q : zO → zH → Prop} (ht : s.tg a = 10) : zcall (d + 1) 168 [.ref a, a1, a2] (s, V) Q = zwp (zcall d) 168 Q (zB 168 0) [.ref a, a1, a2] [] (s, V) := zcall_in (by decide) rfl (zRc_t rfl ht (by decide) (by decide))
theorem zc_169 {d a : Nat} {a1 a2 a3 : Value} {s : zS} {V : zV} {Q : zO → zH → Prop} (ht : s.tg a = 10) : zcall (d + 1) 169 [.ref a, a1, a2, a3] (s, V) Q = zwp (zcall d) 169 Q (zB 169 0) [.ref a, a1, a2, a3] [] (s, V) := zcall_in (by decide) rfl (zRc_t rfl ht (by decide) (by decide))
theorem zc_170 {d a : Nat} {a1 a2 : Value} {s : zS} {V : zV} {Q : zO → zH → Prop} (ht : s.tg a = 10) : zcall (d + 1) 170 [.ref a, a1, a2] (s, V) Q = zwp (zcall d) 170 Q (zB 170 0) [.ref a, a1, a2] [] (s, V) := zcall_in (by decide) rfl (zRc_t rfl ht (by decide) (by decide))
theorem zc_171 {d a : Nat} {a1 : Value} {s : zS} {V : zV} {Q : zO → zH → Prop} (ht : s.tg a = 10) : zcall (d + 1) 171 [.ref a, a1] (s, V) Q = zwp (zcall d) 171 Q (zB 171 0) [.ref a, a1] [] (s, V) := zcall_in (by decide) rfl (zRc_t rfl ht (by decide) (by decide))
theorem zc_172 {d a : Nat} {a1 : Value} {s : zS} {V : zV} {Q : zO → zH → Prop} (ht : s.tg a = 10) : zcall (d + 1) 172 [.ref a, a1] (s, V) Q = zwp (zcall d) 172 Q (zB 172 0) [.ref a, a1] [] (s, V) := zcall_in (by decide) rfl (zRc_t rfl ht (by decide) (by decide))
theorem zc_173 {d a : Nat} {a1 : Value} {s : zS} {V : zV} {Q : zO → zH → Prop} (ht : s.tg a = 10) : zcall (d + 1) 173 [.ref a, a1] (s, V) Q = zwp (zcall d) 173 Q (zB 173 0) [.ref a, a1] [] (s, V) := zcall_in (by decide) rfl (zRc_t rfl ht (by decide) (by decide))
theorem zc_174 {d a : Nat} {a1 : Value} {s : zS} {V : zV} {Q : zO → zH → Prop} (ht : s.tg a = 10) : zcall (d + 1) 174 [.ref a, a1] (s, V) Q = zwp (zcall d) 174 Q (zB 174 0) [.ref a, a1] [] (s, V) := zcall_in (by decide) rfl (zRc_t rfl ht (by decide) (by decide))
theorem zc_175 {d a : Nat} {a1 : Value} {s : zS} {V : zV} {Q : zO → zH → Prop} (ht : s.tg a = 10) : zcall (d + 1) 175 [.ref a, a1] (s, V) Q = zwp (zcall d) 175 Q (zB 175 0) [.ref a, a1] [] (s, V) := zcall_in (by decide) rfl (zRc_t rfl ht (by decide) (by decide))
theorem zc_176 {d a : Nat} {a1 : Value} {s : zS} {V : zV} {Q : zO → zH → Prop} (ht : s.tg a = 10) : zcall (d + 1) 176 [.ref a, a1] (s, V) Q = zwp (zcall d) 176 Q (zB 176 0) [.ref a, a1] [] (s, V) := zcall_in (by decide) rfl (zRc_t rfl ht (by decide) (by decide))
theorem zc_177 {d a : Nat} {a1 : Value} {s : zS} {V : zV} {Q : zO → zH → Prop} (ht : s.tg a = 10) : zcall (d + 1) 177 [.ref a, a1] (s, V) Q = zwp (zcall d) 177 Q (zB 177 0) [.ref a, a1] [] (s, V) := zcall_in (by decide) rfl (zRc_t rfl ht (by decide) (by decide))
theorem zc_178 {d a : Nat} {a1 a2 : Value} {s : zS} {V : zV} {Q : zO → zH → Prop} (ht : s.tg a = 10) : zcall (d + 1) 178 [.ref a, a1, a2] (s, V) Q = zwp (zcall d) 178 Q (zB 178 0) [.ref a, a1, a2, zJ] [] (s, V) := zcall_in (by decide) rfl (zRc_t rfl ht (by decide) (by decide))
theorem zc_179 {d a : Nat} {a1 : Value} {s : zS} {V : zV} {Q : zO → zH → Prop} (ht : s.tg a = 10) : zcall (d + 1) 179 [.ref a, a1] (s, V) Q = zwp (zcall d) 179 Q (zB 179 0) [.ref a, a1, zJ, zJ] [] (s, V) := zcall_in (by decide) rfl (zRc_t rfl ht (by decide) (by decide))
theorem zc_180 {d a : Nat} {s : zS} {V : zV} {Q : zO → zH → Prop} (ht : s.tg a = 10) : zcall (d + 1) 180 [.ref a] (s, V) Q = zwp (zcall d) 180 Q (zB 180 0) [.ref a, zJ, zJ, zJ] [] (s, V) := zcall_in (by decide) rfl (zRc_t rfl ht (by decide) (by decide))
theorem zc_181 {d a : Nat} {s : zS} {V : zV} {Q : zO → zH → Prop} (ht : s.tg a = 10) : zcall (d + 1) 181 [.ref a] (s, V) Q = zwp (zcall d) 181 Q (zB 181 0) [.ref a, zJ, zJ, zJ] [] (s, V) := zcall_in (by decide) rfl (zRc_t rfl ht (by decide) (by decide))
theorem zc_182 {d a : Nat} {a1 a2 : Value} {s : zS} {V : zV} {Q : zO → zH → Prop} (ht : s.tg a = 10) : zcall (d + 1) 182 [.ref a, a1, a2] (s, V) Q = zwp (zcall d) 182 Q (zB 182 0) [.ref a, a1, a2] [] (s, V) := zcall_in (by decide) rfl (zRc_t rfl ht (by decide) (by decide))
theorem zc_183 {d a : Nat} {a1 : Value} {s : zS} {V : zV} {Q : zO → zH → Prop} (ht : s.tg a = 10) : zcall (d + 1) 183 [.ref a, a1] (s, V) Q = zwp (zcall d) 183 Q (zB 183 0) [.ref a, a1, zJ] [] (s, V) := zcall_in (by decide) rfl (zRc_t rfl ht (by decide) (by decide))
theorem zc_184 {d a : Nat} {a1 a2 a3 a4 a5 : Value} {s : zS} {V : zV} {Q : zO → zH → Prop} (ht : s.tg a = 10) : zcall (d + 1) 184 [.ref a, a1, a2, a3, a4, a5] (s, V) Q = zwp (zcall d) 184 Q (zB 184 0) [.ref a, a1, a2, a3, a4, a5, zJ] [] (s, V) := zcall_in (by decide) rfl (zRc_t rfl ht (by decide) (by decide))
theorem zc_185 {d : Nat} {a0 a1 : Value} {h : zH} {Q : zO → zH → Prop} : zcall (d + 1) 185 [a0, a1] h Q = zwp (zcall d) 185 Q (zB 185 0) [a0, a1] [] h := zcall_in (by decide) rfl (zRc_9 rfl)
theorem zc_186 {d a : Nat} {a1 a2 a3 : Value} {s : zS} {V : zV} {Q : zO → zH → Prop} (ht : s.tg a = 10) : zcall (d + 1) 186 [.ref a, a1, a2, a3] (s, V) Q = zwp (zcall d) 186 Q (zB 186 0) [.ref a, a1, a2, a3] [] (s, V) := zcall_in (by decide) rfl (zRc_t rfl ht (by decide) (by decide))
theorem zc_187 {d a : Nat} {s : zS} {V : zV} {Q : zO → zH → Prop} (ht : s.tg a = 10) : zcall (d + 1) 187 [.ref a] (s, V) Q = zwp (zcall d) 187 Q (zB 187 0) [.ref a, zJ, zJ] [] (s, V) := zcall_in (by decide) rfl (zRc_t rfl ht (by decide) (by decide))
theorem zc_188 {d a : Nat} {a1 : Value} {s : zS} {V : zV} {Q : zO → zH → Prop} (ht : s.tg a = 10) : zcall (d + 1) 188 [.ref a, a1] (s, V) Q = zwp (zcall d) 188 Q (zB 188 0) [.ref a, a1] [] (s, V) := zcall_in (by decide) rfl (zRc_t rfl ht (by decide) (by decide))
theorem zc_189 {d a : Nat} {a1 : Value} {s : zS} {V : zV} {Q : zO → zH → Prop} (ht : s.tg a = 10) : zcall (d + 1) 189 [.ref a, a1] (s, V) Q = zwp (zcall d) 189 Q (zB 189 0) [.ref a, a1] [] (s, V) := zcall_in (by decide) rfl (zRc_t rfl ht (by decide) (by decide))
theorem zc_190 {d a : Nat} {a1 : Value} {s : zS} {V : zV} {Q : zO → zH → Prop} (ht : s.tg a = 10) : zcall (d + 1) 190 [.ref a, a1] (s, V) Q = zwp (zcall d) 190 Q (zB 190 0) [.ref a, a1] [] (s, V) := zcall_in (by decide) rfl (zRc_t rfl ht (by decide) (by decide))
theorem zc_191 {d a : Nat} {a1 : Value} {s : zS} {V : zV} {Q : zO → zH → Prop} (ht : s.tg a = 10) : zcall (d + 1) 191 [.ref a, a1] (s, V) Q = zwp (zcall d) 191 Q (zB 191 0) [.ref a, a1, zJ, zJ] [] (s, V) := zcall_in (by decide) rfl (zRc_t rfl ht (by decide) (by decide))
theorem zc_192 {d a : Nat} {a1 : Value} {s : zS} {V : zV} {Q : zO → zH → Prop} (ht : s.tg a = 10) : zcall (d + 1) 192 [.ref a, a1] (s, V) Q = zwp (zcall d) 192 Q (zB 192 0) [.ref a, a1] [] (s, V) := zcall_in (by decide) rfl (zRc_t rfl ht (by decide) (by decide))
theorem zc_193 {d a : Nat} {a1 : Value} {s : zS} {V : zV} {Q : zO → zH → Prop} (ht : s.tg a = 10) : zcall (d + 1) 193 [.ref a, a1] (s, V) Q = zwp (zcall d) 193 Q (zB 193 0) [.ref a, a1] [] (s, V) := zcall_in (by decide) rfl (zRc_t rfl ht (by decide) (by decide))
theorem zc_194 {d a : Nat} {a1 a2 a3 a4 a5 : Value} {s : zS} {V : zV} {Q : zO → zH → Prop} (ht : s.tg a = 10) : zcall (d + 1) 194 [.ref a, a1, a2, a3, a4, a5] (s, V) Q = zwp (zcall d) 194 Q (zB 194 0) [.ref a, a1, a2, a3, a4, a5] [] (s, V) := zcall_in (by decide) rfl (zRc_t rfl ht (by decide) (by decide))
theorem zc_195 {d a : Nat} {a1 : Value} {s : zS} {V : zV} {Q : zO → zH → Prop} (ht : s.tg a = 10) : zcall (d + 1) 195 [.ref a, a1] (s, V) Q = zwp (zcall d) 195 Q (zB 195 0) [.ref a, a1, zJ, zJ] [] (s, V) := zcall_in (by decide) rfl (zRc_t rfl ht (by decide) (by decide))
theorem zc_196 {d a : Nat} {a1 : Value} {s : zS} {V : zV} {Q : zO → zH → Prop} (ht : s.tg a = 10) : zcall (d + 1) 196 [.ref a, a1] (s, V) Q = zwp (zcall d) 196 Q (zB 196 0) [.ref a, a1, zJ] [] (s, V) := zcall_in (by decide) rfl (zRc_t rfl ht (by decide) (by decide))
theorem zc_197 {d a : Nat} {a1 a2 a3 : Value} {s : zS} {V : zV} {Q : zO → zH → Prop} (ht : s.tg a = 10) : zcall (d + 1) 197 [.ref a, a1, a2, a3] (s, V) Q = zwp (zcall d) 197 Q (zB 197 0) [.ref a, a1, a2, a3] [] (s, V) := zcall_in (by decide) rfl (zRc_t rfl ht (by decide) (by decide))
theorem zc_198 {d a : Nat} {a1 a2 : Value} {s : zS} {V : zV} {Q : zO → zH → Prop} (ht : s.tg a = 10) : zcall (d + 1) 198 [.ref a, a1, a2] (s, V) Q = zwp (zcall d) 198 Q (zB 198 0) [.ref a, a1, a2, zJ] [] (s, V) := zcall_in (by decide) rfl (zRc_t rfl ht (by decide) (by decide))
theorem zc_199 {d a : Nat} {s : zS} {V : zV} {Q : zO → zH → Prop} (ht : s.tg a = 10) : zcall (d + 1) 199 [.ref a] (s, V) Q = zwp (zcall d) 199 Q (zB 199 0) [.ref a] [] (s, V) := zcall_in (by decide) rfl (zRc_t rfl ht (by decide) (by decide))
theorem zc_200 {d a : Nat} {s : zS} {V : zV} {Q : zO → zH → Prop} (ht : s.tg a = 10) : zcall (d + 1) 200 [.ref a] (s, V) Q = zwp (zcall d) 200 Q (zB 200 0) [.ref a] [] (s, V) := zcall_in (by decide) rfl (zRc_t rfl ht (by decide) (by decide))
theorem zc_201 {d a : Nat} {a1 a2 : Value} {s : zS} {V : zV} {Q : zO → zH → Prop} (ht : s.tg a = 10) : zcall (d + 1) 201 [.ref a, a1, a2] (s, V) Q = zwp (zcall d) 201 Q (zB 201 0) [.ref a, a1, a2] [] (s, V) := zcall_in (by decide) rfl (zRc_t rfl ht (by decide) (by decide))
theorem zc_202 {d a : Nat} {a1 a2 : Value} {s : zS} {V : zV} {Q : zO → zH → Prop} (ht : s.tg a = 10) : zcall (d + 1) 202 [.ref a, a1, a2] (s, V) Q = zwp (zcall d) 202 Q (zB 202 0) [.ref a, a1, a2] [] (s, V) := zcall_in (by decide) rfl (zRc_t rfl ht (by decide) (by decide))
theorem zc_203 {d a : Nat} {a1 a2 : Value} {s : zS} {V : zV} {Q : zO → zH → Prop} (ht : s.tg a = 10) : zcall (d + 1) 203 [.ref a, a1, a2] (s, V) Q = zwp (zcall d) 203 Q (zB 203 0) [.ref a, a1, a2] [] (s, V) := zcall_in (by decide) rfl (zRc_t rfl ht (by decide) (by decide))
theorem zc_204 {d a : Nat} {a1 a2 : Value} {s : zS} {V : zV} {Q : zO → zH → Prop} (ht : s.tg a = 10) : zcall (d + 1) 204 [.ref a, a1, a2] (s, V) Q = zwp (zcall d) 204 Q (zB 204 0) [.ref a, a1, a2] [] (s, V) := zcall_in (by decide) rfl (zRc_t rfl ht (by decide) (by decide))
theorem zc_205 {d a : Nat} {a1 a2 : Value} {s : zS} {V : zV} {Q : zO → zH → Prop} (ht : s.tg a = 10) : zcall (d + 1) 205 [.ref a, a1, a2] (s, V) Q = zwp (zcall d) 205 Q (zB 205 0) [.ref a, a1, a2] [] (s, V) := zcall_in (by decide) rfl (zRc_t rfl ht (by decide) (by decide))
theorem zc_206 {d a : Nat} {a1 : Value} {s : zS} {V : zV} {Q : zO → zH → Prop} (ht : s.tg a = 10) : zcall (d + 1) 206 [.ref a, a1] (s, V) Q = zwp (zcall d) 206 Q (zB 206 0) [.ref a, a1] [] (s, V) := zcall_in (by decide) rfl (zRc_t rfl ht (by decide) (by decide))
theorem zc_207 {d a : Nat} {s : zS} {V : zV} {Q : zO → zH → Prop} (ht : s.tg a = 10) : zcall (d + 1) 207 [.ref a] (s, V) Q = zwp (zcall d) 207 Q (zB 207 0) [.ref a, zJ, zJ, zJ, zJ] [] (s, V) := zcall_in (by decide) rfl (zRc_t rfl ht (by decide) (by decide))
theorem zc_208 {d a : Nat} {a1 : Value} {s : zS} {V : zV} {Q : zO → zH → Prop} (ht : s.tg a = 10) : zcall (d + 1) 208 [.ref a, a1] (s, V) Q = zwp (zcall d) 208 Q (zB 208 0) [.ref a, a1] [] (s, V) := zcall_in (by decide) rfl (zRc_t rfl ht (by decide) (by decide))
theorem zc_209 {d a : Nat} {a1 : Value} {s : zS} {V : zV} {Q : zO → zH → Prop} (ht : s.tg a = 10) : zcall (d + 1) 209 [.ref a, a1] (s, V) Q = zwp (zcall d) 209 Q (zB 209 0) [.ref a, a1] [] (s, V) := zcall_in (by decide) rfl (zRc_t rfl ht (by decide) (by decide))
theorem zc_210 {d a : Nat} {a1 a2 a3 : Value} {s : zS} {V : zV} {Q : zO → zH → Prop} (ht : s.tg a = 10) : zcall (d + 1) 210 [.ref a, a1, a2, a3] (s, V) Q = zwp (zcall d) 210 Q (zB 210 0) [.ref a, a1, a2, a3] [] (s, V) := zcall_in (by decide) rfl (zRc_t rfl ht (by decide) (by decide))
theorem zc_211 {d a : Nat} {s : zS} {V : zV} {Q : zO → zH → Prop} (ht : s.tg a = 10) : zcall (d + 1) 211 [.ref a] (s, V) Q = zwp (zcall d) 211 Q (zB 211 0) [.ref a, zJ] [] (s, V) := zcall_in (by decide) rfl (zRc_t rfl ht (by decide) (by decide))
theorem zc_212 {d a : Nat} {a1 : Value} {s : zS} {V : zV} {Q : zO → zH → Prop} (ht : s.tg a = 10) : zcall (d + 1) 212 [.ref a, a1] (s, V) Q = zwp (zcall d) 212 Q (zB 212 0) [.ref a, a1] [] (s, V) := zcall_in (by decide) rfl (zRc_t rfl ht (by decide) (by decide))
theorem zc_213 {d a : Nat} {s : zS} {V : zV} {Q : zO → zH → Prop} (ht : s.tg a = 10) : zcall (d + 1) 213 [.ref a] (s, V) Q = zwp (zcall d) 213 Q (zB 213 0) [.ref a, zJ, zJ] [] (s, V) := zcall_in (by decide) rfl (zRc_t rfl ht (by decide) (by decide))
theorem zc_214 {d a : Nat} {a1 a2 : Value} {s : zS} {V : zV} {Q : zO → zH → Prop} (ht : s.tg a = 10) : zcall (d + 1) 214 [.ref a, a1, a2] (s, V) Q = zwp (zcall d) 214 Q (zB 214 0) [.ref a, a1, a2, zJ] [] (s, V) := zcall_in (by decide) rfl (zRc_t rfl ht (by decide) (by decide))
theorem zc_215 {d a : Nat} {s : zS} {V : zV} {Q : zO → zH → Prop} (ht : s.tg a = 10) : zcall (d + 1) 215 [.ref a] (s, V) Q = zwp (zcall d) 215 Q (zB 215 0) [.ref a, zJ, zJ, zJ, zJ] [] (s, V) := zcall_in (by decide) rfl (zRc_t rfl ht (by decide) (by decide))
theorem zc_216 {d a : Nat} {s : zS} {V : zV} {Q : zO → zH → Prop} (ht : s.tg a = 10) : zcall (d + 1) 216 [.ref a] (s, V) Q = zwp (zcall d) 216 Q (zB 216 0) [.ref a, zJ] [] (s, V) := zcall_in (by decide) rfl (zRc_t rfl ht (by decide) (by decide))
theorem zc_217 {d a : Nat} {a1 a2 : Value} {s : zS} {V : zV} {Q : zO → zH → Prop} (ht : s.tg a = 10) : zcall (d + 1) 217 [.ref a, a1, a2] (s, V) Q = zwp (zcall d) 217 Q (zB 217 0) [.ref a, a1, a2, zJ, zJ, zJ] [] (s, V) := zcall_in (by decide) rfl (zRc_t rfl ht (by decide) (by decide))
theorem zc_218 {d a : Nat} {a1 a2 : Value} {s : zS} {V : zV} {Q : zO → zH → Prop} (ht : s.tg a = 10) : zcall (d + 1) 218 [.ref a, a1, a2] (s, V) Q = zwp (zcall d) 218 Q (zB 218 0) [.ref a, a1, a2, zJ, zJ] [] (s, V) := zcall_in (by decide) rfl (zRc_t rfl ht (by decide) (by decide))
theorem zc_219 {d a : Nat} {a1 : Value} {s : zS} {V : zV} {Q : zO → zH → Prop} (ht : s.tg a = 10) : zcall (d + 1) 219 [.ref a, a1] (s, V) Q = zwp (zcall d) 219 Q (zB 219 0) [.ref a, a1] [] (s, V) := zcall_in (by decide) rfl (zRc_t rfl ht (by decide) (by decide))
theorem zc_220 {d a : Nat} {a1 a2 : Value} {s : zS} {V : zV} {Q : zO → zH → Prop} (ht : s.tg a = 10) : zcall (d + 1) 220 [.ref a, a1, a2] (s, V) Q = zwp (zcall d) 220 Q (zB 220 0) [.ref a, a1, a2] [] (s, V) := zcall_in (by decide) rfl (zRc_t rfl ht (by decide) (by decide))
theorem zc_221 {d a : Nat} {a1 a2 : Value} {s : zS} {V : zV} {Q : zO → zH → Prop} (ht : s.tg a = 10) : zcall (d + 1) 221 [.ref a, a1, a2] (s, V) Q = zwp (zcall d) 221 Q (zB 221 0) [.ref a, a1, a2] [] (s, V) := zcall_in (by decide) rfl (zRc_t rfl ht (by decide) (by decide))
theorem zc_222 {d a : Nat} {a1 : Value} {s : zS} {V : zV} {Q : zO → zH → Prop} (ht : s.tg a = 10) : zcall (d + 1) 222 [.ref a, a1] (s, V) Q = zwp (zcall d) 222 Q (zB 222 0) [.ref a, a1, zJ] [] (s, V) := zcall_in (by decide) rfl (zRc_t rfl ht (by decide) (by decide))
theorem zc_223 {d a : Nat} {a1 : Value} {s : zS} {V : zV} {Q : zO → zH → Prop} (ht : s.tg a = 10) : zcall (d + 1) 223 [.ref a, a1] (s, V) Q = zwp (zcall d) 223 Q (zB 223 0) [.ref a, a1, zJ, zJ, zJ] [] (s, V) := zcall_in (by decide) rfl (zRc_t rfl ht (by decide) (by decide))
theorem zc_224 {d a : Nat} {s : zS} {V : zV} {Q : zO → zH → Prop} (ht : s.tg a = 10) : zcall (d + 1) 224 [.ref a] (s, V) Q = zwp (zcall d) 224 Q (zB 224 0) [.ref a, zJ] [] (s, V) := zcall_in (by decide) rfl (zRc_t rfl ht (by decide) (by decide))
theorem zc_225 {d a : Nat} {a1 : Value} {s : zS} {V : zV} {Q : zO → zH → Prop} (ht : s.tg a = 10) : zcall (d + 1) 225 [.ref a, a1] (s, V) Q = zwp (zcall d) 225 Q (zB 225 0) [.ref a, a1] [] (s, V) := zcall_in (by decide) rfl (zRc_t rfl ht (by decide) (by decide))
theorem zc_226 {d a : Nat} {s : zS} {V : zV} {Q : zO → zH → Prop} (ht : s.tg a = 10) : zcall (d + 1) 226 [.ref a] (s, V) Q = zwp (zcall d) 226 Q (zB 226 0) [.ref a, zJ, zJ] [] (s, V) := zcall_in (by decide) rfl (zRc_t rfl ht (by decide) (by decide))
theorem zc_227 {d a : Nat} {s : zS} {V : zV} {Q : zO → zH → Prop} (ht : s.tg a = 10) : zcall (d + 1) 227 [.ref a] (s, V) Q = zwp (zcall d) 227 Q (zB 227 0) [.ref a] [] (s, V) := zcall_in (by decide) rfl (zRc_t rfl ht (by decide) (by decide))
theorem zc_228 {d a : Nat} {s : zS} {V : zV} {Q : zO → zH → Prop} (ht : s.tg a = 10) : zcall (d + 1) 228 [.ref a] (s, V) Q = zwp (zcall d) 228 Q (zB 228 0) [.ref a, zJ, zJ, zJ] [] (s, V) := zcall_in (by decide) rfl (zRc_t rfl ht (by decide) (by decide))
theorem zc_229 {d a : Nat} {s : zS} {V : zV} {Q : zO → zH → Prop} (ht : s.tg a = 10) : zcall (d + 1) 229 [.ref a] (s, V) Q = zwp (zcall d) 229 Q (zB 229 0) [.ref a, zJ, zJ] [] (s, V) := zcall_in (by decide) rfl (zRc_t rfl ht (by decide) (by decide))
theorem zc_230 {d a : Nat} {a1 a2 : Value} {s : zS} {V : zV} {Q : zO → zH → Prop} (ht : s.tg a = 10) : zcall (d + 1) 230 [.ref a, a1, a2] (s, V) Q = zwp (zcall d) 230 Q (zB 230 0) [.ref a, a1, a2, zJ, zJ, zJ, zJ] [] (s, V) := zcall_in (by decide) rfl (zRc_t rfl ht (by decide) (by decide))
theorem zc_231 {d a : Nat} {s : zS} {V : zV} {Q : zO → zH → Prop} (ht : s.tg a = 10) : zcall (d + 1) 231 [.ref a] (s, V) Q = zwp (zcall d) 231 Q (zB 231 0) [.ref a, zJ, zJ, zJ, zJ, zJ] [] (s, V) := zcall_in (by decide) rfl (zRc_t rfl ht (by decide) (by decide))
theorem zc_232 {d a : Nat} {a1 : Value} {s : zS} {V : zV} {Q : zO → zH → Prop} (ht : s.tg a = 10) : zcall (d + 1) 232 [.ref a, a1] (s, V) Q = zwp (zcall d) 232 Q (zB 232 0) [.ref a, a1] [] (s, V) := zcall_in (by decide) rfl (zRc_t rfl ht (by decide) (by decide))
theorem zc_233 {d a : Nat} {a1 : Value} {s : zS} {V : zV} {Q : zO → zH → Prop} (ht : s.tg a = 10) : zcall (d + 1) 233 [.ref a, a1] (s, V) Q = zwp (zcall d) 233 Q (zB 233 0) [.ref a, a1] [] (s, V) := zcall_in (by decide) rfl (zRc_t rfl ht (by decide) (by decide))
theorem zc_234 {d a : Nat} {a1 : Value} {s : zS} {V : zV} {Q : zO → zH → Prop} (ht : s.tg a = 10) : zcall (d + 1) 234 [.ref a, a1] (s, V) Q = zwp (zcall d) 234 Q (zB 234 0) [.ref a, a1] [] (s, V) := zcall_in (by decide) rfl (zRc_t rfl ht (by decide) (by decide))
theorem zc_235 {d a : Nat} {s : zS} {V : zV} {Q : zO → zH → Prop} (ht : s.tg a = 10) : zcall (d + 1) 235 [.ref a] (s, V) Q = zwp (zcall d) 235 Q (zB 235 0) [.ref a] [] (s, V) := zcall_in (by decide) rfl (zRc_t rfl ht (by decide) (by decide))
theorem zc_236 {d a : Nat} {a1 : Value} {s : zS} {V : zV} {Q : zO → zH → Prop} (ht : s.tg a = 10) : zcall (d + 1) 236 [.ref a, a1] (s, V) Q = zwp (zcall d) 236 Q (zB 236 0) [.ref a, a1, zJ, zJ] [] (s, V) := zcall_in (by decide) rfl (zRc_t rfl ht (by decide) (by decide))
theorem zc_237 {d a : Nat} {a1 : Value} {s : zS} {V : zV} {Q : zO → zH → Prop} (ht : s.tg a = 10) : zcall (d + 1) 237 [.ref a, a1] (s, V) Q = zwp (zcall d) 237 Q (zB 237 0) [.ref a, a1] [] (s, V) := zcall_in (by decide) rfl (zRc_t rfl ht (by decide) (by decide))
theorem zc_238 {d a : Nat} {a1 : Value} {s : zS} {V : zV} {Q : zO → zH → Prop} (ht : s.tg a = 10) : zcall (d + 1) 238 [.ref a, a1] (s, V) Q = zwp (zcall d) 238 Q (zB 238 0) [.ref a, a1, zJ] [] (s, V) := zcall_in (by decide) rfl (zRc_t rfl ht (by decide) (by decide))
theorem zc_239 {d a : Nat} {a1 a2 : Value} {s : zS} {V : zV} {Q : zO → zH → Prop} (ht : s.tg a = 10) : zcall (d + 1) 239 [.ref a, a1, a2] (s, V) Q = zwp (zcall d) 239 Q (zB 239 0) [.ref a, a1, a2, zJ, zJ, zJ] [] (s, V) := zcall_in (by decide) rfl (zRc_t rfl ht (by decide) (by decide))
theorem zc_240 {d a : Nat} {a1 : Value} {s : zS} {V : zV} {Q : zO → zH → Prop} (ht : s.tg a = 10) : zcall (d + 1) 240 [.ref a, a1] (s, V) Q = zwp (zcall d) 240 Q (zB 240 0) [.ref a, a1, zJ, zJ, zJ, zJ, zJ, zJ] [] (s, V) := zcall_in (by decide) rfl (zRc_t rfl ht (by decide) (by decide))
theorem zc_241 {d a : Nat} {a1 : Value} {s : zS} {V : zV} {Q : zO → zH → Prop} (ht : s.tg a = 10) : zcall (d + 1) 241 [.ref a, a1] (s, V) Q = zwp (zcall d) 241 Q (zB 241 0) [.ref a, a1] [] (s, V) := zcall_in (by decide) rfl (zRc_t rfl ht (by decide) (by decide))
theorem zc_242 {d a : Nat} {a1 a2 : Value} {s : zS} {V : zV} {Q : zO → zH → Prop} (ht : s.tg a = 10) : zcall (d + 1) 242 [.ref a, a1, a2] (s, V) Q = zwp (zcall d) 242 Q (zB 242 0) [.ref a, a1, a2, zJ] [] (s, V) := zcall_in (by decide) rfl (zRc_t rfl ht (by decide) (by decide))
theorem zc_243 {d a : Nat} {a1 : Value} {s : zS} {V : zV} {Q : zO → zH → Prop} (ht : s.tg a = 10) : zcall (d + 1) 243 [.ref a, a1] (s, V) Q = zwp (zcall d) 243 Q (zB 243 0) [.ref a, a1, zJ, zJ] [] (s, V) := zcall_in (by decide) rfl (zRc_t rfl ht (by decide) (by decide))
theorem zc_244 {d a : Nat} {a1 a2 a3 : Value} {s : zS} {V : zV} {Q : zO → zH → Prop} (ht : s.tg a = 10) : zcall (d + 1) 244 [.ref a, a1, a2, a3] (s, V) Q = zwp (zcall d) 244 Q (zB 244 0) [.ref a, a1, a2, a3, zJ] [] (s, V) := zcall_in (by decide) rfl (zRc_t rfl ht (by decide) (by decide))
theorem zc_245 {d a : Nat} {s : zS} {V : zV} {Q : zO → zH → Prop} (ht : s.tg a = 10) : zcall (d + 1) 245 [.ref a] (s, V) Q = zwp (zcall d) 245 Q (zB 245 0) [.ref a, zJ, zJ, zJ, zJ, zJ] [] (s, V) := zcall_in (by decide) rfl (zRc_t rfl ht (by decide) (by decide))
theorem zc_246 {d a : Nat} {s : zS} {V : zV} {Q : zO → zH → Prop} (ht : s.tg a = 10) : zcall (d + 1) 246 [.ref a] (s, V) Q = zwp (zcall d) 246 Q (zB 246 0) [.ref a] [] (s, V) := zcall_in (by decide) rfl (zRc_t rfl ht (by decide) (by decide))
theorem zc_247 {d a : Nat} {a1 : Value} {s : zS} {V : zV} {Q : zO → zH → Prop} (ht : s.tg a = 10) : zcall (d + 1) 247 [.ref a, a1] (s, V) Q = zwp (zcall d) 247 Q (zB 247 0) [.ref a, a1, zJ, zJ, zJ, zJ, zJ, zJ] [] (s, V) := zcall_in (by decide) rfl (zRc_t rfl ht (by decide) (by decide))
theorem zc_248 {d a : Nat} {a1 : Value} {s : zS} {V : zV} {Q : zO → zH → Prop} (ht : s.tg a = 10) : zcall (d + 1) 248 [.ref a, a1] (s, V) Q = zwp (zcall d) 248 Q (zB 248 0) [.ref a, a1, zJ, zJ] [] (s, V) := zcall_in (by decide) rfl (zRc_t rfl ht (by decide) (by decide))
theorem zc_249 {d a : Nat} {a1 a2 : Value} {s : zS} {V : zV} {Q : zO → zH → Prop} (ht : s.tg a = 10) : zcall (d + 1) 249 [.ref a, a1, a2] (s, V) Q = zwp (zcall d) 249 Q (zB 249 0) [.ref a, a1, a2] [] (s, V) := zcall_in (by decide) rfl (zRc_t rfl ht (by decide) (by decide))
theorem zc_250 {d a : Nat} {a1 : Value} {s : zS} {V : zV} {Q : zO → zH → Prop} (ht : s.tg a = 10) : zcall (d + 1) 250 [.ref a, a1] (s, V) Q = zwp (zcall d) 250 Q (zB 250 0) [.ref a, a1, zJ] [] (s, V) := zcall_in (by decide) rfl (zRc_t rfl ht (by decide) (by decide))
theorem zc_251 {d : Nat} {a0 : Value} {h : zH} {Q : zO → zH → Prop} : zcall (d + 1) 251 [a0] h Q = zwp (zcall d) 251 Q (zB 251 0) [a0, zJ, zJ] [] h := zcall_in (by decide) rfl (zRc_9 rfl)
theorem zc_252 {d a : Nat} {a1 : Value} {s : zS} {V : zV} {Q : zO → zH → Prop} (ht : s.tg a = 10) : zcall (d + 1) 252 [.ref a, a1] (s, V) Q = zwp (zcall d) 252 Q (zB 252 0) [.ref a, a1, zJ, zJ] [] (s, V) := zcall_in (by decide) rfl (zRc_t rfl ht (by decide) (by decide))
theorem zc_253 {d a : Nat} {a1 a2 a3 : Value} {s : zS} {V : zV} {Q : zO → zH → Prop} (ht : s.tg a = 10) : zcall (d + 1) 253 [.ref a, a1, a2, a3] (s, V) Q = zwp (zcall d) 253 Q (zB 253 0) [.ref a, a1, a2, a3, zJ, zJ, zJ] [] (s, V) := zcall_in (by decide) rfl (zRc_t rfl ht (by decide) (by decide))
theorem zc_254 {d a : Nat} {a1 a2 : Value} {s : zS} {V : zV} {Q : zO → zH → Prop} (ht : s.tg a = 10) : zcall (d + 1) 254 [.ref a, a1, a2] (s, V) Q = zwp (zcall d) 254 Q (zB 254 0) [.ref a, a1, a2] [] (s, V) := zcall_in (by decide) rfl (zRc_t rfl ht (by decide) (by decide))
theorem zc_255 {d a : Nat} {a1 a2 a3 : Value} {s : zS} {V : zV} {Q : zO → zH → Prop} (ht : s.tg a = 10) : zcall (d + 1) 255 [.ref a, a1, a2, a3] (s, V) Q = zwp (zcall d) 255 Q (zB 255 0) [.ref a, a1, a2, a3] [] (s, V) := zcall_in (by decide) rfl (zRc_t rfl ht (by decide) (by decide))
theorem zc_256 {d a : Nat} {a1 : Value} {s : zS} {V : zV} {Q : zO → zH → Prop} (ht : s.tg a = 10) : zcall (d + 1) 256 [.ref a, a1] (s, V) Q = zwp (zcall d) 256 Q (zB 256 0) [.ref a, a1, zJ, zJ, zJ, zJ, zJ, zJ, zJ] [] (s, V) := zcall_in (by decide) rfl (zRc_t rfl ht (by decide) (by decide))
theorem zc_257 {d a : Nat} {a1 : Value} {s : zS} {V : zV} {Q : zO → zH → Prop} (ht : s.tg a = 10) : zcall (d + 1) 257 [.ref a, a1] (s, V) Q = zwp (zcall d) 257 Q (zB 257 0) [.ref a, a1] [] (s, V) := zcall_in (by decide) rfl (zRc_t rfl ht (by decide) (by decide))
theorem zc_258 {d a : Nat} {a1 : Value} {s : zS} {V : zV} {Q : zO → zH → Prop} (ht : s.tg a = 10) : zcall (d + 1) 258 [.ref a, a1] (s, V) Q = zwp (zcall d) 258 Q (zB 258 0) [.ref a, a1, zJ, zJ, zJ, zJ, zJ, zJ] [] (s, V) := zcall_in (by decide) rfl (zRc_t rfl ht (by decide) (by decide))
theorem zc_259 {d a : Nat} {a1 : Value} {s : zS} {V : zV} {Q : zO → zH → Prop} (ht : s.tg a = 10) : zcall (d + 1) 259 [.ref a, a1] (s, V) Q = zwp (zcall d) 259 Q (zB 259 0) [.ref a, a1] [] (s, V) := zcall_in (by decide) rfl (zRc_t rfl ht (by decide) (by decide))
theorem zc_260 {d a : Nat} {s : zS} {V : zV} {Q : zO → zH → Prop} (ht : s.tg a = 10) : zcall (d + 1) 260 [.ref a] (s, V) Q = zwp (zcall d) 260 Q (zB 260 0) [.ref a, zJ] [] (s, V) := zcall_in (by decide) rfl (zRc_t rfl ht (by decide) (by decide))
theorem zc_261 {d a : Nat} {a1 a2 : Value} {s : zS} {V : zV} {Q : zO → zH → Prop} (ht : s.tg a = 10) : zcall (d + 1) 261 [.ref a, a1, a2] (s, V) Q = zwp (zcall d) 261 Q (zB 261 0) [.ref a, a1, a2] [] (s, V) := zcall_in (by decide) rfl (zRc_t rfl ht (by decide) (by decide))
theorem zc_262 {d : Nat} {a0 : Value} {h : zH} {Q : zO → zH → Prop} : zcall (d + 1) 262 [a0] h Q = zwp (zcall d) 262 Q (zB 262 0) [a0] [] h := zcall_in (by decide) rfl (zRc_9 rfl)
theorem zc_263 {d a : Nat} {a1 : Value} {s : zS} {V : zV} {Q : zO → zH → Prop} (ht : s.tg a = 10) : zcall (d + 1) 263 [.ref a, a1] (s, V) Q = zwp (zcall d) 263 Q (zB 263 0) [.ref a, a1, zJ] [] (s, V) := zcall_in (by decide) rfl (zRc_t rfl ht (by decide) (by decide))
theorem zc_264 {d a : Nat} {s : zS} {V : zV} {Q : zO → zH → Prop} (ht : s.tg a = 10) : zcall (d + 1) 264 [.ref a] (s, V) Q = zwp (zcall d) 264 Q (zB 264 0) [.ref a, zJ, zJ] [] (s, V) := zcall_in (by decide) rfl (zRc_t rfl ht (by decide) (by decide))
theorem zc_265 {d a : Nat} {s : zS} {V : zV} {Q : zO → zH → Prop} (ht : s.tg a = 10) : zcall (d + 1) 265 [.ref a] (s, V) Q = zwp (zcall d) 265 Q (zB 265 0) [.ref a] [] (s, V) := zcall_in (by decide) rfl (zRc_t rfl ht (by decide) (by decide))
theorem zc_266 {d a : Nat} {s : zS} {V : zV} {Q : zO → zH → Prop} (ht : s.tg a = 10) : zcall (d + 1) 266 [.ref a] (s, V) Q = zwp (zcall d) 266 Q (zB 266 0) [.ref a, zJ, zJ] [] (s, V) := zcall_in (by decide) rfl (zRc_t rfl ht (by decide) (by decide))
theorem zc_267 {d a : Nat} {s : zS} {V : zV} {Q : zO → zH → Prop} (ht : s.tg a = 10) : zcall (d + 1) 267 [.ref a] (s, V) Q = zwp (zcall d) 267 Q (zB 267 0) [.ref a, zJ] [] (s, V) := zcall_in (by decide) rfl (zRc_t rfl ht (by decide) (by decide))
theorem zc_268 {d a : Nat} {a1 : Value} {s : zS} {V : zV} {Q : zO → zH → Prop} (ht : s.tg a = 10) : zcall (d + 1) 268 [.ref a, a1] (s, V) Q = zwp (zcall d) 268 Q (zB 268 0) [.ref a, a1] [] (s, V) := zcall_in (by decide) rfl (zRc_t rfl ht (by decide) (by decide))
theorem zc_269 {d a : Nat} {s : zS} {V : zV} {Q : zO → zH → Prop} (ht : s.tg a = 10) : zcall (d + 1) 269 [.ref a] (s, V) Q = zwp (zcall d) 269 Q (zB 269 0) [.ref a, zJ, zJ] [] (s, V) := zcall_in (by decide) rfl (zRc_t rfl ht (by decide) (by decide))
theorem zc_270 {d : Nat} {a0 a1 a2 : Value} {h : zH} {Q : zO → zH → Prop} : zcall (d + 1) 270 [a0, a1, a2] h Q = zwp (zcall d) 270 Q (zB 270 0) [a0, a1, a2, zJ] [] h := zcall_in (by decide) rfl (zRc_9 rfl)
theorem zc_271 {d : Nat} {a0 a1 a2 a3 a4 a5 a6 : Value} {h : zH} {Q : zO → zH → Prop} : zcall (d + 1) 271 [a0, a1, a2, a3, a4, a5, a6] h Q = zwp (zcall d) 271 Q (zB 271 0) [a0, a1, a2, a3, a4, a5, a6, zJ] [] h := zcall_in (by decide) rfl (zRc_9 rfl)
theorem zc_272 {d : Nat} {a0 a1 a2 : Value} {h : zH} {Q : zO → zH → Prop} : zcall (d + 1) 272 [a0, a1, a2] h Q = zwp (zcall d) 272 Q (zB 272 0) [a0, a1, a2, zJ] [] h := zcall_in (by decide) rfl (zRc_9 rfl)
theorem zc_273 {d : Nat} {a0 a1 a2 a3 a4 : Value} {h : zH} {Q : zO → zH → Prop} : zcall (d + 1) 273 [a0, a1, a2, a3, a4] h Q = zwp (zcall d) 273 Q (zB 273 0) [a0, a1, a2, a3, a4, zJ] [] h := zcall_in (by decide) rfl (zRc_9 rfl)
theorem zc_274 {d : Nat} {a0 a1 a2 a3 : Value} {h : zH} {Q : zO → zH → Prop} : zcall (d + 1) 274 [a0, a1, a2, a3] h Q = zwp (zcall d) 274 Q (zB 274 0) [a0, a1, a2, a3, zJ] [] h := zcall_in (by decide) rfl (zRc_9 rfl)
theorem zc_275 {d : Nat} {a0 a1 a2 a3 : Value} {h : zH} {Q : zO → zH → Prop} : zcall (d + 1) 275 [a0, a1, a2, a3] h Q = zwp (zcall d) 275 Q (zB 275 0) [a0, a1, a2, a3, zJ] [] h := zcall_in (by decide) rfl (zRc_9 rfl)
theorem zc_276 {d : Nat} {a0 a1 a2 a3 : Value} {h : zH} {Q : zO → zH → Prop} : zcall (d + 1) 276 [a0, a1, a2, a3] h Q = zwp (zcall d) 276 Q (zB 276 0) [a0, a1, a2, a3, zJ] [] h := zcall_in (by decide) rfl (zRc_9 rfl)
theorem zc_277 {d : Nat} {a0 a1 a2 a3 : Value} {h : zH} {Q : zO → zH → Prop} : zcall (d + 1) 277 [a0, a1, a2, a3] h Q = zwp (zcall d) 277 Q (zB 277 0) [a0, a1, a2, a3, zJ] [] h := zcall_in (by decide) rfl (zRc_9 rfl)
theorem zc_278 {d : Nat} {a0 a1 a2 : Value} {h : zH} {Q : zO → zH → Prop} : zcall (d + 1) 278 [a0, a1, a2] h Q = zwp (zcall d) 278 Q (zB 278 0) [a0, a1, a2, zJ] [] h := zcall_in (by decide) rfl (zRc_9 rfl)
theorem zc_279 {d : Nat} {a0 a1 a2 a3 : Value} {h : zH} {Q : zO → zH → Prop} : zcall (d + 1) 279 [a0, a1, a2, a3] h Q = zwp (zcall d) 279 Q (zB 279 0) [a0, a1, a2, a3, zJ] [] h := zcall_in (by decide) rfl (zRc_9 rfl)
theorem zc_280 {d : Nat} {a0 a1 a2 : Value} {h : zH} {Q : zO → zH → Prop} : zcall (d + 1) 280 [a0, a1, a2] h Q = zwp (zcall d) 280 Q (zB 280 0) [a0, a1, a2, zJ] [] h := zcall_in (by decide) rfl (zRc_9 rfl)
theorem zc_281 {d : Nat} {a0 a1 a2 a3 : Value} {h : zH} {Q : zO → zH → Prop} : zcall (d + 1) 281 [a0, a1, a2, a3] h Q = zwp (zcall d) 281 Q (zB 281 0) [a0, a1, a2, a3, zJ] [] h := zcall_in (by decide) rfl (zRc_9 rfl)
theorem zc_282 {d : Nat} {a0 a1 a2 a3 : Value} {h : zH} {Q : zO → zH → Prop} : zcall (d + 1) 282 [a0, a1, a2, a3] h Q = zwp (zcall d) 282 Q (zB 282 0) [a0, a1, a2, a3, zJ] [] h := zcall_in (by decide) rfl (zRc_9 rfl)
theorem zc_283 {d : Nat} {a0 a1 a2 : Value} {h : zH} {Q : zO → zH → Prop} : zcall (d + 1) 283 [a0, a1, a2] h Q = zwp (zcall d) 283 Q (zB 283 0) [a0, a1, a2, zJ] [] h := zcall_in (by decide) rfl (zRc_9 rfl)
theorem zc_284 {d : Nat} {a0 a1 a2 : Value} {h : zH} {Q : zO → zH → Prop} : zcall (d + 1) 284 [a0, a1, a2] h Q = zwp (zcall d) 284 Q (zB 284 0) [a0, a1, a2, zJ] [] h := zcall_in (by decide) rfl (zRc_9 rfl)
theorem zc_285 {d : Nat} {a0 a1 a2 : Value} {h : zH} {Q : zO → zH → Prop} : zcall (d + 1) 285 [a0, a1, a2] h Q = zwp (zcall d) 285 Q (zB 285 0) [a0, a1, a2, zJ] [] h := zcall_in (by decide) rfl (zRc_9 rfl)
theorem zc_286 {d : Nat} {a0 a1 a2 : Value} {h : zH} {Q : zO → zH → Prop} : zcall (d + 1) 286 [a0, a1, a2] h Q = zwp (zcall d) 286 Q (zB 286 0) [a0, a1, a2, zJ] [] h := zcall_in (by decide) rfl (zRc_9 rfl)
theorem zc_287 {d : Nat} {a0 a1 a2 : Value} {h : zH} {Q : zO → zH → Prop} : zcall (d + 1) 287 [a0, a1, a2] h Q = zwp (zcall d) 287 Q (zB 287 0) [a0, a1, a2, zJ] [] h := zcall_in (by decide) rfl (zRc_9 rfl)
theorem zc_288 {d : Nat} {a0 a1 a2 : Value} {h : zH} {Q : zO → zH → Prop} : zcall (d + 1) 288 [a0, a1, a2] h Q = zwp (zcall d) 288 Q (zB 288 0) [a0, a1, a2, zJ] [] h := zcall_in (by decide) rfl (zRc_9 rfl)
theorem zc_289 {d : Nat} {a0 a1 a2 : Value} {h : zH} {Q : zO → zH → Prop} : zcall (d + 1) 289 [a0, a1, a2] h Q = zwp (zcall d) 289 Q (zB 289 0) [a0, a1, a2, zJ] [] h := zcall_in (by decide) rfl (zRc_9 rfl)
theorem zc_290 {d : Nat} {a0 a1 a2 : Value} {h : zH} {Q : zO → zH → Prop} : zcall (d + 1) 290 [a0, a1, a2] h Q = zwp (zcall d) 290 Q (zB 290 0) [a0, a1, a2, zJ] [] h := zcall_in (by decide) rfl (zRc_9 rfl)
theorem zc_291 {d : Nat} {a0 a1 a2 a3 : Value} {h : zH} {Q : zO → zH → Prop} : zcall (d + 1) 291 [a0, a1, a2, a3] h Q = zwp (zcall d) 291 Q (zB 291 0) [a0, a1, a2, a3, zJ] [] h := zcall_in (by decide) rfl (zRc_9 rfl)
theorem zc_292 {d : Nat} {a0 a1 a2 a3 : Value} {h : zH} {Q : zO → zH → Prop} : zcall (d + 1) 292 [a0, a1, a2, a3] h Q = zwp (zcall d) 292 Q (zB 292 0) [a0, a1, a2, a3, zJ] [] h := zcall_in (by decide) rfl (zRc_9 rfl)
theorem zc_293 {d : Nat} {a0 a1 a2 a3 : Value} {h : zH} {Q : zO → zH → Prop} : zcall (d + 1) 293 [a0, a1, a2, a3] h Q = zwp (zcall d) 293 Q (zB 293 0) [a0, a1, a2, a3, zJ] [] h := zcall_in (by decide) rfl (zRc_9 rfl)
theorem zc_294 {d : Nat} {a0 a1 a2 a3 a4 : Value} {h : zH} {Q : zO → zH → Prop} : zcall (d + 1) 294 [a0, a1, a2, a3, a4] h Q = zwp (zcall d) 294 Q (zB 294 0) [a0, a1, a2, a3, a4, zJ] [] h := zcall_in (by decide) rfl (zRc_9 rfl)
theorem zc_295 {d : Nat} {a0 a1 a2 : Value} {h : zH} {Q : zO → zH → Prop} : zcall (d + 1) 295 [a0, a1, a2] h Q = zwp (zcall d) 295 Q (zB 295 0) [a0, a1, a2, zJ] [] h := zcall_in (by decide) rfl (zRc_9 rfl)
theorem zc_296 {d : Nat} {a0 a1 a2 : Value} {h : zH} {Q : zO → zH → Prop} : zcall (d + 1) 296 [a0, a1, a2] h Q = zwp (zcall d) 296 Q (zB 296 0) [a0, a1, a2, zJ] [] h := zcall_in (by decide) rfl (zRc_9 rfl)
theorem zc_297 {d : Nat} {a0 a1 a2 : Value} {h : zH} {Q : zO → zH → Prop} : zcall (d + 1) 297 [a0, a1, a2] h Q = zwp (zcall d) 297 Q (zB 297 0) [a0, a1, a2, zJ] [] h := zcall_in (by decide) rfl (zRc_9 rfl)
theorem zc_298 {d : Nat} {a0 a1 : Value} {h : zH} {Q : zO → zH → Prop} : zcall (d + 1) 298 [a0, a1] h Q = zwp (zcall d) 298 Q (zB 298 0) [a0, a1, zJ] [] h := zcall_in (by decide) rfl (zRc_9 rfl)
theorem zc_300 {d : Nat} {a0 a1 : Value} {h : zH} {Q : zO → zH → Prop} : zcall (d + 1) 300 [a0, a1] h Q = zwp (zcall d) 300 Q (zB 300 0) [a0, a1] [] h := zcall_in (by decide) rfl (zRc_9 rfl)
theorem zc_301 {d : Nat} {a0 a1 : Value} {h : zH} {Q : zO → zH → Prop} : zcall (d + 1) 301 [a0, a1] h Q = zwp (zcall d) 301 Q (zB 301 0) [a0, a1] [] h := zcall_in (by decide) rfl (zRc_9 rfl)
theorem zc_302 {d : Nat} {a0 : Value} {h : zH} {Q : zO → zH → Prop} : zcall (d + 1) 302 [a0] h Q = zwp (zcall d) 302 Q (zB 302 0) [a0] [] h := zcall_in (by decide) rfl (zRc_9 rfl)
theorem zc_303 {d : Nat} {a0 : Value} {h : zH} {Q : zO → zH → Prop} : zcall (d + 1) 303 [a0] h Q = zwp (zcall d) 303 Q (zB 303 0) [a0] [] h := zcall_in (by decide) rfl (zRc_9 rfl)
theorem zc_304 {d : Nat} {a0 : Value} {h : zH} {Q : zO → zH → Prop} : zcall (d + 1) 304 [a0] h Q = zwp (zcall d) 304 Q (zB 304 0) [a0] [] h := zcall_in (by decide) rfl (zRc_9 rfl)
end
section
/-! rules of the machine: zwp at an instruction is zwp behind it; written by wip/whole/gen_rules.py -/
theorem z_rng {a : Int} (h1 : -2147483648 ≤ a) (h2 : a < 2147483648) : (Int32.ofInt a).toInt = a := Int32.toInt_ofInt_of_le (by omega) (by omega)
theorem z_lt {a b : Int} (h1 : -2147483648 ≤ a) (h2 : a < 2147483648) (h3 : -2147483648 ≤ b) (h4 : b < 2147483648) : (Int32.ofInt a < Int32.ofInt b) = (a < b) := by rw [Int32.lt_iff_toInt_lt, z_rng h1 h2, z_rng h3 h4]
theorem z_le {a b : Int} (h1 : -2147483648 ≤ a) (h2 : a < 2147483648) (h3 : -2147483648 ≤ b) (h4 : b < 2147483648) : (Int32.ofInt a ≤ Int32.ofInt b) = (a ≤ b) := by rw [Int32.le_iff_toInt_le, z_rng h1 h2, z_rng h3 h4]
theorem z_eq {a b : Int} (h1 : -2147483648 ≤ a) (h2 : a < 2147483648) (h3 : -2147483648 ≤ b) (h4 : b < 2147483648) : (Int32.ofInt a = Int32.ofInt b) = (a = b) := by rw [← Int32.toInt_inj, z_rng h1 h2, z_rng h3 h4]
theorem z_0 : (0 : Int32) = Int32.ofInt 0 := rfl
def zand (a b : Int) : Int := (Int32.ofInt a &&& Int32.ofInt b).toInt
def zor (a b : Int) : Int := (Int32.ofInt a ||| Int32.ofInt b).toInt
def zxor (a b : Int) : Int := (Int32.ofInt a ^^^ Int32.ofInt b).toInt
def zshl (a b : Int) : Int := (Int32.ofInt a <<< (Int32.ofInt b &&& 31)).toInt
def zshr (a b : Int) : Int := (Int32.ofInt a >>> (Int32.ofInt b &&& 31)).toInt
def zushr (a b : Int) : Int := ((Int32.ofInt a).toUInt32 >>> ((Int32.ofInt b).toUInt32 &&& Int32.toUInt32 31)).toInt32.toInt
def zdiv (a b : Int) : Int := (Int32.ofInt a / Int32.ofInt b).toInt
theorem z_ite {α : Type} {p q : Prop} {a b : α} {hp : Decidable p} {hq : Decidable q} (e : p = q) : (@ite α p hp a b) = (@ite α q hq a b) := by
  subst e
  congr
theorem if_pos_z {c : Prop} {hc : Decidable c} {a : List Instr × List Value × List Value × zH} {X : List Instr → List Value → List Value → zH → Prop} (h : c) : (match (@ite _ c hc (some a) none) with | some q => X q.1 q.2.1 q.2.2.1 q.2.2.2 | none => False) = X a.1 a.2.1 a.2.2.1 a.2.2.2 := by
  rw [if_pos h]
theorem z_ite2 {c : Prop} {hc : Decidable c} {a b : List Instr × List Value × List Value × zH} {X : List Instr → List Value → List Value → zH → Prop} : (match (@ite _ c hc (some a) (some b)) with | some q => X q.1 q.2.1 q.2.2.1 q.2.2.2 | none => False) = @ite _ c hc (X a.1 a.2.1 a.2.2.1 a.2.2.2) (X b.1 b.2.1 b.2.2.1 b.2.2.2) := by
  by_cases h : c
  · rw [if_pos h, if_pos h]
  · rw [if_neg h, if_neg h]
theorem z_and2 {a b c : Prop} (ha : a) (hb : b) : (a ∧ b ∧ c) = c := propext ⟨fun h => h.2.2, fun h => ⟨ha, hb, h⟩⟩
section
variable {d m : Nat} {Q : zO → zH → Prop} {r : List Instr} {L st : List Value} {s : zS} {V : zV} {h : zH} {v0 v1 v2 v3 v4 v5 v6 v7 v8 v9 v10 v11 v12 : Value} {x y j n k : Int} {l : Int} {a b c : Nat}
theorem r_iload_0 : zwp (zcall d) m Q (.iload 0 :: r) (zi x :: L) st h = zwp (zcall d) m Q r (zi x :: L) (zi x :: st) h := by rw [zw]; rfl
theorem r_lload_0 : zwp (zcall d) m Q (.lload 0 :: r) (zl x :: L) st h = zwp (zcall d) m Q r (zl x :: L) (zl x :: st) h := by rw [zw]; rfl
theorem r_aload_0 : zwp (zcall d) m Q (.aload 0 :: r) (.ref a :: L) st h = zwp (zcall d) m Q r (.ref a :: L) (.ref a :: st) h := by rw [zw]; rfl
theorem r_dload_0 {u : UInt64} : zwp (zcall d) m Q (.dload 0 :: r) (.double u :: L) st h = zwp (zcall d) m Q r (.double u :: L) (.double u :: st) h := by rw [zw]; rfl
theorem r_fload_0 {u : UInt32} : zwp (zcall d) m Q (.fload 0 :: r) (.float u :: L) st h = zwp (zcall d) m Q r (.float u :: L) (.float u :: st) h := by rw [zw]; rfl
theorem r_iload_1 : zwp (zcall d) m Q (.iload 1 :: r) (v0 :: zi x :: L) st h = zwp (zcall d) m Q r (v0 :: zi x :: L) (zi x :: st) h := by rw [zw]; rfl
theorem r_lload_1 : zwp (zcall d) m Q (.lload 1 :: r) (v0 :: zl x :: L) st h = zwp (zcall d) m Q r (v0 :: zl x :: L) (zl x :: st) h := by rw [zw]; rfl
theorem r_aload_1 : zwp (zcall d) m Q (.aload 1 :: r) (v0 :: .ref a :: L) st h = zwp (zcall d) m Q r (v0 :: .ref a :: L) (.ref a :: st) h := by rw [zw]; rfl
theorem r_dload_1 {u : UInt64} : zwp (zcall d) m Q (.dload 1 :: r) (v0 :: .double u :: L) st h = zwp (zcall d) m Q r (v0 :: .double u :: L) (.double u :: st) h := by rw [zw]; rfl
theorem r_fload_1 {u : UInt32} : zwp (zcall d) m Q (.fload 1 :: r) (v0 :: .float u :: L) st h = zwp (zcall d) m Q r (v0 :: .float u :: L) (.float u :: st) h := by rw [zw]; rfl
theorem r_iload_2 : zwp (zcall d) m Q (.iload 2 :: r) (v0 :: v1 :: zi x :: L) st h = zwp (zcall d) m Q r (v0 :: v1 :: zi x :: L) (zi x :: st) h := by rw [zw]; rfl
theorem r_lload_2 : zwp (zcall d) m Q (.lload 2 :: r) (v0 :: v1 :: zl x :: L) st h = zwp (zcall d) m Q r (v0 :: v1 :: zl x :: L) (zl x :: st) h := by rw [zw]; rfl
theorem r_aload_2 : zwp (zcall d) m Q (.aload 2 :: r) (v0 :: v1 :: .ref a :: L) st h = zwp (zcall d) m Q r (v0 :: v1 :: .ref a :: L) (.ref a :: st) h := by rw [zw]; rfl
theorem r_dload_2 {u : UInt64} : zwp (zcall d) m Q (.dload 2 :: r) (v0 :: v1 :: .double u :: L) st h = zwp (zcall d) m Q r (v0 :: v1 :: .double u :: L) (.double u :: st) h := by rw [zw]; rfl
theorem r_iload_3 : zwp (zcall d) m Q (.iload 3 :: r) (v0 :: v1 :: v2 :: zi x :: L) st h = zwp (zcall d) m Q r (v0 :: v1 :: v2 :: zi x :: L) (zi x :: st) h := by rw [zw]; rfl
theorem r_lload_3 : zwp (zcall d) m Q (.lload 3 :: r) (v0 :: v1 :: v2 :: zl x :: L) st h = zwp (zcall d) m Q r (v0 :: v1 :: v2 :: zl x :: L) (zl x :: st) h := by rw [zw]; rfl
theorem r_aload_3 : zwp (zcall d) m Q (.aload 3 :: r) (v0 :: v1 :: v2 :: .ref a :: L) st h = zwp (zcall d) m Q r (v0 :: v1 :: v2 :: .ref a :: L) (.ref a :: st) h := by rw [zw]; rfl
theorem r_dload_3 {u : UInt64} : zwp (zcall d) m Q (.dload 3 :: r) (v0 :: v1 :: v2 :: .double u :: L) st h = zwp (zcall d) m Q r (v0 :: v1 :: v2 :: .double u :: L) (.double u :: st) h := by rw [zw]; rfl
theorem r_iload_4 : zwp (zcall d) m Q (.iload 4 :: r) (v0 :: v1 :: v2 :: v3 :: zi x :: L) st h = zwp (zcall d) m Q r (v0 :: v1 :: v2 :: v3 :: zi x :: L) (zi x :: st) h := by rw [zw]; rfl
theorem r_lload_4 : zwp (zcall d) m Q (.lload 4 :: r) (v0 :: v1 :: v2 :: v3 :: zl x :: L) st h = zwp (zcall d) m Q r (v0 :: v1 :: v2 :: v3 :: zl x :: L) (zl x :: st) h := by rw [zw]; rfl
theorem r_aload_4 : zwp (zcall d) m Q (.aload 4 :: r) (v0 :: v1 :: v2 :: v3 :: .ref a :: L) st h = zwp (zcall d) m Q r (v0 :: v1 :: v2 :: v3 :: .ref a :: L) (.ref a :: st) h := by rw [zw]; rfl
theorem r_dload_4 {u : UInt64} : zwp (zcall d) m Q (.dload 4 :: r) (v0 :: v1 :: v2 :: v3 :: .double u :: L) st h = zwp (zcall d) m Q r (v0 :: v1 :: v2 :: v3 :: .double u :: L) (.double u :: st) h := by rw [zw]; rfl
theorem r_iload_5 : zwp (zcall d) m Q (.iload 5 :: r) (v0 :: v1 :: v2 :: v3 :: v4 :: zi x :: L) st h = zwp (zcall d) m Q r (v0 :: v1 :: v2 :: v3 :: v4 :: zi x :: L) (zi x :: st) h := by rw [zw]; rfl
theorem r_lload_5 : zwp (zcall d) m Q (.lload 5 :: r) (v0 :: v1 :: v2 :: v3 :: v4 :: zl x :: L) st h = zwp (zcall d) m Q r (v0 :: v1 :: v2 :: v3 :: v4 :: zl x :: L) (zl x :: st) h := by rw [zw]; rfl
theorem r_aload_5 : zwp (zcall d) m Q (.aload 5 :: r) (v0 :: v1 :: v2 :: v3 :: v4 :: .ref a :: L) st h = zwp (zcall d) m Q r (v0 :: v1 :: v2 :: v3 :: v4 :: .ref a :: L) (.ref a :: st) h := by rw [zw]; rfl
theorem r_dload_5 {u : UInt64} : zwp (zcall d) m Q (.dload 5 :: r) (v0 :: v1 :: v2 :: v3 :: v4 :: .double u :: L) st h = zwp (zcall d) m Q r (v0 :: v1 :: v2 :: v3 :: v4 :: .double u :: L) (.double u :: st) h := by rw [zw]; rfl
theorem r_iload_6 : zwp (zcall d) m Q (.iload 6 :: r) (v0 :: v1 :: v2 :: v3 :: v4 :: v5 :: zi x :: L) st h = zwp (zcall d) m Q r (v0 :: v1 :: v2 :: v3 :: v4 :: v5 :: zi x :: L) (zi x :: st) h := by rw [zw]; rfl
theorem r_lload_6 : zwp (zcall d) m Q (.lload 6 :: r) (v0 :: v1 :: v2 :: v3 :: v4 :: v5 :: zl x :: L) st h = zwp (zcall d) m Q r (v0 :: v1 :: v2 :: v3 :: v4 :: v5 :: zl x :: L) (zl x :: st) h := by rw [zw]; rfl
theorem r_aload_6 : zwp (zcall d) m Q (.aload 6 :: r) (v0 :: v1 :: v2 :: v3 :: v4 :: v5 :: .ref a :: L) st h = zwp (zcall d) m Q r (v0 :: v1 :: v2 :: v3 :: v4 :: v5 :: .ref a :: L) (.ref a :: st) h := by rw [zw]; rfl
theorem r_dload_6 {u : UInt64} : zwp (zcall d) m Q (.dload 6 :: r) (v0 :: v1 :: v2 :: v3 :: v4 :: v5 :: .double u :: L) st h = zwp (zcall d) m Q r (v0 :: v1 :: v2 :: v3 :: v4 :: v5 :: .double u :: L) (.double u :: st) h := by rw [zw]; rfl
theorem r_iload_7 : zwp (zcall d) m Q (.iload 7 :: r) (v0 :: v1 :: v2 :: v3 :: v4 :: v5 :: v6 :: zi x :: L) st h = zwp (zcall d) m Q r (v0 :: v1 :: v2 :: v3 :: v4 :: v5 :: v6 :: zi x :: L) (zi x :: st) h := by rw [zw]; rfl
theorem r_aload_7 : zwp (zcall d) m Q (.aload 7 :: r) (v0 :: v1 :: v2 :: v3 :: v4 :: v5 :: v6 :: .ref a :: L) st h = zwp (zcall d) m Q r (v0 :: v1 :: v2 :: v3 :: v4 :: v5 :: v6 :: .ref a :: L) (.ref a :: st) h := by rw [zw]; rfl
theorem r_dload_7 {u : UInt64} : zwp (zcall d) m Q (.dload 7 :: r) (v0 :: v1 :: v2 :: v3 :: v4 :: v5 :: v6 :: .double u :: L) st h = zwp (zcall d) m Q r (v0 :: v1 :: v2 :: v3 :: v4 :: v5 :: v6 :: .double u :: L) (.double u :: st) h := by rw [zw]; rfl
theorem r_iload_8 : zwp (zcall d) m Q (.iload 8 :: r) (v0 :: v1 :: v2 :: v3 :: v4 :: v5 :: v6 :: v7 :: zi x :: L) st h = zwp (zcall d) m Q r (v0 :: v1 :: v2 :: v3 :: v4 :: v5 :: v6 :: v7 :: zi x :: L) (zi x :: st) h := by rw [zw]; rfl
theorem r_aload_8 : zwp (zcall d) m Q (.aload 8 :: r) (v0 :: v1 :: v2 :: v3 :: v4 :: v5 :: v6 :: v7 :: .ref a :: L) st h = zwp (zcall d) m Q r (v0 :: v1 :: v2 :: v3 :: v4 :: v5 :: v6 :: v7 :: .ref a :: L) (.ref a :: st) h := by rw [zw]; rfl
theorem r_dload_8 {u : UInt64} : zwp (zcall d) m Q (.dload 8 :: r) (v0 :: v1 :: v2 :: v3 :: v4 :: v5 :: v6 :: v7 :: .double u :: L) st h = zwp (zcall d) m Q r (v0 :: v1 :: v2 :: v3 :: v4 :: v5 :: v6 :: v7 :: .double u :: L) (.double u :: st) h := by rw [zw]; rfl
theorem r_iload_9 : zwp (zcall d) m Q (.iload 9 :: r) (v0 :: v1 :: v2 :: v3 :: v4 :: v5 :: v6 :: v7 :: v8 :: zi x :: L) st h = zwp (zcall d) m Q r (v0 :: v1 :: v2 :: v3 :: v4 :: v5 :: v6 :: v7 :: v8 :: zi x :: L) (zi x :: st) h := by rw [zw]; rfl
theorem r_aload_9 : zwp (zcall d) m Q (.aload 9 :: r) (v0 :: v1 :: v2 :: v3 :: v4 :: v5 :: v6 :: v7 :: v8 :: .ref a :: L) st h = zwp (zcall d) m Q r (v0 :: v1 :: v2 :: v3 :: v4 :: v5 :: v6 :: v7 :: v8 :: .ref a :: L) (.ref a :: st) h := by rw [zw]; rfl
theorem r_dload_9 {u : UInt64} : zwp (zcall d) m Q (.dload 9 :: r) (v0 :: v1 :: v2 :: v3 :: v4 :: v5 :: v6 :: v7 :: v8 :: .double u :: L) st h = zwp (zcall d) m Q r (v0 :: v1 :: v2 :: v3 :: v4 :: v5 :: v6 :: v7 :: v8 :: .double u :: L) (.double u :: st) h := by rw [zw]; rfl
theorem r_iload_10 : zwp (zcall d) m Q (.iload 10 :: r) (v0 :: v1 :: v2 :: v3 :: v4 :: v5 :: v6 :: v7 :: v8 :: v9 :: zi x :: L) st h = zwp (zcall d) m Q r (v0 :: v1 :: v2 :: v3 :: v4 :: v5 :: v6 :: v7 :: v8 :: v9 :: zi x :: L) (zi x :: st) h := by rw [zw]; rfl
theorem r_aload_10 : zwp (zcall d) m Q (.aload 10 :: r) (v0 :: v1 :: v2 :: v3 :: v4 :: v5 :: v6 :: v7 :: v8 :: v9 :: .ref a :: L) st h = zwp (zcall d) m Q r (v0 :: v1 :: v2 :: v3 :: v4 :: v5 :: v6 :: v7 :: v8 :: v9 :: .ref a :: L) (.ref a :: st) h := by rw [zw]; rfl
theorem r_dload_10 {u : UInt64} : zwp (zcall d) m Q (.dload 10 :: r) (v0 :: v1 :: v2 :: v3 :: v4 :: v5 :: v6 :: v7 :: v8 :: v9 :: .double u :: L) st h = zwp (zcall d) m Q r (v0 :: v1 :: v2 :: v3 :: v4 :: v5 :: v6 :: v7 :: v8 :: v9 :: .double u :: L) (.double u :: st) h := by rw [zw]; rfl
theorem r_iload_11 : zwp (zcall d) m Q (.iload 11 :: r) (v0 :: v1 :: v2 :: v3 :: v4 :: v5 :: v6 :: v7 :: v8 :: v9 :: v10 :: zi x :: L) st h = zwp (zcall d) m Q r (v0 :: v1 :: v2 :: v3 :: v4 :: v5 :: v6 :: v7 :: v8 :: v9 :: v10 :: zi x :: L) (zi x :: st) h := by rw [zw]; rfl
theorem r_aload_11 : zwp (zcall d) m Q (.aload 11 :: r) (v0 :: v1 :: v2 :: v3 :: v4 :: v5 :: v6 :: v7 :: v8 :: v9 :: v10 :: .ref a :: L) st h = zwp (zcall d) m Q r (v0 :: v1 :: v2 :: v3 :: v4 :: v5 :: v6 :: v7 :: v8 :: v9 :: v10 :: .ref a :: L) (.ref a :: st) h := by rw [zw]; rfl
theorem r_istore_0 : zwp (zcall d) m Q (.istore 0 :: r) (v0 :: L) (zi x :: st) h = zwp (zcall d) m Q r (zi x :: L) st h := by rw [zw]; simp [zF, zstep, zSetL, zSetL2, zPrev, Value.category, zi, zl, zJ]
theorem r_astore_0 : zwp (zcall d) m Q (.astore 0 :: r) (v0 :: L) (.ref a :: st) h = zwp (zcall d) m Q r (.ref a :: L) st h := by rw [zw]; simp [zF, zstep, zSetL, zSetL2, zPrev, Value.category, zi, zl, zJ]
theorem r_iinc_0 : zwp (zcall d) m Q (.iinc 0 n :: r) (zi x :: L) st h = zwp (zcall d) m Q r (zi (x + n) :: L) st h := by rw [zw]; simp [zF, zstep, zSetL, zSetL2, zPrev, Value.category, zi, zl, zJ]
theorem r_dstore_0  {u : UInt64} : zwp (zcall d) m Q (.dstore 0 :: r) (v0 :: v1 :: L) (.double u :: st) h = zwp (zcall d) m Q r (.double u :: zJ :: L) st h := by rw [zw]; simp [zF, zstep, zSetL, zSetL2, zPrev, Value.category, zi, zl, zJ]
theorem r_lstore_0 : zwp (zcall d) m Q (.lstore 0 :: r) (v0 :: v1 :: L) (zl x :: st) h = zwp (zcall d) m Q r (zl x :: zJ :: L) st h := by rw [zw]; simp [zF, zstep, zSetL, zSetL2, zPrev, Value.category, zi, zl, zJ]
theorem r_istore_1i {w : Int} : zwp (zcall d) m Q (.istore 1 :: r) (zi w :: v1 :: L) (zi x :: st) h = zwp (zcall d) m Q r (zi w :: zi x :: L) st h := by rw [zw]; simp [zF, zstep, zSetL, zSetL2, zPrev, Value.category, zi, zl, zJ]
theorem r_astore_1i {w : Int} : zwp (zcall d) m Q (.astore 1 :: r) (zi w :: v1 :: L) (.ref a :: st) h = zwp (zcall d) m Q r (zi w :: .ref a :: L) st h := by rw [zw]; simp [zF, zstep, zSetL, zSetL2, zPrev, Value.category, zi, zl, zJ]
theorem r_iinc_1i {w : Int} : zwp (zcall d) m Q (.iinc 1 n :: r) (zi w :: zi x :: L) st h = zwp (zcall d) m Q r (zi w :: zi (x + n) :: L) st h := by rw [zw]; simp [zF, zstep, zSetL, zSetL2, zPrev, Value.category, zi, zl, zJ]
theorem r_dstore_1i {w : Int} {u : UInt64} : zwp (zcall d) m Q (.dstore 1 :: r) (zi w :: v1 :: v2 :: L) (.double u :: st) h = zwp (zcall d) m Q r (zi w :: .double u :: zJ :: L) st h := by rw [zw]; simp [zF, zstep, zSetL, zSetL2, zPrev, Value.category, zi, zl, zJ]
theorem r_lstore_1i {w : Int} : zwp (zcall d) m Q (.lstore 1 :: r) (zi w :: v1 :: v2 :: L) (zl x :: st) h = zwp (zcall d) m Q r (zi w :: zl x :: zJ :: L) st h := by rw [zw]; simp [zF, zstep, zSetL, zSetL2, zPrev, Value.category, zi, zl, zJ]
theorem r_istore_1r : zwp (zcall d) m Q (.istore 1 :: r) (.ref c :: v1 :: L) (zi x :: st) h = zwp (zcall d) m Q r (.ref c :: zi x :: L) st h := by rw [zw]; simp [zF, zstep, zSetL, zSetL2, zPrev, Value.category, zi, zl, zJ]
theorem r_astore_1r : zwp (zcall d) m Q (.astore 1 :: r) (.ref c :: v1 :: L) (.ref a :: st) h = zwp (zcall d) m Q r (.ref c :: .ref a :: L) st h := by rw [zw]; simp [zF, zstep, zSetL, zSetL2, zPrev, Value.category, zi, zl, zJ]
theorem r_iinc_1r : zwp (zcall d) m Q (.iinc 1 n :: r) (.ref c :: zi x :: L) st h = zwp (zcall d) m Q r (.ref c :: zi (x + n) :: L) st h := by rw [zw]; simp [zF, zstep, zSetL, zSetL2, zPrev, Value.category, zi, zl, zJ]
theorem r_dstore_1r  {u : UInt64} : zwp (zcall d) m Q (.dstore 1 :: r) (.ref c :: v1 :: v2 :: L) (.double u :: st) h = zwp (zcall d) m Q r (.ref c :: .double u :: zJ :: L) st h := by rw [zw]; simp [zF, zstep, zSetL, zSetL2, zPrev, Value.category, zi, zl, zJ]
theorem r_lstore_1r : zwp (zcall d) m Q (.lstore 1 :: r) (.ref c :: v1 :: v2 :: L) (zl x :: st) h = zwp (zcall d) m Q r (.ref c :: zl x :: zJ :: L) st h := by rw [zw]; simp [zF, zstep, zSetL, zSetL2, zPrev, Value.category, zi, zl, zJ]
theorem r_istore_1j : zwp (zcall d) m Q (.istore 1 :: r) (zJ :: v1 :: L) (zi x :: st) h = zwp (zcall d) m Q r (zJ :: zi x :: L) st h := by rw [zw]; simp [zF, zstep, zSetL, zSetL2, zPrev, Value.category, zi, zl, zJ]
theorem r_astore_1j : zwp (zcall d) m Q (.astore 1 :: r) (zJ :: v1 :: L) (.ref a :: st) h = zwp (zcall d) m Q r (zJ :: .ref a :: L) st h := by rw [zw]; simp [zF, zstep, zSetL, zSetL2, zPrev, Value.category, zi, zl, zJ]
theorem r_iinc_1j : zwp (zcall d) m Q (.iinc 1 n :: r) (zJ :: zi x :: L) st h = zwp (zcall d) m Q r (zJ :: zi (x + n) :: L) st h := by rw [zw]; simp [zF, zstep, zSetL, zSetL2, zPrev, Value.category, zi, zl, zJ]
theorem r_dstore_1j  {u : UInt64} : zwp (zcall d) m Q (.dstore 1 :: r) (zJ :: v1 :: v2 :: L) (.double u :: st) h = zwp (zcall d) m Q r (zJ :: .double u :: zJ :: L) st h := by rw [zw]; simp [zF, zstep, zSetL, zSetL2, zPrev, Value.category, zi, zl, zJ]
theorem r_lstore_1j : zwp (zcall d) m Q (.lstore 1 :: r) (zJ :: v1 :: v2 :: L) (zl x :: st) h = zwp (zcall d) m Q r (zJ :: zl x :: zJ :: L) st h := by rw [zw]; simp [zF, zstep, zSetL, zSetL2, zPrev, Value.category, zi, zl, zJ]
theorem r_istore_2i {w : Int} : zwp (zcall d) m Q (.istore 2 :: r) (v0 :: zi w :: v2 :: L) (zi x :: st) h = zwp (zcall d) m Q r (v0 :: zi w :: zi x :: L) st h := by rw [zw]; simp [zF, zstep, zSetL, zSetL2, zPrev, Value.category, zi, zl, zJ]
theorem r_astore_2i {w : Int} : zwp (zcall d) m Q (.astore 2 :: r) (v0 :: zi w :: v2 :: L) (.ref a :: st) h = zwp (zcall d) m Q r (v0 :: zi w :: .ref a :: L) st h := by rw [zw]; simp [zF, zstep, zSetL, zSetL2, zPrev, Value.category, zi, zl, zJ]
theorem r_iinc_2i {w : Int} : zwp (zcall d) m Q (.iinc 2 n :: r) (v0 :: zi w :: zi x :: L) st h = zwp (zcall d) m Q r (v0 :: zi w :: zi (x + n) :: L) st h := by rw [zw]; simp [zF, zstep, zSetL, zSetL2, zPrev, Value.category, zi, zl, zJ]
theorem r_dstore_2i {w : Int} {u : UInt64} : zwp (zcall d) m Q (.dstore 2 :: r) (v0 :: zi w :: v2 :: v3 :: L) (.double u :: st) h = zwp (zcall d) m Q r (v0 :: zi w :: .double u :: zJ :: L) st h := by rw [zw]; simp [zF, zstep, zSetL, zSetL2, zPrev, Value.category, zi, zl, zJ]
theorem r_lstore_2i {w : Int} : zwp (zcall d) m Q (.lstore 2 :: r) (v0 :: zi w :: v2 :: v3 :: L) (zl x :: st) h = zwp (zcall d) m Q r (v0 :: zi w :: zl x :: zJ :: L) st h := by rw [zw]; simp [zF, zstep, zSetL, zSetL2, zPrev, Value.category, zi, zl, zJ]
theorem r_istore_2r : zwp (zcall d) m Q (.istore 2 :: r) (v0 :: .ref c :: v2 :: L) (zi x :: st) h = zwp (zcall d) m Q r (v0 :: .ref c :: zi x :: L) st h := by rw [zw]; simp [zF, zstep, zSetL, zSetL2, zPrev, Value.category, zi, zl, zJ]
theorem r_astore_2r : zwp (zcall d) m Q (.astore 2 :: r) (v0 :: .ref c :: v2 :: L) (.ref a :: st) h = zwp (zcall d) m Q r (v0 :: .ref c :: .ref a :: L) st h := by rw [zw]; simp [zF, zstep, zSetL, zSetL2, zPrev, Value.category, zi, zl, zJ]
theorem r_iinc_2r : zwp (zcall d) m Q (.iinc 2 n :: r) (v0 :: .ref c :: zi x :: L) st h = zwp (zcall d) m Q r (v0 :: .ref c :: zi (x + n) :: L) st h := by rw [zw]; simp [zF, zstep, zSetL, zSetL2, zPrev, Value.category, zi, zl, zJ]
theorem r_dstore_2r  {u : UInt64} : zwp (zcall d) m Q (.dstore 2 :: r) (v0 :: .ref c :: v2 :: v3 :: L) (.double u :: st) h = zwp (zcall d) m Q r (v0 :: .ref c :: .double u :: zJ :: L) st h := by rw [zw]; simp [zF, zstep, zSetL, zSetL2, zPrev, Value.category, zi, zl, zJ]
theorem r_lstore_2r : zwp (zcall d) m Q (.lstore 2 :: r) (v0 :: .ref c :: v2 :: v3 :: L) (zl x :: st) h = zwp (zcall d) m Q r (v0 :: .ref c :: zl x :: zJ :: L) st h := by rw [zw]; simp [zF, zstep, zSetL, zSetL2, zPrev, Value.category, zi, zl, zJ]
theorem r_istore_2j : zwp (zcall d) m Q (.istore 2 :: r) (v0 :: zJ :: v2 :: L) (zi x :: st) h = zwp (zcall d) m Q r (v0 :: zJ :: zi x :: L) st h := by rw [zw]; simp [zF, zstep, zSetL, zSetL2, zPrev, Value.category, zi, zl, zJ]
theorem r_astore_2j : zwp (zcall d) m Q (.astore 2 :: r) (v0 :: zJ :: v2 :: L) (.ref a :: st) h = zwp (zcall d) m Q r (v0 :: zJ :: .ref a :: L) st h := by rw [zw]; simp [zF, zstep, zSetL, zSetL2, zPrev, Value.category, zi, zl, zJ]
theorem r_iinc_2j : zwp (zcall d) m Q (.iinc 2 n :: r) (v0 :: zJ :: zi x :: L) st h = zwp (zcall d) m Q r (v0 :: zJ :: zi (x + n) :: L) st h := by rw [zw]; simp [zF, zstep, zSetL, zSetL2, zPrev, Value.category, zi, zl, zJ]
theorem r_dstore_2j  {u : UInt64} : zwp (zcall d) m Q (.dstore 2 :: r) (v0 :: zJ :: v2 :: v3 :: L) (.double u :: st) h = zwp (zcall d) m Q r (v0 :: zJ :: .double u :: zJ :: L) st h := by rw [zw]; simp [zF, zstep, zSetL, zSetL2, zPrev, Value.category, zi, zl, zJ]
theorem r_lstore_2j : zwp (zcall d) m Q (.lstore 2 :: r) (v0 :: zJ :: v2 :: v3 :: L) (zl x :: st) h = zwp (zcall d) m Q r (v0 :: zJ :: zl x :: zJ :: L) st h := by rw [zw]; simp [zF, zstep, zSetL, zSetL2, zPrev, Value.category, zi, zl, zJ]
theorem r_istore_3i {w : Int} : zwp (zcall d) m Q (.istore 3 :: r) (v0 :: v1 :: zi w :: v3 :: L) (zi x :: st) h = zwp (zcall d) m Q r (v0 :: v1 :: zi w :: zi x :: L) st h := by rw [zw]; simp [zF, zstep, zSetL, zSetL2, zPrev, Value.category, zi, zl, zJ]
theorem r_astore_3i {w : Int} : zwp (zcall d) m Q (.astore 3 :: r) (v0 :: v1 :: zi w :: v3 :: L) (.ref a :: st) h = zwp (zcall d) m Q r (v0 :: v1 :: zi w :: .ref a :: L) st h := by rw [zw]; simp [zF, zstep, zSetL, zSetL2, zPrev, Value.category, zi, zl, zJ]
theorem r_iinc_3i {w : Int} : zwp (zcall d) m Q (.iinc 3 n :: r) (v0 :: v1 :: zi w :: zi x :: L) st h = zwp (zcall d) m Q r (v0 :: v1 :: zi w :: zi (x + n) :: L) st h := by rw [zw]; simp [zF, zstep, zSetL, zSetL2, zPrev, Value.category, zi, zl, zJ]
theorem r_dstore_3i {w : Int} {u : UInt64} : zwp (zcall d) m Q (.dstore 3 :: r) (v0 :: v1 :: zi w :: v3 :: v4 :: L) (.double u :: st) h = zwp (zcall d) m Q r (v0 :: v1 :: zi w :: .double u :: zJ :: L) st h := by rw [zw]; simp [zF, zstep, zSetL, zSetL2, zPrev, Value.category, zi, zl, zJ]
theorem r_lstore_3i {w : Int} : zwp (zcall d) m Q (.lstore 3 :: r) (v0 :: v1 :: zi w :: v3 :: v4 :: L) (zl x :: st) h = zwp (zcall d) m Q r (v0 :: v1 :: zi w :: zl x :: zJ :: L) st h := by rw [zw]; simp [zF, zstep, zSetL, zSetL2, zPrev, Value.category, zi, zl, zJ]
theorem r_istore_3r : zwp (zcall d) m Q (.istore 3 :: r) (v0 :: v1 :: .ref c :: v3 :: L) (zi x :: st) h = zwp (zcall d) m Q r (v0 :: v1 :: .ref c :: zi x :: L) st h := by rw [zw]; simp [zF, zstep, zSetL, zSetL2, zPrev, Value.category, zi, zl, zJ]
theorem r_astore_3r : zwp (zcall d) m Q (.astore 3 :: r) (v0 :: v1 :: .ref c :: v3 :: L) (.ref a :: st) h = zwp (zcall d) m Q r (v0 :: v1 :: .ref c :: .ref a :: L) st h := by rw [zw]; simp [zF, zstep, zSetL, zSetL2, zPrev, Value.category, zi, zl, zJ]
theorem r_iinc_3r : zwp (zcall d) m Q (.iinc 3 n :: r) (v0 :: v1 :: .ref c :: zi x :: L) st h = zwp (zcall d) m Q r (v0 :: v1 :: .ref c :: zi (x + n) :: L) st h := by rw [zw]; simp [zF, zstep, zSetL, zSetL2, zPrev, Value.category, zi, zl, zJ]
theorem r_dstore_3r  {u : UInt64} : zwp (zcall d) m Q (.dstore 3 :: r) (v0 :: v1 :: .ref c :: v3 :: v4 :: L) (.double u :: st) h = zwp (zcall d) m Q r (v0 :: v1 :: .ref c :: .double u :: zJ :: L) st h := by rw [zw]; simp [zF, zstep, zSetL, zSetL2, zPrev, Value.category, zi, zl, zJ]
theorem r_lstore_3r : zwp (zcall d) m Q (.lstore 3 :: r) (v0 :: v1 :: .ref c :: v3 :: v4 :: L) (zl x :: st) h = zwp (zcall d) m Q r (v0 :: v1 :: .ref c :: zl x :: zJ :: L) st h := by rw [zw]; simp [zF, zstep, zSetL, zSetL2, zPrev, Value.category, zi, zl, zJ]
theorem r_istore_3j : zwp (zcall d) m Q (.istore 3 :: r) (v0 :: v1 :: zJ :: v3 :: L) (zi x :: st) h = zwp (zcall d) m Q r (v0 :: v1 :: zJ :: zi x :: L) st h := by rw [zw]; simp [zF, zstep, zSetL, zSetL2, zPrev, Value.category, zi, zl, zJ]
theorem r_astore_3j : zwp (zcall d) m Q (.astore 3 :: r) (v0 :: v1 :: zJ :: v3 :: L) (.ref a :: st) h = zwp (zcall d) m Q r (v0 :: v1 :: zJ :: .ref a :: L) st h := by rw [zw]; simp [zF, zstep, zSetL, zSetL2, zPrev, Value.category, zi, zl, zJ]
theorem r_iinc_3j : zwp (zcall d) m Q (.iinc 3 n :: r) (v0 :: v1 :: zJ :: zi x :: L) st h = zwp (zcall d) m Q r (v0 :: v1 :: zJ :: zi (x + n) :: L) st h := by rw [zw]; simp [zF, zstep, zSetL, zSetL2, zPrev, Value.category, zi, zl, zJ]
theorem r_dstore_3j  {u : UInt64} : zwp (zcall d) m Q (.dstore 3 :: r) (v0 :: v1 :: zJ :: v3 :: v4 :: L) (.double u :: st) h = zwp (zcall d) m Q r (v0 :: v1 :: zJ :: .double u :: zJ :: L) st h := by rw [zw]; simp [zF, zstep, zSetL, zSetL2, zPrev, Value.category, zi, zl, zJ]
theorem r_lstore_3j : zwp (zcall d) m Q (.lstore 3 :: r) (v0 :: v1 :: zJ :: v3 :: v4 :: L) (zl x :: st) h = zwp (zcall d) m Q r (v0 :: v1 :: zJ :: zl x :: zJ :: L) st h := by rw [zw]; simp [zF, zstep, zSetL, zSetL2, zPrev, Value.category, zi, zl, zJ]
theorem r_istore_4i {w : Int} : zwp (zcall d) m Q (.istore 4 :: r) (v0 :: v1 :: v2 :: zi w :: v4 :: L) (zi x :: st) h = zwp (zcall d) m Q r (v0 :: v1 :: v2 :: zi w :: zi x :: L) st h := by rw [zw]; simp [zF, zstep, zSetL, zSetL2, zPrev, Value.category, zi, zl, zJ]
theorem r_astore_4i {w : Int} : zwp (zcall d) m Q (.astore 4 :: r) (v0 :: v1 :: v2 :: zi w :: v4 :: L) (.ref a :: st) h = zwp (zcall d) m Q r (v0 :: v1 :: v2 :: zi w :: .ref a :: L) st h := by rw [zw]; simp [zF, zstep, zSetL, zSetL2, zPrev, Value.category, zi, zl, zJ]
theorem r_iinc_4i {w : Int} : zwp (zcall d) m Q (.iinc 4 n :: r) (v0 :: v1 :: v2 :: zi w :: zi x :: L) st h = zwp (zcall d) m Q r (v0 :: v1 :: v2 :: zi w :: zi (x + n) :: L) st h := by rw [zw]; simp [zF, zstep, zSetL, zSetL2, zPrev, Value.category, zi, zl, zJ]
theorem r_dstore_4i {w : Int} {u : UInt64} : zwp (zcall d) m Q (.dstore 4 :: r) (v0 :: v1 :: v2 :: zi w :: v4 :: v5 :: L) (.double u :: st) h = zwp (zcall d) m Q r (v0 :: v1 :: v2 :: zi w :: .double u :: zJ :: L) st h := by rw [zw]; simp [zF, zstep, zSetL, zSetL2, zPrev, Value.category, zi, zl, zJ]
theorem r_istore_4r : zwp (zcall d) m Q (.istore 4 :: r) (v0 :: v1 :: v2 :: .ref c :: v4 :: L) (zi x :: st) h = zwp (zcall d) m Q r (v0 :: v1 :: v2 :: .ref c :: zi x :: L) st h := by rw [zw]; simp [zF, zstep, zSetL, zSetL2, zPrev, Value.category, zi, zl, zJ]
theorem r_astore_4r : zwp (zcall d) m Q (.astore 4 :: r) (v0 :: v1 :: v2 :: .ref c :: v4 :: L) (.ref a :: st) h = zwp (zcall d) m Q r (v0 :: v1 :: v2 :: .ref c :: .ref a :: L) st h := by rw [zw]; simp [zF, zstep, zSetL, zSetL2, zPrev, Value.category, zi, zl, zJ]
theorem r_iinc_4r : zwp (zcall d) m Q (.iinc 4 n :: r) (v0 :: v1 :: v2 :: .ref c :: zi x :: L) st h = zwp (zcall d) m Q r (v0 :: v1 :: v2 :: .ref c :: zi (x + n) :: L) st h := by rw [zw]; simp [zF, zstep, zSetL, zSetL2, zPrev, Value.category, zi, zl, zJ]
theorem r_dstore_4r  {u : UInt64} : zwp (zcall d) m Q (.dstore 4 :: r) (v0 :: v1 :: v2 :: .ref c :: v4 :: v5 :: L) (.double u :: st) h = zwp (zcall d) m Q r (v0 :: v1 :: v2 :: .ref c :: .double u :: zJ :: L) st h := by rw [zw]; simp [zF, zstep, zSetL, zSetL2, zPrev, Value.category, zi, zl, zJ]
theorem r_istore_4j : zwp (zcall d) m Q (.istore 4 :: r) (v0 :: v1 :: v2 :: zJ :: v4 :: L) (zi x :: st) h = zwp (zcall d) m Q r (v0 :: v1 :: v2 :: zJ :: zi x :: L) st h := by rw [zw]; simp [zF, zstep, zSetL, zSetL2, zPrev, Value.category, zi, zl, zJ]
theorem r_astore_4j : zwp (zcall d) m Q (.astore 4 :: r) (v0 :: v1 :: v2 :: zJ :: v4 :: L) (.ref a :: st) h = zwp (zcall d) m Q r (v0 :: v1 :: v2 :: zJ :: .ref a :: L) st h := by rw [zw]; simp [zF, zstep, zSetL, zSetL2, zPrev, Value.category, zi, zl, zJ]
theorem r_iinc_4j : zwp (zcall d) m Q (.iinc 4 n :: r) (v0 :: v1 :: v2 :: zJ :: zi x :: L) st h = zwp (zcall d) m Q r (v0 :: v1 :: v2 :: zJ :: zi (x + n) :: L) st h := by rw [zw]; simp [zF, zstep, zSetL, zSetL2, zPrev, Value.category, zi, zl, zJ]
theorem r_dstore_4j  {u : UInt64} : zwp (zcall d) m Q (.dstore 4 :: r) (v0 :: v1 :: v2 :: zJ :: v4 :: v5 :: L) (.double u :: st) h = zwp (zcall d) m Q r (v0 :: v1 :: v2 :: zJ :: .double u :: zJ :: L) st h := by rw [zw]; simp [zF, zstep, zSetL, zSetL2, zPrev, Value.category, zi, zl, zJ]
theorem r_istore_5i {w : Int} : zwp (zcall d) m Q (.istore 5 :: r) (v0 :: v1 :: v2 :: v3 :: zi w :: v5 :: L) (zi x :: st) h = zwp (zcall d) m Q r (v0 :: v1 :: v2 :: v3 :: zi w :: zi x :: L) st h := by rw [zw]; simp [zF, zstep, zSetL, zSetL2, zPrev, Value.category, zi, zl, zJ]
theorem r_astore_5i {w : Int} : zwp (zcall d) m Q (.astore 5 :: r) (v0 :: v1 :: v2 :: v3 :: zi w :: v5 :: L) (.ref a :: st) h = zwp (zcall d) m Q r (v0 :: v1 :: v2 :: v3 :: zi w :: .ref a :: L) st h := by rw [zw]; simp [zF, zstep, zSetL, zSetL2, zPrev, Value.category, zi, zl, zJ]
theorem r_iinc_5i {w : Int} : zwp (zcall d) m Q (.iinc 5 n :: r) (v0 :: v1 :: v2 :: v3 :: zi w :: zi x :: L) st h = zwp (zcall d) m Q r (v0 :: v1 :: v2 :: v3 :: zi w :: zi (x + n) :: L) st h := by rw [zw]; simp [zF, zstep, zSetL, zSetL2, zPrev, Value.category, zi, zl, zJ]
theorem r_dstore_5i {w : Int} {u : UInt64} : zwp (zcall d) m Q (.dstore 5 :: r) (v0 :: v1 :: v2 :: v3 :: zi w :: v5 :: v6 :: L) (.double u :: st) h = zwp (zcall d) m Q r (v0 :: v1 :: v2 :: v3 :: zi w :: .double u :: zJ :: L) st h := by rw [zw]; simp [zF, zstep, zSetL, zSetL2, zPrev, Value.category, zi, zl, zJ]
theorem r_istore_5r : zwp (zcall d) m Q (.istore 5 :: r) (v0 :: v1 :: v2 :: v3 :: .ref c :: v5 :: L) (zi x :: st) h = zwp (zcall d) m Q r (v0 :: v1 :: v2 :: v3 :: .ref c :: zi x :: L) st h := by rw [zw]; simp [zF, zstep, zSetL, zSetL2, zPrev, Value.category, zi, zl, zJ]
theorem r_astore_5r : zwp (zcall d) m Q (.astore 5 :: r) (v0 :: v1 :: v2 :: v3 :: .ref c :: v5 :: L) (.ref a :: st) h = zwp (zcall d) m Q r (v0 :: v1 :: v2 :: v3 :: .ref c :: .ref a :: L) st h := by rw [zw]; simp [zF, zstep, zSetL, zSetL2, zPrev, Value.category, zi, zl, zJ]
theorem r_iinc_5r : zwp (zcall d) m Q (.iinc 5 n :: r) (v0 :: v1 :: v2 :: v3 :: .ref c :: zi x :: L) st h = zwp (zcall d) m Q r (v0 :: v1 :: v2 :: v3 :: .ref c :: zi (x + n) :: L) st h := by rw [zw]; simp [zF, zstep, zSetL, zSetL2, zPrev, Value.category, zi, zl, zJ]
theorem r_dstore_5r  {u : UInt64} : zwp (zcall d) m Q (.dstore 5 :: r) (v0 :: v1 :: v2 :: v3 :: .ref c :: v5 :: v6 :: L) (.double u :: st) h = zwp (zcall d) m Q r (v0 :: v1 :: v2 :: v3 :: .ref c :: .double u :: zJ :: L) st h := by rw [zw]; simp [zF, zstep, zSetL, zSetL2, zPrev, Value.category, zi, zl, zJ]
theorem r_istore_5j : zwp (zcall d) m Q (.istore 5 :: r) (v0 :: v1 :: v2 :: v3 :: zJ :: v5 :: L) (zi x :: st) h = zwp (zcall d) m Q r (v0 :: v1 :: v2 :: v3 :: zJ :: zi x :: L) st h := by rw [zw]; simp [zF, zstep, zSetL, zSetL2, zPrev, Value.category, zi, zl, zJ]
theorem r_astore_5j : zwp (zcall d) m Q (.astore 5 :: r) (v0 :: v1 :: v2 :: v3 :: zJ :: v5 :: L) (.ref a :: st) h = zwp (zcall d) m Q r (v0 :: v1 :: v2 :: v3 :: zJ :: .ref a :: L) st h := by rw [zw]; simp [zF, zstep, zSetL, zSetL2, zPrev, Value.category, zi, zl, zJ]
theorem r_iinc_5j : zwp (zcall d) m Q (.iinc 5 n :: r) (v0 :: v1 :: v2 :: v3 :: zJ :: zi x :: L) st h = zwp (zcall d) m Q r (v0 :: v1 :: v2 :: v3 :: zJ :: zi (x + n) :: L) st h := by rw [zw]; simp [zF, zstep, zSetL, zSetL2, zPrev, Value.category, zi, zl, zJ]
theorem r_dstore_5j  {u : UInt64} : zwp (zcall d) m Q (.dstore 5 :: r) (v0 :: v1 :: v2 :: v3 :: zJ :: v5 :: v6 :: L) (.double u :: st) h = zwp (zcall d) m Q r (v0 :: v1 :: v2 :: v3 :: zJ :: .double u :: zJ :: L) st h := by rw [zw]; simp [zF, zstep, zSetL, zSetL2, zPrev, Value.category, zi, zl, zJ]
theorem r_istore_6i {w : Int} : zwp (zcall d) m Q (.istore 6 :: r) (v0 :: v1 :: v2 :: v3 :: v4 :: zi w :: v6 :: L) (zi x :: st) h = zwp (zcall d) m Q r (v0 :: v1 :: v2 :: v3 :: v4 :: zi w :: zi x :: L) st h := by rw [zw]; simp [zF, zstep, zSetL, zSetL2, zPrev, Value.category, zi, zl, zJ]
theorem r_astore_6i {w : Int} : zwp (zcall d) m Q (.astore 6 :: r) (v0 :: v1 :: v2 :: v3 :: v4 :: zi w :: v6 :: L) (.ref a :: st) h = zwp (zcall d) m Q r (v0 :: v1 :: v2 :: v3 :: v4 :: zi w :: .ref a :: L) st h := by rw [zw]; simp [zF, zstep, zSetL, zSetL2, zPrev, Value.category, zi, zl, zJ]
theorem r_iinc_6i {w : Int} : zwp (zcall d) m Q (.iinc 6 n :: r) (v0 :: v1 :: v2 :: v3 :: v4 :: zi w :: zi x :: L) st h = zwp (zcall d) m Q r (v0 :: v1 :: v2 :: v3 :: v4 :: zi w :: zi (x + n) :: L) st h := by rw [zw]; simp [zF, zstep, zSetL, zSetL2, zPrev, Value.category, zi, zl, zJ]
theorem r_dstore_6i {w : Int} {u : UInt64} : zwp (zcall d) m Q (.dstore 6 :: r) (v0 :: v1 :: v2 :: v3 :: v4 :: zi w :: v6 :: v7 :: L) (.double u :: st) h = zwp (zcall d) m Q r (v0 :: v1 :: v2 :: v3 :: v4 :: zi w :: .double u :: zJ :: L) st h := by rw [zw]; simp [zF, zstep, zSetL, zSetL2, zPrev, Value.category, zi, zl, zJ]
theorem r_istore_6r : zwp (zcall d) m Q (.istore 6 :: r) (v0 :: v1 :: v2 :: v3 :: v4 :: .ref c :: v6 :: L) (zi x :: st) h = zwp (zcall d) m Q r (v0 :: v1 :: v2 :: v3 :: v4 :: .ref c :: zi x :: L) st h := by rw [zw]; simp [zF, zstep, zSetL, zSetL2, zPrev, Value.category, zi, zl, zJ]
theorem r_astore_6r : zwp (zcall d) m Q (.astore 6 :: r) (v0 :: v1 :: v2 :: v3 :: v4 :: .ref c :: v6 :: L) (.ref a :: st) h = zwp (zcall d) m Q r (v0 :: v1 :: v2 :: v3 :: v4 :: .ref c :: .ref a :: L) st h := by rw [zw]; simp [zF, zstep, zSetL, zSetL2, zPrev, Value.category, zi, zl, zJ]
theorem r_iinc_6r : zwp (zcall d) m Q (.iinc 6 n :: r) (v0 :: v1 :: v2 :: v3 :: v4 :: .ref c :: zi x :: L) st h = zwp (zcall d) m Q r (v0 :: v1 :: v2 :: v3 :: v4 :: .ref c :: zi (x + n) :: L) st h := by rw [zw]; simp [zF, zstep, zSetL, zSetL2, zPrev, Value.category, zi, zl, zJ]
theorem r_dstore_6r  {u : UInt64} : zwp (zcall d) m Q (.dstore 6 :: r) (v0 :: v1 :: v2 :: v3 :: v4 :: .ref c :: v6 :: v7 :: L) (.double u :: st) h = zwp (zcall d) m Q r (v0 :: v1 :: v2 :: v3 :: v4 :: .ref c :: .double u :: zJ :: L) st h := by rw [zw]; simp [zF, zstep, zSetL, zSetL2, zPrev, Value.category, zi, zl, zJ]
theorem r_istore_6j : zwp (zcall d) m Q (.istore 6 :: r) (v0 :: v1 :: v2 :: v3 :: v4 :: zJ :: v6 :: L) (zi x :: st) h = zwp (zcall d) m Q r (v0 :: v1 :: v2 :: v3 :: v4 :: zJ :: zi x :: L) st h := by rw [zw]; simp [zF, zstep, zSetL, zSetL2, zPrev, Value.category, zi, zl, zJ]
theorem r_astore_6j : zwp (zcall d) m Q (.astore 6 :: r) (v0 :: v1 :: v2 :: v3 :: v4 :: zJ :: v6 :: L) (.ref a :: st) h = zwp (zcall d) m Q r (v0 :: v1 :: v2 :: v3 :: v4 :: zJ :: .ref a :: L) st h := by rw [zw]; simp [zF, zstep, zSetL, zSetL2, zPrev, Value.category, zi, zl, zJ]
theorem r_iinc_6j : zwp (zcall d) m Q (.iinc 6 n :: r) (v0 :: v1 :: v2 :: v3 :: v4 :: zJ :: zi x :: L) st h = zwp (zcall d) m Q r (v0 :: v1 :: v2 :: v3 :: v4 :: zJ :: zi (x + n) :: L) st h := by rw [zw]; simp [zF, zstep, zSetL, zSetL2, zPrev, Value.category, zi, zl, zJ]
theorem r_dstore_6j  {u : UInt64} : zwp (zcall d) m Q (.dstore 6 :: r) (v0 :: v1 :: v2 :: v3 :: v4 :: zJ :: v6 :: v7 :: L) (.double u :: st) h = zwp (zcall d) m Q r (v0 :: v1 :: v2 :: v3 :: v4 :: zJ :: .double u :: zJ :: L) st h := by rw [zw]; simp [zF, zstep, zSetL, zSetL2, zPrev, Value.category, zi, zl, zJ]
theorem r_istore_7i {w : Int} : zwp (zcall d) m Q (.istore 7 :: r) (v0 :: v1 :: v2 :: v3 :: v4 :: v5 :: zi w :: v7 :: L) (zi x :: st) h = zwp (zcall d) m Q r (v0 :: v1 :: v2 :: v3 :: v4 :: v5 :: zi w :: zi x :: L) st h := by rw [zw]; simp [zF, zstep, zSetL, zSetL2, zPrev, Value.category, zi, zl, zJ]
theorem r_astore_7i {w : Int} : zwp (zcall d) m Q (.astore 7 :: r) (v0 :: v1 :: v2 :: v3 :: v4 :: v5 :: zi w :: v7 :: L) (.ref a :: st) h = zwp (zcall d) m Q r (v0 :: v1 :: v2 :: v3 :: v4 :: v5 :: zi w :: .ref a :: L) st h := by rw [zw]; simp [zF, zstep, zSetL, zSetL2, zPrev, Value.category, zi, zl, zJ]
theorem r_iinc_7i {w : Int} : zwp (zcall d) m Q (.iinc 7 n :: r) (v0 :: v1 :: v2 :: v3 :: v4 :: v5 :: zi w :: zi x :: L) st h = zwp (zcall d) m Q r (v0 :: v1 :: v2 :: v3 :: v4 :: v5 :: zi w :: zi (x + n) :: L) st h := by rw [zw]; simp [zF, zstep, zSetL, zSetL2, zPrev, Value.category, zi, zl, zJ]
theorem r_dstore_7i {w : Int} {u : UInt64} : zwp (zcall d) m Q (.dstore 7 :: r) (v0 :: v1 :: v2 :: v3 :: v4 :: v5 :: zi w :: v7 :: v8 :: L) (.double u :: st) h = zwp (zcall d) m Q r (v0 :: v1 :: v2 :: v3 :: v4 :: v5 :: zi w :: .double u :: zJ :: L) st h := by rw [zw]; simp [zF, zstep, zSetL, zSetL2, zPrev, Value.category, zi, zl, zJ]
theorem r_istore_7r : zwp (zcall d) m Q (.istore 7 :: r) (v0 :: v1 :: v2 :: v3 :: v4 :: v5 :: .ref c :: v7 :: L) (zi x :: st) h = zwp (zcall d) m Q r (v0 :: v1 :: v2 :: v3 :: v4 :: v5 :: .ref c :: zi x :: L) st h := by rw [zw]; simp [zF, zstep, zSetL, zSetL2, zPrev, Value.category, zi, zl, zJ]
theorem r_astore_7r : zwp (zcall d) m Q (.astore 7 :: r) (v0 :: v1 :: v2 :: v3 :: v4 :: v5 :: .ref c :: v7 :: L) (.ref a :: st) h = zwp (zcall d) m Q r (v0 :: v1 :: v2 :: v3 :: v4 :: v5 :: .ref c :: .ref a :: L) st h := by rw [zw]; simp [zF, zstep, zSetL, zSetL2, zPrev, Value.category, zi, zl, zJ]
theorem r_iinc_7r : zwp (zcall d) m Q (.iinc 7 n :: r) (v0 :: v1 :: v2 :: v3 :: v4 :: v5 :: .ref c :: zi x :: L) st h = zwp (zcall d) m Q r (v0 :: v1 :: v2 :: v3 :: v4 :: v5 :: .ref c :: zi (x + n) :: L) st h := by rw [zw]; simp [zF, zstep, zSetL, zSetL2, zPrev, Value.category, zi, zl, zJ]
theorem r_dstore_7r  {u : UInt64} : zwp (zcall d) m Q (.dstore 7 :: r) (v0 :: v1 :: v2 :: v3 :: v4 :: v5 :: .ref c :: v7 :: v8 :: L) (.double u :: st) h = zwp (zcall d) m Q r (v0 :: v1 :: v2 :: v3 :: v4 :: v5 :: .ref c :: .double u :: zJ :: L) st h := by rw [zw]; simp [zF, zstep, zSetL, zSetL2, zPrev, Value.category, zi, zl, zJ]
theorem r_istore_7j : zwp (zcall d) m Q (.istore 7 :: r) (v0 :: v1 :: v2 :: v3 :: v4 :: v5 :: zJ :: v7 :: L) (zi x :: st) h = zwp (zcall d) m Q r (v0 :: v1 :: v2 :: v3 :: v4 :: v5 :: zJ :: zi x :: L) st h := by rw [zw]; simp [zF, zstep, zSetL, zSetL2, zPrev, Value.category, zi, zl, zJ]
theorem r_astore_7j : zwp (zcall d) m Q (.astore 7 :: r) (v0 :: v1 :: v2 :: v3 :: v4 :: v5 :: zJ :: v7 :: L) (.ref a :: st) h = zwp (zcall d) m Q r (v0 :: v1 :: v2 :: v3 :: v4 :: v5 :: zJ :: .ref a :: L) st h := by rw [zw]; simp [zF, zstep, zSetL, zSetL2, zPrev, Value.category, zi, zl, zJ]
theorem r_iinc_7j : zwp (zcall d) m Q (.iinc 7 n :: r) (v0 :: v1 :: v2 :: v3 :: v4 :: v5 :: zJ :: zi x :: L) st h = zwp (zcall d) m Q r (v0 :: v1 :: v2 :: v3 :: v4 :: v5 :: zJ :: zi (x + n) :: L) st h := by rw [zw]; simp [zF, zstep, zSetL, zSetL2, zPrev, Value.category, zi, zl, zJ]
theorem r_dstore_7j  {u : UInt64} : zwp (zcall d) m Q (.dstore 7 :: r) (v0 :: v1 :: v2 :: v3 :: v4 :: v5 :: zJ :: v7 :: v8 :: L) (.double u :: st) h = zwp (zcall d) m Q r (v0 :: v1 :: v2 :: v3 :: v4 :: v5 :: zJ :: .double u :: zJ :: L) st h := by rw [zw]; simp [zF, zstep, zSetL, zSetL2, zPrev, Value.category, zi, zl, zJ]
theorem r_istore_8i {w : Int} : zwp (zcall d) m Q (.istore 8 :: r) (v0 :: v1 :: v2 :: v3 :: v4 :: v5 :: v6 :: zi w :: v8 :: L) (zi x :: st) h = zwp (zcall d) m Q r (v0 :: v1 :: v2 :: v3 :: v4 :: v5 :: v6 :: zi w :: zi x :: L) st h := by rw [zw]; simp [zF, zstep, zSetL, zSetL2, zPrev, Value.category, zi, zl, zJ]
theorem r_astore_8i {w : Int} : zwp (zcall d) m Q (.astore 8 :: r) (v0 :: v1 :: v2 :: v3 :: v4 :: v5 :: v6 :: zi w :: v8 :: L) (.ref a :: st) h = zwp (zcall d) m Q r (v0 :: v1 :: v2 :: v3 :: v4 :: v5 :: v6 :: zi w :: .ref a :: L) st h := by rw [zw]; simp [zF, zstep, zSetL, zSetL2, zPrev, Value.category, zi, zl, zJ]
theorem r_iinc_8i {w : Int} : zwp (zcall d) m Q (.iinc 8 n :: r) (v0 :: v1 :: v2 :: v3 :: v4 :: v5 :: v6 :: zi w :: zi x :: L) st h = zwp (zcall d) m Q r (v0 :: v1 :: v2 :: v3 :: v4 :: v5 :: v6 :: zi w :: zi (x + n) :: L) st h := by rw [zw]; simp [zF, zstep, zSetL, zSetL2, zPrev, Value.category, zi, zl, zJ]
theorem r_dstore_8i {w : Int} {u : UInt64} : zwp (zcall d) m Q (.dstore 8 :: r) (v0 :: v1 :: v2 :: v3 :: v4 :: v5 :: v6 :: zi w :: v8 :: v9 :: L) (.double u :: st) h = zwp (zcall d) m Q r (v0 :: v1 :: v2 :: v3 :: v4 :: v5 :: v6 :: zi w :: .double u :: zJ :: L) st h := by rw [zw]; simp [zF, zstep, zSetL, zSetL2, zPrev, Value.category, zi, zl, zJ]
theorem r_istore_8r : zwp (zcall d) m Q (.istore 8 :: r) (v0 :: v1 :: v2 :: v3 :: v4 :: v5 :: v6 :: .ref c :: v8 :: L) (zi x :: st) h = zwp (zcall d) m Q r (v0 :: v1 :: v2 :: v3 :: v4 :: v5 :: v6 :: .ref c :: zi x :: L) st h := by rw [zw]; simp [zF, zstep, zSetL, zSetL2, zPrev, Value.category, zi, zl, zJ]
theorem r_astore_8r : zwp (zcall d) m Q (.astore 8 :: r) (v0 :: v1 :: v2 :: v3 :: v4 :: v5 :: v6 :: .ref c :: v8 :: L) (.ref a :: st) h = zwp (zcall d) m Q r (v0 :: v1 :: v2 :: v3 :: v4 :: v5 :: v6 :: .ref c :: .ref a :: L) st h := by rw [zw]; simp [zF, zstep, zSetL, zSetL2, zPrev, Value.category, zi, zl, zJ]
theorem r_iinc_8r : zwp (zcall d) m Q (.iinc 8 n :: r) (v0 :: v1 :: v2 :: v3 :: v4 :: v5 :: v6 :: .ref c :: zi x :: L) st h = zwp (zcall d) m Q r (v0 :: v1 :: v2 :: v3 :: v4 :: v5 :: v6 :: .ref c :: zi (x + n) :: L) st h := by rw [zw]; simp [zF, zstep, zSetL, zSetL2, zPrev, Value.category, zi, zl, zJ]
theorem r_dstore_8r  {u : UInt64} : zwp (zcall d) m Q (.dstore 8 :: r) (v0 :: v1 :: v2 :: v3 :: v4 :: v5 :: v6 :: .ref c :: v8 :: v9 :: L) (.double u :: st) h = zwp (zcall d) m Q r (v0 :: v1 :: v2 :: v3 :: v4 :: v5 :: v6 :: .ref c :: .double u :: zJ :: L) st h := by rw [zw]; simp [zF, zstep, zSetL, zSetL2, zPrev, Value.category, zi, zl, zJ]
theorem r_istore_8j : zwp (zcall d) m Q (.istore 8 :: r) (v0 :: v1 :: v2 :: v3 :: v4 :: v5 :: v6 :: zJ :: v8 :: L) (zi x :: st) h = zwp (zcall d) m Q r (v0 :: v1 :: v2 :: v3 :: v4 :: v5 :: v6 :: zJ :: zi x :: L) st h := by rw [zw]; simp [zF, zstep, zSetL, zSetL2, zPrev, Value.category, zi, zl, zJ]
theorem r_astore_8j : zwp (zcall d) m Q (.astore 8 :: r) (v0 :: v1 :: v2 :: v3 :: v4 :: v5 :: v6 :: zJ :: v8 :: L) (.ref a :: st) h = zwp (zcall d) m Q r (v0 :: v1 :: v2 :: v3 :: v4 :: v5 :: v6 :: zJ :: .ref a :: L) st h := by rw [zw]; simp [zF, zstep, zSetL, zSetL2, zPrev, Value.category, zi, zl, zJ]
theorem r_iinc_8j : zwp (zcall d) m Q (.iinc 8 n :: r) (v0 :: v1 :: v2 :: v3 :: v4 :: v5 :: v6 :: zJ :: zi x :: L) st h = zwp (zcall d) m Q r (v0 :: v1 :: v2 :: v3 :: v4 :: v5 :: v6 :: zJ :: zi (x + n) :: L) st h := by rw [zw]; simp [zF, zstep, zSetL, zSetL2, zPrev, Value.category, zi, zl, zJ]
theorem r_dstore_8j  {u : UInt64} : zwp (zcall d) m Q (.dstore 8 :: r) (v0 :: v1 :: v2 :: v3 :: v4 :: v5 :: v6 :: zJ :: v8 :: v9 :: L) (.double u :: st) h = zwp (zcall d) m Q r (v0 :: v1 :: v2 :: v3 :: v4 :: v5 :: v6 :: zJ :: .double u :: zJ :: L) st h := by rw [zw]; simp [zF, zstep, zSetL, zSetL2, zPrev, Value.category, zi, zl, zJ]
theorem r_istore_9i {w : Int} : zwp (zcall d) m Q (.istore 9 :: r) (v0 :: v1 :: v2 :: v3 :: v4 :: v5 :: v6 :: v7 :: zi w :: v9 :: L) (zi x :: st) h = zwp (zcall d) m Q r (v0 :: v1 :: v2 :: v3 :: v4 :: v5 :: v6 :: v7 :: zi w :: zi x :: L) st h := by rw [zw]; simp [zF, zstep, zSetL, zSetL2, zPrev, Value.category, zi, zl, zJ]
theorem r_astore_9i {w : Int} : zwp (zcall d) m Q (.astore 9 :: r) (v0 :: v1 :: v2 :: v3 :: v4 :: v5 :: v6 :: v7 :: zi w :: v9 :: L) (.ref a :: st) h = zwp (zcall d) m Q r (v0 :: v1 :: v2 :: v3 :: v4 :: v5 :: v6 :: v7 :: zi w :: .ref a :: L) st h := by rw [zw]; simp [zF, zstep, zSetL, zSetL2, zPrev, Value.category, zi, zl, zJ]
theorem r_iinc_9i {w : Int} : zwp (zcall d) m Q (.iinc 9 n :: r) (v0 :: v1 :: v2 :: v3 :: v4 :: v5 :: v6 :: v7 :: zi w :: zi x :: L) st h = zwp (zcall d) m Q r (v0 :: v1 :: v2 :: v3 :: v4 :: v5 :: v6 :: v7 :: zi w :: zi (x + n) :: L) st h := by rw [zw]; simp [zF, zstep, zSetL, zSetL2, zPrev, Value.category, zi, zl, zJ]
theorem r_dstore_9i {w : Int} {u : UInt64} : zwp (zcall d) m Q (.dstore 9 :: r) (v0 :: v1 :: v2 :: v3 :: v4 :: v5 :: v6 :: v7 :: zi w :: v9 :: v10 :: L) (.double u :: st) h = zwp (zcall d) m Q r (v0 :: v1 :: v2 :: v3 :: v4 :: v5 :: v6 :: v7 :: zi w :: .double u :: zJ :: L) st h := by rw [zw]; simp [zF, zstep, zSetL, zSetL2, zPrev, Value.category, zi, zl, zJ]
theorem r_istore_9r : zwp (zcall d) m Q (.istore 9 :: r) (v0 :: v1 :: v2 :: v3 :: v4 :: v5 :: v6 :: v7 :: .ref c :: v9 :: L) (zi x :: st) h = zwp (zcall d) m Q r (v0 :: v1 :: v2 :: v3 :: v4 :: v5 :: v6 :: v7 :: .ref c :: zi x :: L) st h := by rw [zw]; simp [zF, zstep, zSetL, zSetL2, zPrev, Value.category, zi, zl, zJ]
theorem r_astore_9r : zwp (zcall d) m Q (.astore 9 :: r) (v0 :: v1 :: v2 :: v3 :: v4 :: v5 :: v6 :: v7 :: .ref c :: v9 :: L) (.ref a :: st) h = zwp (zcall d) m Q r (v0 :: v1 :: v2 :: v3 :: v4 :: v5 :: v6 :: v7 :: .ref c :: .ref a :: L) st h := by rw [zw]; simp [zF, zstep, zSetL, zSetL2, zPrev, Value.category, zi, zl, zJ]
theorem r_iinc_9r : zwp (zcall d) m Q (.iinc 9 n :: r) (v0 :: v1 :: v2 :: v3 :: v4 :: v5 :: v6 :: v7 :: .ref c :: zi x :: L) st h = zwp (zcall d) m Q r (v0 :: v1 :: v2 :: v3 :: v4 :: v5 :: v6 :: v7 :: .ref c :: zi (x + n) :: L) st h := by rw [zw]; simp [zF, zstep, zSetL, zSetL2, zPrev, Value.category, zi, zl, zJ]
theorem r_dstore_9r  {u : UInt64} : zwp (zcall d) m Q (.dstore 9 :: r) (v0 :: v1 :: v2 :: v3 :: v4 :: v5 :: v6 :: v7 :: .ref c :: v9 :: v10 :: L) (.double u :: st) h = zwp (zcall d) m Q r (v0 :: v1 :: v2 :: v3 :: v4 :: v5 :: v6 :: v7 :: .ref c :: .double u :: zJ :: L) st h := by rw [zw]; simp [zF, zstep, zSetL, zSetL2, zPrev, Value.category, zi, zl, zJ]
theorem r_istore_9j : zwp (zcall d) m Q (.istore 9 :: r) (v0 :: v1 :: v2 :: v3 :: v4 :: v5 :: v6 :: v7 :: zJ :: v9 :: L) (zi x :: st) h = zwp (zcall d) m Q r (v0 :: v1 :: v2 :: v3 :: v4 :: v5 :: v6 :: v7 :: zJ :: zi x :: L) st h := by rw [zw]; simp [zF, zstep, zSetL, zSetL2, zPrev, Value.category, zi, zl, zJ]
theorem r_astore_9j : zwp (zcall d) m Q (.astore 9 :: r) (v0 :: v1 :: v2 :: v3 :: v4 :: v5 :: v6 :: v7 :: zJ :: v9 :: L) (.ref a :: st) h = zwp (zcall d) m Q r (v0 :: v1 :: v2 :: v3 :: v4 :: v5 :: v6 :: v7 :: zJ :: .ref a :: L) st h := by rw [zw]; simp [zF, zstep, zSetL, zSetL2, zPrev, Value.category, zi, zl, zJ]
theorem r_iinc_9j : zwp (zcall d) m Q (.iinc 9 n :: r) (v0 :: v1 :: v2 :: v3 :: v4 :: v5 :: v6 :: v7 :: zJ :: zi x :: L) st h = zwp (zcall d) m Q r (v0 :: v1 :: v2 :: v3 :: v4 :: v5 :: v6 :: v7 :: zJ :: zi (x + n) :: L) st h := by rw [zw]; simp [zF, zstep, zSetL, zSetL2, zPrev, Value.category, zi, zl, zJ]
theorem r_dstore_9j  {u : UInt64} : zwp (zcall d) m Q (.dstore 9 :: r) (v0 :: v1 :: v2 :: v3 :: v4 :: v5 :: v6 :: v7 :: zJ :: v9 :: v10 :: L) (.double u :: st) h = zwp (zcall d) m Q r (v0 :: v1 :: v2 :: v3 :: v4 :: v5 :: v6 :: v7 :: zJ :: .double u :: zJ :: L) st h := by rw [zw]; simp [zF, zstep, zSetL, zSetL2, zPrev, Value.category, zi, zl, zJ]
theorem r_istore_10i {w : Int} : zwp (zcall d) m Q (.istore 10 :: r) (v0 :: v1 :: v2 :: v3 :: v4 :: v5 :: v6 :: v7 :: v8 :: zi w :: v10 :: L) (zi x :: st) h = zwp (zcall d) m Q r (v0 :: v1 :: v2 :: v3 :: v4 :: v5 :: v6 :: v7 :: v8 :: zi w :: zi x :: L) st h := by rw [zw]; simp [zF, zstep, zSetL, zSetL2, zPrev, Value.category, zi, zl, zJ]
theorem r_astore_10i {w : Int} : zwp (zcall d) m Q (.astore 10 :: r) (v0 :: v1 :: v2 :: v3 :: v4 :: v5 :: v6 :: v7 :: v8 :: zi w :: v10 :: L) (.ref a :: st) h = zwp (zcall d) m Q r (v0 :: v1 :: v2 :: v3 :: v4 :: v5 :: v6 :: v7 :: v8 :: zi w :: .ref a :: L) st h := by rw [zw]; simp [zF, zstep, zSetL, zSetL2, zPrev, Value.category, zi, zl, zJ]
theorem r_iinc_10i {w : Int} : zwp (zcall d) m Q (.iinc 10 n :: r) (v0 :: v1 :: v2 :: v3 :: v4 :: v5 :: v6 :: v7 :: v8 :: zi w :: zi x :: L) st h = zwp (zcall d) m Q r (v0 :: v1 :: v2 :: v3 :: v4 :: v5 :: v6 :: v7 :: v8 :: zi w :: zi (x + n) :: L) st h := by rw [zw]; simp [zF, zstep, zSetL, zSetL2, zPrev, Value.category, zi, zl, zJ]
theorem r_dstore_10i {w : Int} {u : UInt64} : zwp (zcall d) m Q (.dstore 10 :: r) (v0 :: v1 :: v2 :: v3 :: v4 :: v5 :: v6 :: v7 :: v8 :: zi w :: v10 :: v11 :: L) (.double u :: st) h = zwp (zcall d) m Q r (v0 :: v1 :: v2 :: v3 :: v4 :: v5 :: v6 :: v7 :: v8 :: zi w :: .double u :: zJ :: L) st h := by rw [zw]; simp [zF, zstep, zSetL, zSetL2, zPrev, Value.category, zi, zl, zJ]
theorem r_istore_10r : zwp (zcall d) m Q (.istore 10 :: r) (v0 :: v1 :: v2 :: v3 :: v4 :: v5 :: v6 :: v7 :: v8 :: .ref c :: v10 :: L) (zi x :: st) h = zwp (zcall d) m Q r (v0 :: v1 :: v2 :: v3 :: v4 :: v5 :: v6 :: v7 :: v8 :: .ref c :: zi x :: L) st h := by rw [zw]; simp [zF, zstep, zSetL, zSetL2, zPrev, Value.category, zi, zl, zJ]
theorem r_astore_10r : zwp (zcall d) m Q (.astore 10 :: r) (v0 :: v1 :: v2 :: v3 :: v4 :: v5 :: v6 :: v7 :: v8 :: .ref c :: v10 :: L) (.ref a :: st) h = zwp (zcall d) m Q r (v0 :: v1 :: v2 :: v3 :: v4 :: v5 :: v6 :: v7 :: v8 :: .ref c :: .ref a :: L) st h := by rw [zw]; simp [zF, zstep, zSetL, zSetL2, zPrev, Value.category, zi, zl, zJ]
theorem r_iinc_10r : zwp (zcall d) m Q (.iinc 10 n :: r) (v0 :: v1 :: v2 :: v3 :: v4 :: v5 :: v6 :: v7 :: v8 :: .ref c :: zi x :: L) st h = zwp (zcall d) m Q r (v0 :: v1 :: v2 :: v3 :: v4 :: v5 :: v6 :: v7 :: v8 :: .ref c :: zi (x + n) :: L) st h := by rw [zw]; simp [zF, zstep, zSetL, zSetL2, zPrev, Value.category, zi, zl, zJ]
theorem r_dstore_10r  {u : UInt64} : zwp (zcall d) m Q (.dstore 10 :: r) (v0 :: v1 :: v2 :: v3 :: v4 :: v5 :: v6 :: v7 :: v8 :: .ref c :: v10 :: v11 :: L) (.double u :: st) h = zwp (zcall d) m Q r (v0 :: v1 :: v2 :: v3 :: v4 :: v5 :: v6 :: v7 :: v8 :: .ref c :: .double u :: zJ :: L) st h := by rw [zw]; simp [zF, zstep, zSetL, zSetL2, zPrev, Value.category, zi, zl, zJ]
theorem r_istore_10j : zwp (zcall d) m Q (.istore 10 :: r) (v0 :: v1 :: v2 :: v3 :: v4 :: v5 :: v6 :: v7 :: v8 :: zJ :: v10 :: L) (zi x :: st) h = zwp (zcall d) m Q r (v0 :: v1 :: v2 :: v3 :: v4 :: v5 :: v6 :: v7 :: v8 :: zJ :: zi x :: L) st h := by rw [zw]; simp [zF, zstep, zSetL, zSetL2, zPrev, Value.category, zi, zl, zJ]
theorem r_astore_10j : zwp (zcall d) m Q (.astore 10 :: r) (v0 :: v1 :: v2 :: v3 :: v4 :: v5 :: v6 :: v7 :: v8 :: zJ :: v10 :: L) (.ref a :: st) h = zwp (zcall d) m Q r (v0 :: v1 :: v2 :: v3 :: v4 :: v5 :: v6 :: v7 :: v8 :: zJ :: .ref a :: L) st h := by rw [zw]; simp [zF, zstep, zSetL, zSetL2, zPrev, Value.category, zi, zl, zJ]
theorem r_iinc_10j : zwp (zcall d) m Q (.iinc 10 n :: r) (v0 :: v1 :: v2 :: v3 :: v4 :: v5 :: v6 :: v7 :: v8 :: zJ :: zi x :: L) st h = zwp (zcall d) m Q r (v0 :: v1 :: v2 :: v3 :: v4 :: v5 :: v6 :: v7 :: v8 :: zJ :: zi (x + n) :: L) st h := by rw [zw]; simp [zF, zstep, zSetL, zSetL2, zPrev, Value.category, zi, zl, zJ]
theorem r_dstore_10j  {u : UInt64} : zwp (zcall d) m Q (.dstore 10 :: r) (v0 :: v1 :: v2 :: v3 :: v4 :: v5 :: v6 :: v7 :: v8 :: zJ :: v10 :: v11 :: L) (.double u :: st) h = zwp (zcall d) m Q r (v0 :: v1 :: v2 :: v3 :: v4 :: v5 :: v6 :: v7 :: v8 :: zJ :: .double u :: zJ :: L) st h := by rw [zw]; simp [zF, zstep, zSetL, zSetL2, zPrev, Value.category, zi, zl, zJ]
theorem r_istore_11i {w : Int} : zwp (zcall d) m Q (.istore 11 :: r) (v0 :: v1 :: v2 :: v3 :: v4 :: v5 :: v6 :: v7 :: v8 :: v9 :: zi w :: v11 :: L) (zi x :: st) h = zwp (zcall d) m Q r (v0 :: v1 :: v2 :: v3 :: v4 :: v5 :: v6 :: v7 :: v8 :: v9 :: zi w :: zi x :: L) st h := by rw [zw]; simp [zF, zstep, zSetL, zSetL2, zPrev, Value.category, zi, zl, zJ]
theorem r_astore_11i {w : Int} : zwp (zcall d) m Q (.astore 11 :: r) (v0 :: v1 :: v2 :: v3 :: v4 :: v5 :: v6 :: v7 :: v8 :: v9 :: zi w :: v11 :: L) (.ref a :: st) h = zwp (zcall d) m Q r (v0 :: v1 :: v2 :: v3 :: v4 :: v5 :: v6 :: v7 :: v8 :: v9 :: zi w :: .ref a :: L) st h := by rw [zw]; simp [zF, zstep, zSetL, zSetL2, zPrev, Value.category, zi, zl, zJ]
theorem r_iinc_11i {w : Int} : zwp (zcall d) m Q (.iinc 11 n :: r) (v0 :: v1 :: v2 :: v3 :: v4 :: v5 :: v6 :: v7 :: v8 :: v9 :: zi w :: zi x :: L) st h = zwp (zcall d) m Q r (v0 :: v1 :: v2 :: v3 :: v4 :: v5 :: v6 :: v7 :: v8 :: v9 :: zi w :: zi (x + n) :: L) st h := by rw [zw]; simp [zF, zstep, zSetL, zSetL2, zPrev, Value.category, zi, zl, zJ]
theorem r_istore_11r : zwp (zcall d) m Q (.istore 11 :: r) (v0 :: v1 :: v2 :: v3 :: v4 :: v5 :: v6 :: v7 :: v8 :: v9 :: .ref c :: v11 :: L) (zi x :: st) h = zwp (zcall d) m Q r (v0 :: v1 :: v2 :: v3 :: v4 :: v5 :: v6 :: v7 :: v8 :: v9 :: .ref c :: zi x :: L) st h := by rw [zw]; simp [zF, zstep, zSetL, zSetL2, zPrev, Value.category, zi, zl, zJ]
theorem r_astore_11r : zwp (zcall d) m Q (.astore 11 :: r) (v0 :: v1 :: v2 :: v3 :: v4 :: v5 :: v6 :: v7 :: v8 :: v9 :: .ref c :: v11 :: L) (.ref a :: st) h = zwp (zcall d) m Q r (v0 :: v1 :: v2 :: v3 :: v4 :: v5 :: v6 :: v7 :: v8 :: v9 :: .ref c :: .ref a :: L) st h := by rw [zw]; simp [zF, zstep, zSetL, zSetL2, zPrev, Value.category, zi, zl, zJ]
theorem r_iinc_11r : zwp (zcall d) m Q (.iinc 11 n :: r) (v0 :: v1 :: v2 :: v3 :: v4 :: v5 :: v6 :: v7 :: v8 :: v9 :: .ref c :: zi x :: L) st h = zwp (zcall d) m Q r (v0 :: v1 :: v2 :: v3 :: v4 :: v5 :: v6 :: v7 :: v8 :: v9 :: .ref c :: zi (x + n) :: L) st h := by rw [zw]; simp [zF, zstep, zSetL, zSetL2, zPrev, Value.category, zi, zl, zJ]
theorem r_istore_11j : zwp (zcall d) m Q (.istore 11 :: r) (v0 :: v1 :: v2 :: v3 :: v4 :: v5 :: v6 :: v7 :: v8 :: v9 :: zJ :: v11 :: L) (zi x :: st) h = zwp (zcall d) m Q r (v0 :: v1 :: v2 :: v3 :: v4 :: v5 :: v6 :: v7 :: v8 :: v9 :: zJ :: zi x :: L) st h := by rw [zw]; simp [zF, zstep, zSetL, zSetL2, zPrev, Value.category, zi, zl, zJ]
theorem r_astore_11j : zwp (zcall d) m Q (.astore 11 :: r) (v0 :: v1 :: v2 :: v3 :: v4 :: v5 :: v6 :: v7 :: v8 :: v9 :: zJ :: v11 :: L) (.ref a :: st) h = zwp (zcall d) m Q r (v0 :: v1 :: v2 :: v3 :: v4 :: v5 :: v6 :: v7 :: v8 :: v9 :: zJ :: .ref a :: L) st h := by rw [zw]; simp [zF, zstep, zSetL, zSetL2, zPrev, Value.category, zi, zl, zJ]
theorem r_iinc_11j : zwp (zcall d) m Q (.iinc 11 n :: r) (v0 :: v1 :: v2 :: v3 :: v4 :: v5 :: v6 :: v7 :: v8 :: v9 :: zJ :: zi x :: L) st h = zwp (zcall d) m Q r (v0 :: v1 :: v2 :: v3 :: v4 :: v5 :: v6 :: v7 :: v8 :: v9 :: zJ :: zi (x + n) :: L) st h := by rw [zw]; simp [zF, zstep, zSetL, zSetL2, zPrev, Value.category, zi, zl, zJ]
theorem r_iconst : zwp (zcall d) m Q (.iconst n :: r) L st h = zwp (zcall d) m Q r L (zi n :: st) h := by rw [zw]; rfl
theorem r_lconst : zwp (zcall d) m Q (.jsr_w n :: r) L st h = zwp (zcall d) m Q r L (zl n :: st) h := by rw [zw]; rfl
theorem r_dconst : zwp (zcall d) m Q (.jsr n :: r) L st h = zwp (zcall d) m Q r L (.double (UInt64.ofNat n.toNat) :: st) h := by rw [zw]; rfl
theorem r_iadd : zwp (zcall d) m Q (.iadd :: r) L (zi y :: zi x :: st) h = zwp (zcall d) m Q r L (zi (x + y) :: st) h := by rw [zw]; simp only [zi, Int32.ofInt_add]; rfl
theorem r_isub : zwp (zcall d) m Q (.isub :: r) L (zi y :: zi x :: st) h = zwp (zcall d) m Q r L (zi (x - y) :: st) h := by rw [zw]; simp only [zi, Int32.ofInt_sub]; rfl
theorem r_imul : zwp (zcall d) m Q (.imul :: r) L (zi y :: zi x :: st) h = zwp (zcall d) m Q r L (zi (x * y) :: st) h := by rw [zw]; simp only [zi, Int32.ofInt_mul]; rfl
theorem r_iand : zwp (zcall d) m Q (.iand :: r) L (zi y :: zi x :: st) h = zwp (zcall d) m Q r L (zi (zand x y) :: st) h := by rw [zw]; simp only [zi, zand, Int32.ofInt_toInt]; rfl
theorem r_ior : zwp (zcall d) m Q (.ior :: r) L (zi y :: zi x :: st) h = zwp (zcall d) m Q r L (zi (zor x y) :: st) h := by rw [zw]; simp only [zi, zor, Int32.ofInt_toInt]; rfl
theorem r_ixor : zwp (zcall d) m Q (.ixor :: r) L (zi y :: zi x :: st) h = zwp (zcall d) m Q r L (zi (zxor x y) :: st) h := by rw [zw]; simp only [zi, zxor, Int32.ofInt_toInt]; rfl
theorem r_ishl : zwp (zcall d) m Q (.ishl :: r) L (zi y :: zi x :: st) h = zwp (zcall d) m Q r L (zi (zshl x y) :: st) h := by rw [zw]; simp only [zi, zshl, Int32.ofInt_toInt]; rfl
theorem r_ishr : zwp (zcall d) m Q (.ishr :: r) L (zi y :: zi x :: st) h = zwp (zcall d) m Q r L (zi (zshr x y) :: st) h := by rw [zw]; simp only [zi, zshr, Int32.ofInt_toInt]; rfl
theorem r_iushr : zwp (zcall d) m Q (.iushr :: r) L (zi y :: zi x :: st) h = zwp (zcall d) m Q r L (zi (zushr x y) :: st) h := by rw [zw]; simp only [zi, zushr, Int32.ofInt_toInt]; rfl
theorem r_idiv (h1 : y ≠ 0) (h2 : -2147483648 ≤ y) (h3 : y < 2147483648) : zwp (zcall d) m Q (.idiv :: r) L (zi y :: zi x :: st) h = zwp (zcall d) m Q r L (zi (zdiv x y) :: st) h := by
  have e : Int32.ofInt y ≠ 0 := fun q => h1 (by rw [← z_rng h2 h3, q]; rfl)
  rw [zw]; simp only [zF, zstep, zi, zdiv, Int32.ofInt_toInt]; exact if_pos_z e
theorem r_ladd : zwp (zcall d) m Q (.ladd :: r) L (zl y :: zl x :: st) h = zwp (zcall d) m Q r L (zl (x + y) :: st) h := by rw [zw]; simp only [zl, Int64.ofInt_add]; rfl
theorem r_lmul : zwp (zcall d) m Q (.lmul :: r) L (zl y :: zl x :: st) h = zwp (zcall d) m Q r L (zl (x * y) :: st) h := by rw [zw]; simp only [zl, Int64.ofInt_mul]; rfl
theorem r_land {t u : Int64} : zwp (zcall d) m Q (.land :: r) L (.long u :: .long t :: st) h = zwp (zcall d) m Q r L (.long (t &&& u) :: st) h := by rw [zw]; rfl
theorem r_lor {t u : Int64} : zwp (zcall d) m Q (.lor :: r) L (.long u :: .long t :: st) h = zwp (zcall d) m Q r L (.long (t ||| u) :: st) h := by rw [zw]; rfl
theorem r_lushr {t : Int64} : zwp (zcall d) m Q (.lushr :: r) L (zi y :: .long t :: st) h = zwp (zcall d) m Q r L (.long (t.toUInt64 >>> ((Int32.ofInt y).toInt64.toUInt64 &&& Int64.toUInt64 63)).toInt64 :: st) h := by rw [zw]; rfl
theorem r_lcmp : zwp (zcall d) m Q (.lcmp :: r) L (zl y :: zl x :: st) h = zwp (zcall d) m Q r L (.int (lg_cmp (Int64.ofInt x) (Int64.ofInt y)) :: st) h := by rw [zw]; rfl
theorem r_lcmpR {t u : Int64} : zwp (zcall d) m Q (.lcmp :: r) L (.long u :: .long t :: st) h = zwp (zcall d) m Q r L (.int (lg_cmp t u) :: st) h := by rw [zw]; rfl
theorem r_dadd {t u : UInt64} (hn : vf_n64 (FP.dadd t u)) : zwp (zcall d) m Q (.dadd :: r) L (.double u :: .double t :: st) h = zwp (zcall d) m Q r L (.double (FP.dadd t u) :: st) h := by rw [zw]; exact if_pos_z hn
theorem r_dsub {t u : UInt64} (hn : vf_n64 (FP.dsub t u)) : zwp (zcall d) m Q (.dsub :: r) L (.double u :: .double t :: st) h = zwp (zcall d) m Q r L (.double (FP.dsub t u) :: st) h := by rw [zw]; exact if_pos_z hn
theorem r_dmul {t u : UInt64} (hn : vf_n64 (FP.dmul t u)) : zwp (zcall d) m Q (.dmul :: r) L (.double u :: .double t :: st) h = zwp (zcall d) m Q r L (.double (FP.dmul t u) :: st) h := by rw [zw]; exact if_pos_z hn
theorem r_ddiv {t u : UInt64} (hn : vf_n64 (FP.ddiv t u)) : zwp (zcall d) m Q (.ddiv :: r) L (.double u :: .double t :: st) h = zwp (zcall d) m Q r L (.double (FP.ddiv t u) :: st) h := by rw [zw]; exact if_pos_z hn
theorem r_dcmp {t u : UInt64} {op : CmpOp} : zwp (zcall d) m Q (.dcmp op :: r) L (.double u :: .double t :: st) h = zwp (zcall d) m Q r L (.int (Op.cmpValue (FP.dcmp t u) op) :: st) h := by rw [zw]; rfl
theorem r_fcmp {t u : UInt32} {op : CmpOp} : zwp (zcall d) m Q (.fcmp op :: r) L (.float u :: .float t :: st) h = zwp (zcall d) m Q r L (.int (Op.cmpValue (FP.fcmp t u) op) :: st) h := by rw [zw]; rfl
theorem r_i2l (h1 : -2147483648 ≤ x) (h2 : x < 2147483648) : zwp (zcall d) m Q (.i2l :: r) L (zi x :: st) h = zwp (zcall d) m Q r L (zl x :: st) h := by
  have e : (Int32.ofInt x).toInt64 = Int64.ofInt x := Int32.toInt64_ofInt (by simpa using h1) (by have : (Int32.maxValue).toInt = 2147483647 := rfl; omega)
  rw [zw]; simp only [zl, ← e]; rfl
theorem r_i2d : zwp (zcall d) m Q (.i2d :: r) L (zi x :: st) h = zwp (zcall d) m Q r L (.double (FP.i2d (Int32.ofInt x)) :: st) h := by rw [zw]; rfl
theorem r_d2i {u : UInt64} : zwp (zcall d) m Q (.d2i :: r) L (.double u :: st) h = zwp (zcall d) m Q r L (.int (FP.d2i u) :: st) h := by rw [zw]; rfl
theorem r_d2f {u : UInt64} (hn : vf_n32 (FP.d2f u)) : zwp (zcall d) m Q (.d2f :: r) L (.double u :: st) h = zwp (zcall d) m Q r L (.float (FP.d2f u) :: st) h := by rw [zw]; exact if_pos_z hn
theorem r_f2d {u : UInt32} (hn : vf_n64 (FP.f2d u)) : zwp (zcall d) m Q (.f2d :: r) L (.float u :: st) h = zwp (zcall d) m Q r L (.double (FP.f2d u) :: st) h := by rw [zw]; exact if_pos_z hn
theorem r_objI : zwp (zcall d) m Q (.monitorexit :: r) L [.ref a] h = zwp (zcall d) m Q r L [] h := by rw [zw]; rfl
theorem r_f2i {u : UInt32} : zwp (zcall d) m Q (.f2i :: r) L [.float u] h = zwp (zcall d) m Q r L [.int u.toInt32] h := by rw [zw]; rfl
theorem r_dup_i : zwp (zcall d) m Q (.dup :: r) L (zi x :: st) h = zwp (zcall d) m Q r L (zi x :: zi x :: st) h := by rw [zw]; rfl
theorem r_dup_r : zwp (zcall d) m Q (.dup :: r) L (.ref a :: st) h = zwp (zcall d) m Q r L (.ref a :: .ref a :: st) h := by rw [zw]; rfl
theorem r_dup2 : zwp (zcall d) m Q (.dup2 :: r) L (zi x :: .ref a :: st) h = zwp (zcall d) m Q r L (zi x :: .ref a :: zi x :: .ref a :: st) h := by rw [zw]; rfl
theorem r_pop_i : zwp (zcall d) m Q (.pop :: r) L (zi x :: st) h = zwp (zcall d) m Q r L st h := by rw [zw]; rfl
theorem r_pop_r : zwp (zcall d) m Q (.pop :: r) L (.ref a :: st) h = zwp (zcall d) m Q r L st h := by rw [zw]; rfl
theorem r_goto : zwp (zcall d) m Q (.goto l :: r) L st h = zwp (zcall d) m Q (zB m l) L st h := by rw [zw]; rfl
theorem r_goto_w : zwp (zcall d) m Q (.goto_w l :: r) L st h = zwp (zcall d) m Q (zB m l) L st h := by rw [zw]; rfl
theorem r_if_eq (h1 : -2147483648 ≤ x) (h2 : x < 2147483648) : zwp (zcall d) m Q (.ifCond .eq l :: r) L (zi x :: st) h = if x = 0 then zwp (zcall d) m Q (zB m l) L st h else zwp (zcall d) m Q r L st h := by
  rw [zw]
  show (match (if Int32.ofInt x = Int32.ofInt 0 then some (zB m l, L, st, h) else some (r, L, st, h)) with | some q => zwp (zcall d) m Q q.1 q.2.1 q.2.2.1 q.2.2.2 | none => False) = _
  rw [z_ite (hq := inferInstance) (z_eq h1 h2 (by decide) (by decide))]
  exact z_ite2
theorem r_icmp_eq (h1 : -2147483648 ≤ x) (h2 : x < 2147483648) (h3 : -2147483648 ≤ y) (h4 : y < 2147483648) : zwp (zcall d) m Q (.if_icmp .eq l :: r) L (zi y :: zi x :: st) h = if x = y then zwp (zcall d) m Q (zB m l) L st h else zwp (zcall d) m Q r L st h := by
  rw [zw]
  show (match (if Int32.ofInt x = Int32.ofInt y then some (zB m l, L, st, h) else some (r, L, st, h)) with | some q => zwp (zcall d) m Q q.1 q.2.1 q.2.2.1 q.2.2.2 | none => False) = _
  rw [z_ite (hq := inferInstance) (z_eq h1 h2 h3 h4)]
  exact z_ite2
theorem r_if_ne (h1 : -2147483648 ≤ x) (h2 : x < 2147483648) : zwp (zcall d) m Q (.ifCond .ne l :: r) L (zi x :: st) h = if ¬ x = 0 then zwp (zcall d) m Q (zB m l) L st h else zwp (zcall d) m Q r L st h := by
  rw [zw]
  show (match (if ¬ Int32.ofInt x = Int32.ofInt 0 then some (zB m l, L, st, h) else some (r, L, st, h)) with | some q => zwp (zcall d) m Q q.1 q.2.1 q.2.2.1 q.2.2.2 | none => False) = _
  rw [z_ite (hq := inferInstance) (congrArg Not (z_eq h1 h2 (by decide) (by decide)))]
  exact z_ite2
theorem r_icmp_ne (h1 : -2147483648 ≤ x) (h2 : x < 2147483648) (h3 : -2147483648 ≤ y) (h4 : y < 2147483648) : zwp (zcall d) m Q (.if_icmp .ne l :: r) L (zi y :: zi x :: st) h = if ¬ x = y then zwp (zcall d) m Q (zB m l) L st h else zwp (zcall d) m Q r L st h := by
  rw [zw]
  show (match (if ¬ Int32.ofInt x = Int32.ofInt y then some (zB m l, L, st, h) else some (r, L, st, h)) with | some q => zwp (zcall d) m Q q.1 q.2.1 q.2.2.1 q.2.2.2 | none => False) = _
  rw [z_ite (hq := inferInstance) (congrArg Not (z_eq h1 h2 h3 h4))]
  exact z_ite2
theorem r_if_lt (h1 : -2147483648 ≤ x) (h2 : x < 2147483648) : zwp (zcall d) m Q (.ifCond .lt l :: r) L (zi x :: st) h = if x < 0 then zwp (zcall d) m Q (zB m l) L st h else zwp (zcall d) m Q r L st h := by
  rw [zw]
  show (match (if Int32.ofInt x < Int32.ofInt 0 then some (zB m l, L, st, h) else some (r, L, st, h)) with | some q => zwp (zcall d) m Q q.1 q.2.1 q.2.2.1 q.2.2.2 | none => False) = _
  rw [z_ite (hq := inferInstance) (z_lt h1 h2 (by decide) (by decide))]
  exact z_ite2
theorem r_icmp_lt (h1 : -2147483648 ≤ x) (h2 : x < 2147483648) (h3 : -2147483648 ≤ y) (h4 : y < 2147483648) : zwp (zcall d) m Q (.if_icmp .lt l :: r) L (zi y :: zi x :: st) h = if x < y then zwp (zcall d) m Q (zB m l) L st h else zwp (zcall d) m Q r L st h := by
  rw [zw]
  show (match (if Int32.ofInt x < Int32.ofInt y then some (zB m l, L, st, h) else some (r, L, st, h)) with | some q => zwp (zcall d) m Q q.1 q.2.1 q.2.2.1 q.2.2.2 | none => False) = _
  rw [z_ite (hq := inferInstance) (z_lt h1 h2 h3 h4)]
  exact z_ite2
theorem r_if_ge (h1 : -2147483648 ≤ x) (h2 : x < 2147483648) : zwp (zcall d) m Q (.ifCond .ge l :: r) L (zi x :: st) h = if 0 ≤ x then zwp (zcall d) m Q (zB m l) L st h else zwp (zcall d) m Q r L st h := by
  rw [zw]
  show (match (if Int32.ofInt 0 ≤ Int32.ofInt x then some (zB m l, L, st, h) else some (r, L, st, h)) with | some q => zwp (zcall d) m Q q.1 q.2.1 q.2.2.1 q.2.2.2 | none => False) = _
  rw [z_ite (hq := inferInstance) (z_le (by decide) (by decide) h1 h2)]
  exact z_ite2
theorem r_icmp_ge (h1 : -2147483648 ≤ x) (h2 : x < 2147483648) (h3 : -2147483648 ≤ y) (h4 : y < 2147483648) : zwp (zcall d) m Q (.if_icmp .ge l :: r) L (zi y :: zi x :: st) h = if y ≤ x then zwp (zcall d) m Q (zB m l) L st h else zwp (zcall d) m Q r L st h := by
  rw [zw]
  show (match (if Int32.ofInt y ≤ Int32.ofInt x then some (zB m l, L, st, h) else some (r, L, st, h)) with | some q => zwp (zcall d) m Q q.1 q.2.1 q.2.2.1 q.2.2.2 | none => False) = _
  rw [z_ite (hq := inferInstance) (z_le h3 h4 h1 h2)]
  exact z_ite2
theorem r_if_gt (h1 : -2147483648 ≤ x) (h2 : x < 2147483648) : zwp (zcall d) m Q (.ifCond .gt l :: r) L (zi x :: st) h = if 0 < x then zwp (zcall d) m Q (zB m l) L st h else zwp (zcall d) m Q r L st h := by
  rw [zw]
  show (match (if Int32.ofInt 0 < Int32.ofInt x then some (zB m l, L, st, h) else some (r, L, st, h)) with | some q => zwp (zcall d) m Q q.1 q.2.1 q.2.2.1 q.2.2.2 | none => False) = _
  rw [z_ite (hq := inferInstance) (z_lt (by decide) (by decide) h1 h2)]
  exact z_ite2
theorem r_icmp_gt (h1 : -2147483648 ≤ x) (h2 : x < 2147483648) (h3 : -2147483648 ≤ y) (h4 : y < 2147483648) : zwp (zcall d) m Q (.if_icmp .gt l :: r) L (zi y :: zi x :: st) h = if y < x then zwp (zcall d) m Q (zB m l) L st h else zwp (zcall d) m Q r L st h := by
  rw [zw]
  show (match (if Int32.ofInt y < Int32.ofInt x then some (zB m l, L, st, h) else some (r, L, st, h)) with | some q => zwp (zcall d) m Q q.1 q.2.1 q.2.2.1 q.2.2.2 | none => False) = _
  rw [z_ite (hq := inferInstance) (z_lt h3 h4 h1 h2)]
  exact z_ite2
theorem r_if_le (h1 : -2147483648 ≤ x) (h2 : x < 2147483648) : zwp (zcall d) m Q (.ifCond .le l :: r) L (zi x :: st) h = if x ≤ 0 then zwp (zcall d) m Q (zB m l) L st h else zwp (zcall d) m Q r L st h := by
  rw [zw]
  show (match (if Int32.ofInt x ≤ Int32.ofInt 0 then some (zB m l, L, st, h) else some (r, L, st, h)) with | some q => zwp (zcall d) m Q q.1 q.2.1 q.2.2.1 q.2.2.2 | none => False) = _
  rw [z_ite (hq := inferInstance) (z_le h1 h2 (by decide) (by decide))]
  exact z_ite2
theorem r_icmp_le (h1 : -2147483648 ≤ x) (h2 : x < 2147483648) (h3 : -2147483648 ≤ y) (h4 : y < 2147483648) : zwp (zcall d) m Q (.if_icmp .le l :: r) L (zi y :: zi x :: st) h = if x ≤ y then zwp (zcall d) m Q (zB m l) L st h else zwp (zcall d) m Q r L st h := by
  rw [zw]
  show (match (if Int32.ofInt x ≤ Int32.ofInt y then some (zB m l, L, st, h) else some (r, L, st, h)) with | some q => zwp (zcall d) m Q q.1 q.2.1 q.2.2.1 q.2.2.2 | none => False) = _
  rw [z_ite (hq := inferInstance) (z_le h1 h2 h3 h4)]
  exact z_ite2
theorem r_sw {ps : List (Int × Int)} (hs : zSrt ps = true) (h1 : -2147483648 ≤ x) (h2 : x < 2147483648) : zwp (zcall d) m Q (.lookupswitch k (List.toArray ps) :: r) L (zi x :: st) h = zwp (zcall d) m Q (zB m (zsw ps k x)) L st h := by rw [zw]; refine (if_pos_z hs).trans ?_; show zwp (zcall d) m Q (zB m (zsw ps k (Int32.ofInt x).toInt)) L st h = _; rw [z_rng h1 h2]
theorem r_gf_0 (ht : s.tg a = 0) : zwp (zcall d) m Q (.getfield 0 :: r) L (.ref a :: st) (s, V) = zwp (zcall d) m Q r L (V a 0 :: st) (s, V) := by rw [zw]; exact if_pos_z ht
theorem r_pf_0 (ht : s.tg a = 0) : zwp (zcall d) m Q (.putfield 0 :: r) L (.ref b :: .ref a :: st) (s, V) = zwp (zcall d) m Q r L st (s, zput V a 0 (.ref b)) := by rw [zw]; exact if_pos_z ⟨ht, rfl⟩
theorem r_gf_64 (ht : s.tg a = 1) : zwp (zcall d) m Q (.getfield 64 :: r) L (.ref a :: st) (s, V) = zwp (zcall d) m Q r L (V a 0 :: st) (s, V) := by rw [zw]; exact if_pos_z ht
theorem r_pf_64 (ht : s.tg a = 1) : zwp (zcall d) m Q (.putfield 64 :: r) L (.ref b :: .ref a :: st) (s, V) = zwp (zcall d) m Q r L st (s, zput V a 0 (.ref b)) := by rw [zw]; exact if_pos_z ⟨ht, rfl⟩
theorem r_gf_65 (ht : s.tg a = 1) : zwp (zcall d) m Q (.getfield 65 :: r) L (.ref a :: st) (s, V) = zwp (zcall d) m Q r L (V a 1 :: st) (s, V) := by rw [zw]; exact if_pos_z ht
theorem r_pf_65 (ht : s.tg a = 1) : zwp (zcall d) m Q (.putfield 65 :: r) L (.ref b :: .ref a :: st) (s, V) = zwp (zcall d) m Q r L st (s, zput V a 1 (.ref b)) := by rw [zw]; exact if_pos_z ⟨ht, rfl⟩
theorem r_gf_66 (ht : s.tg a = 1) : zwp (zcall d) m Q (.getfield 66 :: r) L (.ref a :: st) (s, V) = zwp (zcall d) m Q r L (V a 2 :: st) (s, V) := by rw [zw]; exact if_pos_z ht
theorem r_pf_66 (ht : s.tg a = 1) : zwp (zcall d) m Q (.putfield 66 :: r) L (.ref b :: .ref a :: st) (s, V) = zwp (zcall d) m Q r L st (s, zput V a 2 (.ref b)) := by rw [zw]; exact if_pos_z ⟨ht, rfl⟩
theorem r_gf_128 (ht : s.tg a = 2) : zwp (zcall d) m Q (.getfield 128 :: r) L (.ref a :: st) (s, V) = zwp (zcall d) m Q r L (V a 0 :: st) (s, V) := by rw [zw]; exact if_pos_z ht
theorem r_pf_128 (ht : s.tg a = 2) : zwp (zcall d) m Q (.putfield 128 :: r) L (.ref b :: .ref a :: st) (s, V) = zwp (zcall d) m Q r L st (s, zput V a 0 (.ref b)) := by rw [zw]; exact if_pos_z ⟨ht, rfl⟩
theorem r_gf_129 (ht : s.tg a = 2) : zwp (zcall d) m Q (.getfield 129 :: r) L (.ref a :: st) (s, V) = zwp (zcall d) m Q r L (V a 1 :: st) (s, V) := by rw [zw]; exact if_pos_z ht
theorem r_pf_129 (ht : s.tg a = 2) : zwp (zcall d) m Q (.putfield 129 :: r) L (.ref b :: .ref a :: st) (s, V) = zwp (zcall d) m Q r L st (s, zput V a 1 (.ref b)) := by rw [zw]; exact if_pos_z ⟨ht, rfl⟩
theorem r_gf_130 (ht : s.tg a = 2) : zwp (zcall d) m Q (.getfield 130 :: r) L (.ref a :: st) (s, V) = zwp (zcall d) m Q r L (V a 2 :: st) (s, V) := by rw [zw]; exact if_pos_z ht
theorem r_pf_130 (ht : s.tg a = 2) : zwp (zcall d) m Q (.putfield 130 :: r) L (zi x :: .ref a :: st) (s, V) = zwp (zcall d) m Q r L st (s, zput V a 2 (zi x)) := by rw [zw]; exact if_pos_z ⟨ht, rfl⟩
theorem r_gf_131 (ht : s.tg a = 2) : zwp (zcall d) m Q (.getfield 131 :: r) L (.ref a :: st) (s, V) = zwp (zcall d) m Q r L (V a 3 :: st) (s, V) := by rw [zw]; exact if_pos_z ht
theorem r_pf_131 (ht : s.tg a = 2) : zwp (zcall d) m Q (.putfield 131 :: r) L (.ref b :: .ref a :: st) (s, V) = zwp (zcall d) m Q r L st (s, zput V a 3 (.ref b)) := by rw [zw]; exact if_pos_z ⟨ht, rfl⟩
theorem r_gf_132 (ht : s.tg a = 2) : zwp (zcall d) m Q (.getfield 132 :: r) L (.ref a :: st) (s, V) = zwp (zcall d) m Q r L (V a 4 :: st) (s, V) := by rw [zw]; exact if_pos_z ht
theorem r_pf_132 (ht : s.tg a = 2) : zwp (zcall d) m Q (.putfield 132 :: r) L (.ref b :: .ref a :: st) (s, V) = zwp (zcall d) m Q r L st (s, zput V a 4 (.ref b)) := by rw [zw]; exact if_pos_z ⟨ht, rfl⟩
theorem r_gf_192 (ht : s.tg a = 3) : zwp (zcall d) m Q (.getfield 192 :: r) L (.ref a :: st) (s, V) = zwp (zcall d) m Q r L (V a 0 :: st) (s, V) := by rw [zw]; exact if_pos_z ht
theorem r_pf_192 (ht : s.tg a = 3) : zwp (zcall d) m Q (.putfield 192 :: r) L (.ref b :: .ref a :: st) (s, V) = zwp (zcall d) m Q r L st (s, zput V a 0 (.ref b)) := by rw [zw]; exact if_pos_z ⟨ht, rfl⟩
theorem r_gf_193 (ht : s.tg a = 3) : zwp (zcall d) m Q (.getfield 193 :: r) L (.ref a :: st) (s, V) = zwp (zcall d) m Q r L (V a 1 :: st) (s, V) := by rw [zw]; exact if_pos_z ht
theorem r_pf_193 (ht : s.tg a = 3) : zwp (zcall d) m Q (.putfield 193 :: r) L (zi x :: .ref a :: st) (s, V) = zwp (zcall d) m Q r L st (s, zput V a 1 (zi x)) := by rw [zw]; exact if_pos_z ⟨ht, rfl⟩
theorem r_gf_256 (ht : s.tg a = 4) : zwp (zcall d) m Q (.getfield 256 :: r) L (.ref a :: st) (s, V) = zwp (zcall d) m Q r L (V a 0 :: st) (s, V) := by rw [zw]; exact if_pos_z ht
theorem r_pf_256 (ht : s.tg a = 4) : zwp (zcall d) m Q (.putfield 256 :: r) L (.ref b :: .ref a :: st) (s, V) = zwp (zcall d) m Q r L st (s, zput V a 0 (.ref b)) := by rw [zw]; exact if_pos_z ⟨ht, rfl⟩
theorem r_gf_257 (ht : s.tg a = 4) : zwp (zcall d) m Q (.getfield 257 :: r) L (.ref a :: st) (s, V) = zwp (zcall d) m Q r L (V a 1 :: st) (s, V) := by rw [zw]; exact if_pos_z ht
theorem r_pf_257 (ht : s.tg a = 4) : zwp (zcall d) m Q (.putfield 257 :: r) L (.ref b :: .ref a :: st) (s, V) = zwp (zcall d) m Q r L st (s, zput V a 1 (.ref b)) := by rw [zw]; exact if_pos_z ⟨ht, rfl⟩
theorem r_gf_258 (ht : s.tg a = 4) : zwp (zcall d) m Q (.getfield 258 :: r) L (.ref a :: st) (s, V) = zwp (zcall d) m Q r L (V a 2 :: st) (s, V) := by rw [zw]; exact if_pos_z ht
theorem r_pf_258 (ht : s.tg a = 4) : zwp (zcall d) m Q (.putfield 258 :: r) L (.ref b :: .ref a :: st) (s, V) = zwp (zcall d) m Q r L st (s, zput V a 2 (.ref b)) := by rw [zw]; exact if_pos_z ⟨ht, rfl⟩
theorem r_gf_259 (ht : s.tg a = 4) : zwp (zcall d) m Q (.getfield 259 :: r) L (.ref a :: st) (s, V) = zwp (zcall d) m Q r L (V a 3 :: st) (s, V) := by rw [zw]; exact if_pos_z ht
theorem r_pf_259 (ht : s.tg a = 4) : zwp (zcall d) m Q (.putfield 259 :: r) L (.ref b :: .ref a :: st) (s, V) = zwp (zcall d) m Q r L st (s, zput V a 3 (.ref b)) := by rw [zw]; exact if_pos_z ⟨ht, rfl⟩
theorem r_gf_320 (ht : s.tg a = 5) : zwp (zcall d) m Q (.getfield 320 :: r) L (.ref a :: st) (s, V) = zwp (zcall d) m Q r L (V a 0 :: st) (s, V) := by rw [zw]; exact if_pos_z ht
theorem r_pf_320_0 (ht : s.tg a = 5) : zwp (zcall d) m Q (.putfield 320 :: r) L (zi 0 :: .ref a :: st) (s, V) = zwp (zcall d) m Q r L st (s, zput V a 0 (zi 0)) := by rw [zw]; exact if_pos_z ⟨ht, rfl⟩
theorem r_pf_320_1 (ht : s.tg a = 5) : zwp (zcall d) m Q (.putfield 320 :: r) L (zi 1 :: .ref a :: st) (s, V) = zwp (zcall d) m Q r L st (s, zput V a 0 (zi 1)) := by rw [zw]; exact if_pos_z ⟨ht, rfl⟩
theorem r_pf_320 (ht : s.tg a = 5) (hx : x = 0 ∨ x = 1) : zwp (zcall d) m Q (.putfield 320 :: r) L (zi x :: .ref a :: st) (s, V) = zwp (zcall d) m Q r L st (s, zput V a 0 (zi x)) := by rw [zw]; rcases hx with rfl | rfl <;> exact if_pos_z ⟨ht, rfl⟩
theorem r_gf_321 (ht : s.tg a = 5) : zwp (zcall d) m Q (.getfield 321 :: r) L (.ref a :: st) (s, V) = zwp (zcall d) m Q r L (V a 1 :: st) (s, V) := by rw [zw]; exact if_pos_z ht
theorem r_pf_321 (ht : s.tg a = 5) : zwp (zcall d) m Q (.putfield 321 :: r) L (zi x :: .ref a :: st) (s, V) = zwp (zcall d) m Q r L st (s, zput V a 1 (zi x)) := by rw [zw]; exact if_pos_z ⟨ht, rfl⟩
theorem r_gf_322 (ht : s.tg a = 5) : zwp (zcall d) m Q (.getfield 322 :: r) L (.ref a :: st) (s, V) = zwp (zcall d) m Q r L (V a 2 :: st) (s, V) := by rw [zw]; exact if_pos_z ht
theorem r_pf_322 (ht : s.tg a = 5) : zwp (zcall d) m Q (.putfield 322 :: r) L (zi x :: .ref a :: st) (s, V) = zwp (zcall d) m Q r L st (s, zput V a 2 (zi x)) := by rw [zw]; exact if_pos_z ⟨ht, rfl⟩
theorem r_gf_323 (ht : s.tg a = 5) : zwp (zcall d) m Q (.getfield 323 :: r) L (.ref a :: st) (s, V) = zwp (zcall d) m Q r L (V a 3 :: st) (s, V) := by rw [zw]; exact if_pos_z ht
theorem r_pf_323 (ht : s.tg a = 5) : zwp (zcall d) m Q (.putfield 323 :: r) L (zi x :: .ref a :: st) (s, V) = zwp (zcall d) m Q r L st (s, zput V a 3 (zi x)) := by rw [zw]; exact if_pos_z ⟨ht, rfl⟩
theorem r_gf_324 (ht : s.tg a = 5) : zwp (zcall d) m Q (.getfield 324 :: r) L (.ref a :: st) (s, V) = zwp (zcall d) m Q r L (V a 4 :: st) (s, V) := by rw [zw]; exact if_pos_z ht
theorem r_pf_324 (ht : s.tg a = 5) : zwp (zcall d) m Q (.putfield 324 :: r) L (zi x :: .ref a :: st) (s, V) = zwp (zcall d) m Q r L st (s, zput V a 4 (zi x)) := by rw [zw]; exact if_pos_z ⟨ht, rfl⟩
theorem r_gf_325 (ht : s.tg a = 5) : zwp (zcall d) m Q (.getfield 325 :: r) L (.ref a :: st) (s, V) = zwp (zcall d) m Q r L (V a 5 :: st) (s, V) := by rw [zw]; exact if_pos_z ht
theorem r_pf_325 (ht : s.tg a = 5) : zwp (zcall d) m Q (.putfield 325 :: r) L (zi x :: .ref a :: st) (s, V) = zwp (zcall d) m Q r L st (s, zput V a 5 (zi x)) := by rw [zw]; exact if_pos_z ⟨ht, rfl⟩
theorem r_gf_326 (ht : s.tg a = 5) : zwp (zcall d) m Q (.getfield 326 :: r) L (.ref a :: st) (s, V) = zwp (zcall d) m Q r L (V a 6 :: st) (s, V) := by rw [zw]; exact if_pos_z ht
theorem r_pf_326 (ht : s.tg a = 5) : zwp (zcall d) m Q (.putfield 326 :: r) L (zi x :: .ref a :: st) (s, V) = zwp (zcall d) m Q r L st (s, zput V a 6 (zi x)) := by rw [zw]; exact if_pos_z ⟨ht, rfl⟩
theorem r_gf_327 (ht : s.tg a = 5) : zwp (zcall d) m Q (.getfield 327 :: r) L (.ref a :: st) (s, V) = zwp (zcall d) m Q r L (V a 7 :: st) (s, V) := by rw [zw]; exact if_pos_z ht
theorem r_pf_327 (ht : s.tg a = 5) : zwp (zcall d) m Q (.putfield 327 :: r) L (zi x :: .ref a :: st) (s, V) = zwp (zcall d) m Q r L st (s, zput V a 7 (zi x)) := by rw [zw]; exact if_pos_z ⟨ht, rfl⟩
theorem r_gf_328 (ht : s.tg a = 5) : zwp (zcall d) m Q (.getfield 328 :: r) L (.ref a :: st) (s, V) = zwp (zcall d) m Q r L (V a 8 :: st) (s, V) := by rw [zw]; exact if_pos_z ht
theorem r_pf_328 (ht : s.tg a = 5) : zwp (zcall d) m Q (.putfield 328 :: r) L (.ref b :: .ref a :: st) (s, V) = zwp (zcall d) m Q r L st (s, zput V a 8 (.ref b)) := by rw [zw]; exact if_pos_z ⟨ht, rfl⟩
theorem r_gf_329 (ht : s.tg a = 5) : zwp (zcall d) m Q (.getfield 329 :: r) L (.ref a :: st) (s, V) = zwp (zcall d) m Q r L (V a 9 :: st) (s, V) := by rw [zw]; exact if_pos_z ht
theorem r_pf_329 (ht : s.tg a = 5) : zwp (zcall d) m Q (.putfield 329 :: r) L (.ref b :: .ref a :: st) (s, V) = zwp (zcall d) m Q r L st (s, zput V a 9 (.ref b)) := by rw [zw]; exact if_pos_z ⟨ht, rfl⟩
theorem r_gf_448 (ht : s.tg a = 7) : zwp (zcall d) m Q (.getfield 448 :: r) L (.ref a :: st) (s, V) = zwp (zcall d) m Q r L (V a 0 :: st) (s, V) := by rw [zw]; exact if_pos_z ht
theorem r_pf_448 (ht : s.tg a = 7) : zwp (zcall d) m Q (.putfield 448 :: r) L (zi x :: .ref a :: st) (s, V) = zwp (zcall d) m Q r L st (s, zput V a 0 (zi x)) := by rw [zw]; exact if_pos_z ⟨ht, rfl⟩
theorem r_gf_449 (ht : s.tg a = 7) : zwp (zcall d) m Q (.getfield 449 :: r) L (.ref a :: st) (s, V) = zwp (zcall d) m Q r L (V a 1 :: st) (s, V) := by rw [zw]; exact if_pos_z ht
theorem r_pf_449 (ht : s.tg a = 7) : zwp (zcall d) m Q (.putfield 449 :: r) L (zi x :: .ref a :: st) (s, V) = zwp (zcall d) m Q r L st (s, zput V a 1 (zi x)) := by rw [zw]; exact if_pos_z ⟨ht, rfl⟩
theorem r_gf_450 (ht : s.tg a = 7) : zwp (zcall d) m Q (.getfield 450 :: r) L (.ref a :: st) (s, V) = zwp (zcall d) m Q r L (V a 2 :: st) (s, V) := by rw [zw]; exact if_pos_z ht
theorem r_pf_450 (ht : s.tg a = 7) : zwp (zcall d) m Q (.putfield 450 :: r) L (.ref b :: .ref a :: st) (s, V) = zwp (zcall d) m Q r L st (s, zput V a 2 (.ref b)) := by rw [zw]; exact if_pos_z ⟨ht, rfl⟩
theorem r_gf_451 (ht : s.tg a = 7) : zwp (zcall d) m Q (.getfield 451 :: r) L (.ref a :: st) (s, V) = zwp (zcall d) m Q r L (V a 3 :: st) (s, V) := by rw [zw]; exact if_pos_z ht
theorem r_pf_451 (ht : s.tg a = 7) : zwp (zcall d) m Q (.putfield 451 :: r) L (.ref b :: .ref a :: st) (s, V) = zwp (zcall d) m Q r L st (s, zput V a 3 (.ref b)) := by rw [zw]; exact if_pos_z ⟨ht, rfl⟩
theorem r_gf_512 (ht : s.tg a = 8) : zwp (zcall d) m Q (.getfield 512 :: r) L (.ref a :: st) (s, V) = zwp (zcall d) m Q r L (V a 0 :: st) (s, V) := by rw [zw]; exact if_pos_z ht
theorem r_pf_512 (ht : s.tg a = 8) : zwp (zcall d) m Q (.putfield 512 :: r) L (.ref b :: .ref a :: st) (s, V) = zwp (zcall d) m Q r L st (s, zput V a 0 (.ref b)) := by rw [zw]; exact if_pos_z ⟨ht, rfl⟩
theorem r_gf_513 (ht : s.tg a = 8) : zwp (zcall d) m Q (.getfield 513 :: r) L (.ref a :: st) (s, V) = zwp (zcall d) m Q r L (V a 1 :: st) (s, V) := by rw [zw]; exact if_pos_z ht
theorem r_pf_513 (ht : s.tg a = 8) : zwp (zcall d) m Q (.putfield 513 :: r) L (zi x :: .ref a :: st) (s, V) = zwp (zcall d) m Q r L st (s, zput V a 1 (zi x)) := by rw [zw]; exact if_pos_z ⟨ht, rfl⟩
theorem r_gf_514 (ht : s.tg a = 8) : zwp (zcall d) m Q (.getfield 514 :: r) L (.ref a :: st) (s, V) = zwp (zcall d) m Q r L (V a 2 :: st) (s, V) := by rw [zw]; exact if_pos_z ht
theorem r_pf_514 (ht : s.tg a = 8) : zwp (zcall d) m Q (.putfield 514 :: r) L (.ref b :: .ref a :: st) (s, V) = zwp (zcall d) m Q r L st (s, zput V a 2 (.ref b)) := by rw [zw]; exact if_pos_z ⟨ht, rfl⟩
theorem r_gf_515 (ht : s.tg a = 8) : zwp (zcall d) m Q (.getfield 515 :: r) L (.ref a :: st) (s, V) = zwp (zcall d) m Q r L (V a 3 :: st) (s, V) := by rw [zw]; exact if_pos_z ht
theorem r_pf_515 (ht : s.tg a = 8) : zwp (zcall d) m Q (.putfield 515 :: r) L (.ref b :: .ref a :: st) (s, V) = zwp (zcall d) m Q r L st (s, zput V a 3 (.ref b)) := by rw [zw]; exact if_pos_z ⟨ht, rfl⟩
theorem r_gf_576 (ht : s.tg a = 9) : zwp (zcall d) m Q (.getfield 576 :: r) L (.ref a :: st) (s, V) = zwp (zcall d) m Q r L (V a 0 :: st) (s, V) := by rw [zw]; exact if_pos_z ht
theorem r_pf_576 (ht : s.tg a = 9) : zwp (zcall d) m Q (.putfield 576 :: r) L (.ref b :: .ref a :: st) (s, V) = zwp (zcall d) m Q r L st (s, zput V a 0 (.ref b)) := by rw [zw]; exact if_pos_z ⟨ht, rfl⟩
theorem r_gf_577 (ht : s.tg a = 9) : zwp (zcall d) m Q (.getfield 577 :: r) L (.ref a :: st) (s, V) = zwp (zcall d) m Q r L (V a 1 :: st) (s, V) := by rw [zw]; exact if_pos_z ht
theorem r_pf_577 (ht : s.tg a = 9) : zwp (zcall d) m Q (.putfield 577 :: r) L (.ref b :: .ref a :: st) (s, V) = zwp (zcall d) m Q r L st (s, zput V a 1 (.ref b)) := by rw [zw]; exact if_pos_z ⟨ht, rfl⟩
theorem r_gf_578 (ht : s.tg a = 9) : zwp (zcall d) m Q (.getfield 578 :: r) L (.ref a :: st) (s, V) = zwp (zcall d) m Q r L (V a 2 :: st) (s, V) := by rw [zw]; exact if_pos_z ht
theorem r_pf_578 (ht : s.tg a = 9) : zwp (zcall d) m Q (.putfield 578 :: r) L (.ref b :: .ref a :: st) (s, V) = zwp (zcall d) m Q r L st (s, zput V a 2 (.ref b)) := by rw [zw]; exact if_pos_z ⟨ht, rfl⟩
theorem r_gf_579 (ht : s.tg a = 9) : zwp (zcall d) m Q (.getfield 579 :: r) L (.ref a :: st) (s, V) = zwp (zcall d) m Q r L (V a 3 :: st) (s, V) := by rw [zw]; exact if_pos_z ht
theorem r_pf_579 (ht : s.tg a = 9) : zwp (zcall d) m Q (.putfield 579 :: r) L (.ref b :: .ref a :: st) (s, V) = zwp (zcall d) m Q r L st (s, zput V a 3 (.ref b)) := by rw [zw]; exact if_pos_z ⟨ht, rfl⟩
theorem r_gf_580 (ht : s.tg a = 9) : zwp (zcall d) m Q (.getfield 580 :: r) L (.ref a :: st) (s, V) = zwp (zcall d) m Q r L (V a 4 :: st) (s, V) := by rw [zw]; exact if_pos_z ht
theorem r_pf_580 (ht : s.tg a = 9) : zwp (zcall d) m Q (.putfield 580 :: r) L (.ref b :: .ref a :: st) (s, V) = zwp (zcall d) m Q r L st (s, zput V a 4 (.ref b)) := by rw [zw]; exact if_pos_z ⟨ht, rfl⟩
theorem r_gf_581 (ht : s.tg a = 9) : zwp (zcall d) m Q (.getfield 581 :: r) L (.ref a :: st) (s, V) = zwp (zcall d) m Q r L (V a 5 :: st) (s, V) := by rw [zw]; exact if_pos_z ht
theorem r_pf_581 (ht : s.tg a = 9) : zwp (zcall d) m Q (.putfield 581 :: r) L (.ref b :: .ref a :: st) (s, V) = zwp (zcall d) m Q r L st (s, zput V a 5 (.ref b)) := by rw [zw]; exact if_pos_z ⟨ht, rfl⟩
theorem r_gf_582 (ht : s.tg a = 9) : zwp (zcall d) m Q (.getfield 582 :: r) L (.ref a :: st) (s, V) = zwp (zcall d) m Q r L (V a 6 :: st) (s, V) := by rw [zw]; exact if_pos_z ht
theorem r_pf_582 (ht : s.tg a = 9) : zwp (zcall d) m Q (.putfield 582 :: r) L (.ref b :: .ref a :: st) (s, V) = zwp (zcall d) m Q r L st (s, zput V a 6 (.ref b)) := by rw [zw]; exact if_pos_z ⟨ht, rfl⟩
theorem r_gf_583 (ht : s.tg a = 9) : zwp (zcall d) m Q (.getfield 583 :: r) L (.ref a :: st) (s, V) = zwp (zcall d) m Q r L (V a 7 :: st) (s, V) := by rw [zw]; exact if_pos_z ht
theorem r_pf_583 (ht : s.tg a = 9) : zwp (zcall d) m Q (.putfield 583 :: r) L (.ref b :: .ref a :: st) (s, V) = zwp (zcall d) m Q r L st (s, zput V a 7 (.ref b)) := by rw [zw]; exact if_pos_z ⟨ht, rfl⟩
theorem r_gf_584 (ht : s.tg a = 9) : zwp (zcall d) m Q (.getfield 584 :: r) L (.ref a :: st) (s, V) = zwp (zcall d) m Q r L (V a 8 :: st) (s, V) := by rw [zw]; exact if_pos_z ht
theorem r_pf_584 (ht : s.tg a = 9) : zwp (zcall d) m Q (.putfield 584 :: r) L (.ref b :: .ref a :: st) (s, V) = zwp (zcall d) m Q r L st (s, zput V a 8 (.ref b)) := by rw [zw]; exact if_pos_z ⟨ht, rfl⟩
theorem r_gf_640 (ht : s.tg a = 10) : zwp (zcall d) m Q (.getfield 640 :: r) L (.ref a :: st) (s, V) = zwp (zcall d) m Q r L (V a 0 :: st) (s, V) := by rw [zw]; exact if_pos_z ht
theorem r_pf_640 (ht : s.tg a = 10) : zwp (zcall d) m Q (.putfield 640 :: r) L (.ref b :: .ref a :: st) (s, V) = zwp (zcall d) m Q r L st (s, zput V a 0 (.ref b)) := by rw [zw]; exact if_pos_z ⟨ht, rfl⟩
theorem r_gf_641 (ht : s.tg a = 10) : zwp (zcall d) m Q (.getfield 641 :: r) L (.ref a :: st) (s, V) = zwp (zcall d) m Q r L (V a 1 :: st) (s, V) := by rw [zw]; exact if_pos_z ht
theorem r_pf_641 (ht : s.tg a = 10) : zwp (zcall d) m Q (.putfield 641 :: r) L (.ref b :: .ref a :: st) (s, V) = zwp (zcall d) m Q r L st (s, zput V a 1 (.ref b)) := by rw [zw]; exact if_pos_z ⟨ht, rfl⟩
theorem r_gf_642 (ht : s.tg a = 10) : zwp (zcall d) m Q (.getfield 642 :: r) L (.ref a :: st) (s, V) = zwp (zcall d) m Q r L (V a 2 :: st) (s, V) := by rw [zw]; exact if_pos_z ht
theorem r_pf_642 (ht : s.tg a = 10) : zwp (zcall d) m Q (.putfield 642 :: r) L (.ref b :: .ref a :: st) (s, V) = zwp (zcall d) m Q r L st (s, zput V a 2 (.ref b)) := by rw [zw]; exact if_pos_z ⟨ht, rfl⟩
theorem r_gf_643 (ht : s.tg a = 10) : zwp (zcall d) m Q (.getfield 643 :: r) L (.ref a :: st) (s, V) = zwp (zcall d) m Q r L (V a 3 :: st) (s, V) := by rw [zw]; exact if_pos_z ht
theorem r_pf_643 (ht : s.tg a = 10) : zwp (zcall d) m Q (.putfield 643 :: r) L (zi x :: .ref a :: st) (s, V) = zwp (zcall d) m Q r L st (s, zput V a 3 (zi x)) := by rw [zw]; exact if_pos_z ⟨ht, rfl⟩
theorem r_gf_644 (ht : s.tg a = 10) : zwp (zcall d) m Q (.getfield 644 :: r) L (.ref a :: st) (s, V) = zwp (zcall d) m Q r L (V a 4 :: st) (s, V) := by rw [zw]; exact if_pos_z ht
theorem r_pf_644 (ht : s.tg a = 10) : zwp (zcall d) m Q (.putfield 644 :: r) L (.ref b :: .ref a :: st) (s, V) = zwp (zcall d) m Q r L st (s, zput V a 4 (.ref b)) := by rw [zw]; exact if_pos_z ⟨ht, rfl⟩
theorem r_gf_645 (ht : s.tg a = 10) : zwp (zcall d) m Q (.getfield 645 :: r) L (.ref a :: st) (s, V) = zwp (zcall d) m Q r L (V a 5 :: st) (s, V) := by rw [zw]; exact if_pos_z ht
theorem r_pf_645 (ht : s.tg a = 10) : zwp (zcall d) m Q (.putfield 645 :: r) L (zi x :: .ref a :: st) (s, V) = zwp (zcall d) m Q r L st (s, zput V a 5 (zi x)) := by rw [zw]; exact if_pos_z ⟨ht, rfl⟩
theorem r_gf_646 (ht : s.tg a = 10) : zwp (zcall d) m Q (.getfield 646 :: r) L (.ref a :: st) (s, V) = zwp (zcall d) m Q r L (V a 6 :: st) (s, V) := by rw [zw]; exact if_pos_z ht
theorem r_pf_646 (ht : s.tg a = 10) : zwp (zcall d) m Q (.putfield 646 :: r) L (zi x :: .ref a :: st) (s, V) = zwp (zcall d) m Q r L st (s, zput V a 6 (zi x)) := by rw [zw]; exact if_pos_z ⟨ht, rfl⟩
theorem r_gf_647 (ht : s.tg a = 10) : zwp (zcall d) m Q (.getfield 647 :: r) L (.ref a :: st) (s, V) = zwp (zcall d) m Q r L (V a 7 :: st) (s, V) := by rw [zw]; exact if_pos_z ht
theorem r_pf_647 (ht : s.tg a = 10) : zwp (zcall d) m Q (.putfield 647 :: r) L (.ref b :: .ref a :: st) (s, V) = zwp (zcall d) m Q r L st (s, zput V a 7 (.ref b)) := by rw [zw]; exact if_pos_z ⟨ht, rfl⟩
theorem r_gf_648 (ht : s.tg a = 10) : zwp (zcall d) m Q (.getfield 648 :: r) L (.ref a :: st) (s, V) = zwp (zcall d) m Q r L (V a 8 :: st) (s, V) := by rw [zw]; exact if_pos_z ht
theorem r_pf_648 (ht : s.tg a = 10) : zwp (zcall d) m Q (.putfield 648 :: r) L (.ref b :: .ref a :: st) (s, V) = zwp (zcall d) m Q r L st (s, zput V a 8 (.ref b)) := by rw [zw]; exact if_pos_z ⟨ht, rfl⟩
theorem r_gf_649 (ht : s.tg a = 10) : zwp (zcall d) m Q (.getfield 649 :: r) L (.ref a :: st) (s, V) = zwp (zcall d) m Q r L (V a 9 :: st) (s, V) := by rw [zw]; exact if_pos_z ht
theorem r_pf_649 (ht : s.tg a = 10) : zwp (zcall d) m Q (.putfield 649 :: r) L (zi x :: .ref a :: st) (s, V) = zwp (zcall d) m Q r L st (s, zput V a 9 (zi x)) := by rw [zw]; exact if_pos_z ⟨ht, rfl⟩
theorem r_gf_650 (ht : s.tg a = 10) : zwp (zcall d) m Q (.getfield 650 :: r) L (.ref a :: st) (s, V) = zwp (zcall d) m Q r L (V a 10 :: st) (s, V) := by rw [zw]; exact if_pos_z ht
theorem r_pf_650 (ht : s.tg a = 10) : zwp (zcall d) m Q (.putfield 650 :: r) L (.ref b :: .ref a :: st) (s, V) = zwp (zcall d) m Q r L st (s, zput V a 10 (.ref b)) := by rw [zw]; exact if_pos_z ⟨ht, rfl⟩
theorem r_gf_651 (ht : s.tg a = 10) : zwp (zcall d) m Q (.getfield 651 :: r) L (.ref a :: st) (s, V) = zwp (zcall d) m Q r L (V a 11 :: st) (s, V) := by rw [zw]; exact if_pos_z ht
theorem r_pf_651 (ht : s.tg a = 10) : zwp (zcall d) m Q (.putfield 651 :: r) L (.ref b :: .ref a :: st) (s, V) = zwp (zcall d) m Q r L st (s, zput V a 11 (.ref b)) := by rw [zw]; exact if_pos_z ⟨ht, rfl⟩
theorem r_gf_652 (ht : s.tg a = 10) : zwp (zcall d) m Q (.getfield 652 :: r) L (.ref a :: st) (s, V) = zwp (zcall d) m Q r L (V a 12 :: st) (s, V) := by rw [zw]; exact if_pos_z ht
theorem r_pf_652 (ht : s.tg a = 10) : zwp (zcall d) m Q (.putfield 652 :: r) L (.ref b :: .ref a :: st) (s, V) = zwp (zcall d) m Q r L st (s, zput V a 12 (.ref b)) := by rw [zw]; exact if_pos_z ⟨ht, rfl⟩
theorem r_gf_653 (ht : s.tg a = 10) : zwp (zcall d) m Q (.getfield 653 :: r) L (.ref a :: st) (s, V) = zwp (zcall d) m Q r L (V a 13 :: st) (s, V) := by rw [zw]; exact if_pos_z ht
theorem r_pf_653 (ht : s.tg a = 10) : zwp (zcall d) m Q (.putfield 653 :: r) L (.ref b :: .ref a :: st) (s, V) = zwp (zcall d) m Q r L st (s, zput V a 13 (.ref b)) := by rw [zw]; exact if_pos_z ⟨ht, rfl⟩
theorem r_gf_654 (ht : s.tg a = 10) : zwp (zcall d) m Q (.getfield 654 :: r) L (.ref a :: st) (s, V) = zwp (zcall d) m Q r L (V a 14 :: st) (s, V) := by rw [zw]; exact if_pos_z ht
theorem r_pf_654 (ht : s.tg a = 10) : zwp (zcall d) m Q (.putfield 654 :: r) L (.ref b :: .ref a :: st) (s, V) = zwp (zcall d) m Q r L st (s, zput V a 14 (.ref b)) := by rw [zw]; exact if_pos_z ⟨ht, rfl⟩
theorem r_gf_655 (ht : s.tg a = 10) : zwp (zcall d) m Q (.getfield 655 :: r) L (.ref a :: st) (s, V) = zwp (zcall d) m Q r L (V a 15 :: st) (s, V) := by rw [zw]; exact if_pos_z ht
theorem r_pf_655 (ht : s.tg a = 10) : zwp (zcall d) m Q (.putfield 655 :: r) L (.ref b :: .ref a :: st) (s, V) = zwp (zcall d) m Q r L st (s, zput V a 15 (.ref b)) := by rw [zw]; exact if_pos_z ⟨ht, rfl⟩
theorem r_gf_656 (ht : s.tg a = 10) : zwp (zcall d) m Q (.getfield 656 :: r) L (.ref a :: st) (s, V) = zwp (zcall d) m Q r L (V a 16 :: st) (s, V) := by rw [zw]; exact if_pos_z ht
theorem r_pf_656 (ht : s.tg a = 10) : zwp (zcall d) m Q (.putfield 656 :: r) L (.ref b :: .ref a :: st) (s, V) = zwp (zcall d) m Q r L st (s, zput V a 16 (.ref b)) := by rw [zw]; exact if_pos_z ⟨ht, rfl⟩
theorem r_gf_657 (ht : s.tg a = 10) : zwp (zcall d) m Q (.getfield 657 :: r) L (.ref a :: st) (s, V) = zwp (zcall d) m Q r L (V a 17 :: st) (s, V) := by rw [zw]; exact if_pos_z ht
theorem r_pf_657 (ht : s.tg a = 10) : zwp (zcall d) m Q (.putfield 657 :: r) L (.ref b :: .ref a :: st) (s, V) = zwp (zcall d) m Q r L st (s, zput V a 17 (.ref b)) := by rw [zw]; exact if_pos_z ⟨ht, rfl⟩
theorem r_gf_658 (ht : s.tg a = 10) : zwp (zcall d) m Q (.getfield 658 :: r) L (.ref a :: st) (s, V) = zwp (zcall d) m Q r L (V a 18 :: st) (s, V) := by rw [zw]; exact if_pos_z ht
theorem r_pf_658 (ht : s.tg a = 10) : zwp (zcall d) m Q (.putfield 658 :: r) L (.ref b :: .ref a :: st) (s, V) = zwp (zcall d) m Q r L st (s, zput V a 18 (.ref b)) := by rw [zw]; exact if_pos_z ⟨ht, rfl⟩
theorem r_gf_659 (ht : s.tg a = 10) : zwp (zcall d) m Q (.getfield 659 :: r) L (.ref a :: st) (s, V) = zwp (zcall d) m Q r L (V a 19 :: st) (s, V) := by rw [zw]; exact if_pos_z ht
theorem r_pf_659 (ht : s.tg a = 10) : zwp (zcall d) m Q (.putfield 659 :: r) L (.ref b :: .ref a :: st) (s, V) = zwp (zcall d) m Q r L st (s, zput V a 19 (.ref b)) := by rw [zw]; exact if_pos_z ⟨ht, rfl⟩
theorem r_gf_660 (ht : s.tg a = 10) : zwp (zcall d) m Q (.getfield 660 :: r) L (.ref a :: st) (s, V) = zwp (zcall d) m Q r L (V a 20 :: st) (s, V) := by rw [zw]; exact if_pos_z ht
theorem r_pf_660 (ht : s.tg a = 10) : zwp (zcall d) m Q (.putfield 660 :: r) L (zi x :: .ref a :: st) (s, V) = zwp (zcall d) m Q r L st (s, zput V a 20 (zi x)) := by rw [zw]; exact if_pos_z ⟨ht, rfl⟩
theorem r_gf_661 (ht : s.tg a = 10) : zwp (zcall d) m Q (.getfield 661 :: r) L (.ref a :: st) (s, V) = zwp (zcall d) m Q r L (V a 21 :: st) (s, V) := by rw [zw]; exact if_pos_z ht
theorem r_pf_661 (ht : s.tg a = 10) : zwp (zcall d) m Q (.putfield 661 :: r) L (zi x :: .ref a :: st) (s, V) = zwp (zcall d) m Q r L st (s, zput V a 21 (zi x)) := by rw [zw]; exact if_pos_z ⟨ht, rfl⟩
theorem r_gf_662 (ht : s.tg a = 10) : zwp (zcall d) m Q (.getfield 662 :: r) L (.ref a :: st) (s, V) = zwp (zcall d) m Q r L (V a 22 :: st) (s, V) := by rw [zw]; exact if_pos_z ht
theorem r_pf_662 (ht : s.tg a = 10) : zwp (zcall d) m Q (.putfield 662 :: r) L (zi x :: .ref a :: st) (s, V) = zwp (zcall d) m Q r L st (s, zput V a 22 (zi x)) := by rw [zw]; exact if_pos_z ⟨ht, rfl⟩
theorem r_gf_663 (ht : s.tg a = 10) : zwp (zcall d) m Q (.getfield 663 :: r) L (.ref a :: st) (s, V) = zwp (zcall d) m Q r L (V a 23 :: st) (s, V) := by rw [zw]; exact if_pos_z ht
theorem r_pf_663 (ht : s.tg a = 10) : zwp (zcall d) m Q (.putfield 663 :: r) L (zi x :: .ref a :: st) (s, V) = zwp (zcall d) m Q r L st (s, zput V a 23 (zi x)) := by rw [zw]; exact if_pos_z ⟨ht, rfl⟩
theorem r_gf_664 (ht : s.tg a = 10) : zwp (zcall d) m Q (.getfield 664 :: r) L (.ref a :: st) (s, V) = zwp (zcall d) m Q r L (V a 24 :: st) (s, V) := by rw [zw]; exact if_pos_z ht
theorem r_pf_664 (ht : s.tg a = 10) : zwp (zcall d) m Q (.putfield 664 :: r) L (zi x :: .ref a :: st) (s, V) = zwp (zcall d) m Q r L st (s, zput V a 24 (zi x)) := by rw [zw]; exact if_pos_z ⟨ht, rfl⟩
theorem r_gf_665 (ht : s.tg a = 10) : zwp (zcall d) m Q (.getfield 665 :: r) L (.ref a :: st) (s, V) = zwp (zcall d) m Q r L (V a 25 :: st) (s, V) := by rw [zw]; exact if_pos_z ht
theorem r_pf_665 (ht : s.tg a = 10) : zwp (zcall d) m Q (.putfield 665 :: r) L (zi x :: .ref a :: st) (s, V) = zwp (zcall d) m Q r L st (s, zput V a 25 (zi x)) := by rw [zw]; exact if_pos_z ⟨ht, rfl⟩
theorem r_gf_666 (ht : s.tg a = 10) : zwp (zcall d) m Q (.getfield 666 :: r) L (.ref a :: st) (s, V) = zwp (zcall d) m Q r L (V a 26 :: st) (s, V) := by rw [zw]; exact if_pos_z ht
theorem r_pf_666 (ht : s.tg a = 10) : zwp (zcall d) m Q (.putfield 666 :: r) L (zi x :: .ref a :: st) (s, V) = zwp (zcall d) m Q r L st (s, zput V a 26 (zi x)) := by rw [zw]; exact if_pos_z ⟨ht, rfl⟩
theorem r_gf_667 (ht : s.tg a = 10) : zwp (zcall d) m Q (.getfield 667 :: r) L (.ref a :: st) (s, V) = zwp (zcall d) m Q r L (V a 27 :: st) (s, V) := by rw [zw]; exact if_pos_z ht
theorem r_pf_667 (ht : s.tg a = 10) : zwp (zcall d) m Q (.putfield 667 :: r) L (zi x :: .ref a :: st) (s, V) = zwp (zcall d) m Q r L st (s, zput V a 27 (zi x)) := by rw [zw]; exact if_pos_z ⟨ht, rfl⟩
theorem r_gf_668 (ht : s.tg a = 10) : zwp (zcall d) m Q (.getfield 668 :: r) L (.ref a :: st) (s, V) = zwp (zcall d) m Q r L (V a 28 :: st) (s, V) := by rw [zw]; exact if_pos_z ht
theorem r_pf_668 (ht : s.tg a = 10) : zwp (zcall d) m Q (.putfield 668 :: r) L (.ref b :: .ref a :: st) (s, V) = zwp (zcall d) m Q r L st (s, zput V a 28 (.ref b)) := by rw [zw]; exact if_pos_z ⟨ht, rfl⟩
theorem r_gf_669 (ht : s.tg a = 10) : zwp (zcall d) m Q (.getfield 669 :: r) L (.ref a :: st) (s, V) = zwp (zcall d) m Q r L (V a 29 :: st) (s, V) := by rw [zw]; exact if_pos_z ht
theorem r_pf_669 (ht : s.tg a = 10) : zwp (zcall d) m Q (.putfield 669 :: r) L (.ref b :: .ref a :: st) (s, V) = zwp (zcall d) m Q r L st (s, zput V a 29 (.ref b)) := by rw [zw]; exact if_pos_z ⟨ht, rfl⟩
theorem r_gf_670 (ht : s.tg a = 10) : zwp (zcall d) m Q (.getfield 670 :: r) L (.ref a :: st) (s, V) = zwp (zcall d) m Q r L (V a 30 :: st) (s, V) := by rw [zw]; exact if_pos_z ht
theorem r_pf_670 (ht : s.tg a = 10) : zwp (zcall d) m Q (.putfield 670 :: r) L (.ref b :: .ref a :: st) (s, V) = zwp (zcall d) m Q r L st (s, zput V a 30 (.ref b)) := by rw [zw]; exact if_pos_z ⟨ht, rfl⟩
theorem r_gf_671 (ht : s.tg a = 10) : zwp (zcall d) m Q (.getfield 671 :: r) L (.ref a :: st) (s, V) = zwp (zcall d) m Q r L (V a 31 :: st) (s, V) := by rw [zw]; exact if_pos_z ht
theorem r_pf_671 (ht : s.tg a = 10) : zwp (zcall d) m Q (.putfield 671 :: r) L (.ref b :: .ref a :: st) (s, V) = zwp (zcall d) m Q r L st (s, zput V a 31 (.ref b)) := by rw [zw]; exact if_pos_z ⟨ht, rfl⟩
theorem r_gf_672 (ht : s.tg a = 10) : zwp (zcall d) m Q (.getfield 672 :: r) L (.ref a :: st) (s, V) = zwp (zcall d) m Q r L (V a 32 :: st) (s, V) := by rw [zw]; exact if_pos_z ht
theorem r_pf_672 (ht : s.tg a = 10) : zwp (zcall d) m Q (.putfield 672 :: r) L (.ref b :: .ref a :: st) (s, V) = zwp (zcall d) m Q r L st (s, zput V a 32 (.ref b)) := by rw [zw]; exact if_pos_z ⟨ht, rfl⟩
theorem r_gf_673 (ht : s.tg a = 10) : zwp (zcall d) m Q (.getfield 673 :: r) L (.ref a :: st) (s, V) = zwp (zcall d) m Q r L (V a 33 :: st) (s, V) := by rw [zw]; exact if_pos_z ht
theorem r_pf_673_0 (ht : s.tg a = 10) : zwp (zcall d) m Q (.putfield 673 :: r) L (zi 0 :: .ref a :: st) (s, V) = zwp (zcall d) m Q r L st (s, zput V a 33 (zi 0)) := by rw [zw]; exact if_pos_z ⟨ht, rfl⟩
theorem r_pf_673_1 (ht : s.tg a = 10) : zwp (zcall d) m Q (.putfield 673 :: r) L (zi 1 :: .ref a :: st) (s, V) = zwp (zcall d) m Q r L st (s, zput V a 33 (zi 1)) := by rw [zw]; exact if_pos_z ⟨ht, rfl⟩
theorem r_pf_673 (ht : s.tg a = 10) (hx : x = 0 ∨ x = 1) : zwp (zcall d) m Q (.putfield 673 :: r) L (zi x :: .ref a :: st) (s, V) = zwp (zcall d) m Q r L st (s, zput V a 33 (zi x)) := by rw [zw]; rcases hx with rfl | rfl <;> exact if_pos_z ⟨ht, rfl⟩
theorem r_gf_674 (ht : s.tg a = 10) : zwp (zcall d) m Q (.getfield 674 :: r) L (.ref a :: st) (s, V) = zwp (zcall d) m Q r L (V a 34 :: st) (s, V) := by rw [zw]; exact if_pos_z ht
theorem r_pf_674_0 (ht : s.tg a = 10) : zwp (zcall d) m Q (.putfield 674 :: r) L (zi 0 :: .ref a :: st) (s, V) = zwp (zcall d) m Q r L st (s, zput V a 34 (zi 0)) := by rw [zw]; exact if_pos_z ⟨ht, rfl⟩
theorem r_pf_674_1 (ht : s.tg a = 10) : zwp (zcall d) m Q (.putfield 674 :: r) L (zi 1 :: .ref a :: st) (s, V) = zwp (zcall d) m Q r L st (s, zput V a 34 (zi 1)) := by rw [zw]; exact if_pos_z ⟨ht, rfl⟩
theorem r_pf_674 (ht : s.tg a = 10) (hx : x = 0 ∨ x = 1) : zwp (zcall d) m Q (.putfield 674 :: r) L (zi x :: .ref a :: st) (s, V) = zwp (zcall d) m Q r L st (s, zput V a 34 (zi x)) := by rw [zw]; rcases hx with rfl | rfl <;> exact if_pos_z ⟨ht, rfl⟩
theorem r_gf_675 (ht : s.tg a = 10) : zwp (zcall d) m Q (.getfield 675 :: r) L (.ref a :: st) (s, V) = zwp (zcall d) m Q r L (V a 35 :: st) (s, V) := by rw [zw]; exact if_pos_z ht
theorem r_pf_675 (ht : s.tg a = 10) : zwp (zcall d) m Q (.putfield 675 :: r) L (.ref b :: .ref a :: st) (s, V) = zwp (zcall d) m Q r L st (s, zput V a 35 (.ref b)) := by rw [zw]; exact if_pos_z ⟨ht, rfl⟩
theorem r_gf_676 (ht : s.tg a = 10) : zwp (zcall d) m Q (.getfield 676 :: r) L (.ref a :: st) (s, V) = zwp (zcall d) m Q r L (V a 36 :: st) (s, V) := by rw [zw]; exact if_pos_z ht
theorem r_pf_676 (ht : s.tg a = 10) : zwp (zcall d) m Q (.putfield 676 :: r) L (zi x :: .ref a :: st) (s, V) = zwp (zcall d) m Q r L st (s, zput V a 36 (zi x)) := by rw [zw]; exact if_pos_z ⟨ht, rfl⟩
theorem r_gf_677 (ht : s.tg a = 10) : zwp (zcall d) m Q (.getfield 677 :: r) L (.ref a :: st) (s, V) = zwp (zcall d) m Q r L (V a 37 :: st) (s, V) := by rw [zw]; exact if_pos_z ht
theorem r_pf_677 (ht : s.tg a = 10) : zwp (zcall d) m Q (.putfield 677 :: r) L (.ref b :: .ref a :: st) (s, V) = zwp (zcall d) m Q r L st (s, zput V a 37 (.ref b)) := by rw [zw]; exact if_pos_z ⟨ht, rfl⟩
theorem r_gf_678 (ht : s.tg a = 10) : zwp (zcall d) m Q (.getfield 678 :: r) L (.ref a :: st) (s, V) = zwp (zcall d) m Q r L (V a 38 :: st) (s, V) := by rw [zw]; exact if_pos_z ht
theorem r_pf_678 (ht : s.tg a = 10) : zwp (zcall d) m Q (.putfield 678 :: r) L (.ref b :: .ref a :: st) (s, V) = zwp (zcall d) m Q r L st (s, zput V a 38 (.ref b)) := by rw [zw]; exact if_pos_z ⟨ht, rfl⟩
theorem r_gf_679 (ht : s.tg a = 10) : zwp (zcall d) m Q (.getfield 679 :: r) L (.ref a :: st) (s, V) = zwp (zcall d) m Q r L (V a 39 :: st) (s, V) := by rw [zw]; exact if_pos_z ht
theorem r_pf_679 (ht : s.tg a = 10) : zwp (zcall d) m Q (.putfield 679 :: r) L (.ref b :: .ref a :: st) (s, V) = zwp (zcall d) m Q r L st (s, zput V a 39 (.ref b)) := by rw [zw]; exact if_pos_z ⟨ht, rfl⟩
theorem r_gf_680 (ht : s.tg a = 10) : zwp (zcall d) m Q (.getfield 680 :: r) L (.ref a :: st) (s, V) = zwp (zcall d) m Q r L (V a 40 :: st) (s, V) := by rw [zw]; exact if_pos_z ht
theorem r_pf_680 (ht : s.tg a = 10) : zwp (zcall d) m Q (.putfield 680 :: r) L (zi x :: .ref a :: st) (s, V) = zwp (zcall d) m Q r L st (s, zput V a 40 (zi x)) := by rw [zw]; exact if_pos_z ⟨ht, rfl⟩
theorem r_gf_681 (ht : s.tg a = 10) : zwp (zcall d) m Q (.getfield 681 :: r) L (.ref a :: st) (s, V) = zwp (zcall d) m Q r L (V a 41 :: st) (s, V) := by rw [zw]; exact if_pos_z ht
theorem r_pf_681 (ht : s.tg a = 10) : zwp (zcall d) m Q (.putfield 681 :: r) L (zi x :: .ref a :: st) (s, V) = zwp (zcall d) m Q r L st (s, zput V a 41 (zi x)) := by rw [zw]; exact if_pos_z ⟨ht, rfl⟩
theorem r_gf_682 (ht : s.tg a = 10) : zwp (zcall d) m Q (.getfield 682 :: r) L (.ref a :: st) (s, V) = zwp (zcall d) m Q r L (V a 42 :: st) (s, V) := by rw [zw]; exact if_pos_z ht
theorem r_pf_682 (ht : s.tg a = 10) : zwp (zcall d) m Q (.putfield 682 :: r) L (.ref b :: .ref a :: st) (s, V) = zwp (zcall d) m Q r L st (s, zput V a 42 (.ref b)) := by rw [zw]; exact if_pos_z ⟨ht, rfl⟩
theorem r_gf_683 (ht : s.tg a = 10) : zwp (zcall d) m Q (.getfield 683 :: r) L (.ref a :: st) (s, V) = zwp (zcall d) m Q r L (V a 43 :: st) (s, V) := by rw [zw]; exact if_pos_z ht
theorem r_pf_683 (ht : s.tg a = 10) : zwp (zcall d) m Q (.putfield 683 :: r) L (zl x :: .ref a :: st) (s, V) = zwp (zcall d) m Q r L st (s, zput V a 43 (zl x)) := by rw [zw]; exact if_pos_z ⟨ht, rfl⟩
theorem r_gets : zwp (zcall d) m Q (.getstatic a :: r) L st h = zwp (zcall d) m Q r L (.ref a :: st) h := by rw [zw]; rfl
theorem r_new_0 : zwp (zcall d) m Q (.new 0 :: r) L st (s, V) = zwp (zcall d) m Q r L (.ref s.sz :: st) (s.new 0 0 1, zrow V s.sz (zDf 0)) := by rw [zw]; rfl
theorem r_new_1 : zwp (zcall d) m Q (.new 1 :: r) L st (s, V) = zwp (zcall d) m Q r L (.ref s.sz :: st) (s.new 1 0 3, zrow V s.sz (zDf 1)) := by rw [zw]; rfl
theorem r_new_2 : zwp (zcall d) m Q (.new 2 :: r) L st (s, V) = zwp (zcall d) m Q r L (.ref s.sz :: st) (s.new 2 0 5, zrow V s.sz (zDf 2)) := by rw [zw]; rfl
theorem r_new_3 : zwp (zcall d) m Q (.new 3 :: r) L st (s, V) = zwp (zcall d) m Q r L (.ref s.sz :: st) (s.new 3 0 2, zrow V s.sz (zDf 3)) := by rw [zw]; rfl
theorem r_new_4 : zwp (zcall d) m Q (.new 4 :: r) L st (s, V) = zwp (zcall d) m Q r L (.ref s.sz :: st) (s.new 4 0 4, zrow V s.sz (zDf 4)) := by rw [zw]; rfl
theorem r_new_5 : zwp (zcall d) m Q (.new 5 :: r) L st (s, V) = zwp (zcall d) m Q r L (.ref s.sz :: st) (s.new 5 0 10, zrow V s.sz (zDf 5)) := by rw [zw]; rfl
theorem r_new_7 : zwp (zcall d) m Q (.new 7 :: r) L st (s, V) = zwp (zcall d) m Q r L (.ref s.sz :: st) (s.new 7 0 4, zrow V s.sz (zDf 7)) := by rw [zw]; rfl
theorem r_new_8 : zwp (zcall d) m Q (.new 8 :: r) L st (s, V) = zwp (zcall d) m Q r L (.ref s.sz :: st) (s.new 8 0 4, zrow V s.sz (zDf 8)) := by rw [zw]; rfl
theorem r_new_9 : zwp (zcall d) m Q (.new 9 :: r) L st (s, V) = zwp (zcall d) m Q r L (.ref s.sz :: st) (s.new 9 0 9, zrow V s.sz (zDf 9)) := by rw [zw]; rfl
theorem r_new_10 : zwp (zcall d) m Q (.new 10 :: r) L st (s, V) = zwp (zcall d) m Q r L (.ref s.sz :: st) (s.new 10 0 44, zrow V s.sz (zDf 10)) := by rw [zw]; rfl
theorem r_newa_int (h1 : 0 ≤ n) (h2 : n ≤ 1000000) : zwp (zcall d) m Q (.newarray .int :: r) L (zi n :: st) (s, V) = zwp (zcall d) m Q r L (.ref s.sz :: st) (s.new 20 n n.toNat, zrow V s.sz (fun _ => zi 0)) := by
  have e := z_rng (a := n) (by omega) (by omega)
  rw [zw]
  simp only [zF, zstep, zi, e, h1, h2, true_and, if_true]
  rfl
theorem r_newa_long (h1 : 0 ≤ n) (h2 : n ≤ 1000000) : zwp (zcall d) m Q (.newarray .long :: r) L (zi n :: st) (s, V) = zwp (zcall d) m Q r L (.ref s.sz :: st) (s.new 21 n n.toNat, zrow V s.sz (fun _ => .long 0)) := by
  have e := z_rng (a := n) (by omega) (by omega)
  rw [zw]
  simp only [zF, zstep, zi, e, h1, h2, true_and, if_true]
  rfl
theorem r_newa_double (h1 : 0 ≤ n) (h2 : n ≤ 1000000) : zwp (zcall d) m Q (.newarray .double :: r) L (zi n :: st) (s, V) = zwp (zcall d) m Q r L (.ref s.sz :: st) (s.new 22 n n.toNat, zrow V s.sz (fun _ => .double 0)) := by
  have e := z_rng (a := n) (by omega) (by omega)
  rw [zw]
  simp only [zF, zstep, zi, e, h1, h2, true_and, if_true]
  rfl
theorem r_newa_boolean (h1 : 0 ≤ n) (h2 : n ≤ 1000000) : zwp (zcall d) m Q (.newarray .boolean :: r) L (zi n :: st) (s, V) = zwp (zcall d) m Q r L (.ref s.sz :: st) (s.new 23 n n.toNat, zrow V s.sz (fun _ => zi 0)) := by
  have e := z_rng (a := n) (by omega) (by omega)
  rw [zw]
  simp only [zF, zstep, zi, e, h1, h2, true_and, if_true]
  rfl
theorem r_anew (h1 : 0 ≤ n) (h2 : n ≤ 1000000) : zwp (zcall d) m Q (.anewarray a :: r) L (zi n :: st) (s, V) = zwp (zcall d) m Q r L (.ref s.sz :: st) (s.new 26 n n.toNat, zrow V s.sz (fun _ => .null)) := by
  have e := z_rng (a := n) (by omega) (by omega)
  rw [zw]
  simp only [zF, zstep, zi, e, h1, h2, true_and, if_true]
theorem r_mna_0 (h1 : 0 ≤ n) (h2 : n ≤ 1000000) (h3 : 0 ≤ k) (h4 : k ≤ 1000000) : zwp (zcall d) m Q (.multianewarray 0 2 :: r) L (zi k :: zi n :: st) (s, V) = zwp (zcall d) m Q r L (.ref s.sz :: st) (zHnews (s.new 24 n n.toNat, zrow V s.sz (fun j => .ref (s.sz + 1 + j.toNat))) 20 k (zi 0) n.toNat) := by
  have e := z_rng (a := n) (by omega) (by omega)
  have e2 := z_rng (a := k) (by omega) (by omega)
  rw [zw]
  simp only [zF, zstep, zi, e, e2, h1, h2, h3, h4, true_and, if_true]
  rfl
theorem r_mna_1 (h1 : 0 ≤ n) (h2 : n ≤ 1000000) (h3 : 0 ≤ k) (h4 : k ≤ 1000000) : zwp (zcall d) m Q (.multianewarray 1 2 :: r) L (zi k :: zi n :: st) (s, V) = zwp (zcall d) m Q r L (.ref s.sz :: st) (zHnews (s.new 25 n n.toNat, zrow V s.sz (fun j => .ref (s.sz + 1 + j.toNat))) 21 k (.long 0) n.toNat) := by
  have e := z_rng (a := n) (by omega) (by omega)
  have e2 := z_rng (a := k) (by omega) (by omega)
  rw [zw]
  simp only [zF, zstep, zi, e, e2, h1, h2, h3, h4, true_and, if_true]
  rfl
theorem r_alen (h1 : 20 ≤ s.tg a) (h2 : s.tg a ≤ 26 ∨ s.tg a = 32) (h3 : s.ln a ≤ 1000000) : zwp (zcall d) m Q (.arraylength :: r) L (.ref a :: st) (s, V) = zwp (zcall d) m Q r L (zi (s.ln a) :: st) (s, V) := by rw [zw]; exact if_pos_z ⟨h1, h2, h3⟩
theorem r_iaload (ht : s.tg a = 20 ∨ s.tg a = 30 ∨ s.tg a = 32) (h1 : 0 ≤ j) (h2 : j < s.ln a) (h3 : s.ln a ≤ 1000000) : zwp (zcall d) m Q (.iaload :: r) L (zi j :: .ref a :: st) (s, V) = zwp (zcall d) m Q r L (V a j :: st) (s, V) := by
  have e := z_rng (a := j) (by omega) (by omega)
  rw [zw]
  simp only [zF, zstep, zi, zl, e]
  exact if_pos_z ⟨ht, h1, h2⟩
theorem r_laload (ht : s.tg a = 21 ∨ s.tg a = 31) (h1 : 0 ≤ j) (h2 : j < s.ln a) (h3 : s.ln a ≤ 1000000) : zwp (zcall d) m Q (.laload :: r) L (zi j :: .ref a :: st) (s, V) = zwp (zcall d) m Q r L (V a j :: st) (s, V) := by
  have e := z_rng (a := j) (by omega) (by omega)
  rw [zw]
  simp only [zF, zstep, zi, zl, e]
  exact if_pos_z ⟨ht, h1, h2⟩
theorem r_daload (ht : s.tg a = 22) (h1 : 0 ≤ j) (h2 : j < s.ln a) (h3 : s.ln a ≤ 1000000) : zwp (zcall d) m Q (.daload :: r) L (zi j :: .ref a :: st) (s, V) = zwp (zcall d) m Q r L (V a j :: st) (s, V) := by
  have e := z_rng (a := j) (by omega) (by omega)
  rw [zw]
  simp only [zF, zstep, zi, zl, e]
  exact if_pos_z ⟨ht, h1, h2⟩
theorem r_baload (ht : s.tg a = 23) (h1 : 0 ≤ j) (h2 : j < s.ln a) (h3 : s.ln a ≤ 1000000) : zwp (zcall d) m Q (.baload :: r) L (zi j :: .ref a :: st) (s, V) = zwp (zcall d) m Q r L (V a j :: st) (s, V) := by
  have e := z_rng (a := j) (by omega) (by omega)
  rw [zw]
  simp only [zF, zstep, zi, zl, e]
  exact if_pos_z ⟨ht, h1, h2⟩
theorem r_aaload (ht : s.tg a = 24 ∨ s.tg a = 25 ∨ s.tg a = 26) (h1 : 0 ≤ j) (h2 : j < s.ln a) (h3 : s.ln a ≤ 1000000) : zwp (zcall d) m Q (.aaload :: r) L (zi j :: .ref a :: st) (s, V) = zwp (zcall d) m Q r L (V a j :: st) (s, V) := by
  have e := z_rng (a := j) (by omega) (by omega)
  rw [zw]
  simp only [zF, zstep, zi, zl, e]
  exact if_pos_z ⟨ht, h1, h2⟩
theorem r_iastore (ht : s.tg a = 20) (h1 : 0 ≤ j) (h2 : j < s.ln a) (h3 : s.ln a ≤ 1000000) : zwp (zcall d) m Q (.iastore :: r) L (zi x :: zi j :: .ref a :: st) (s, V) = zwp (zcall d) m Q r L st (s, zput V a j (zi x)) := by
  have e := z_rng (a := j) (by omega) (by omega)
  rw [zw]
  simp only [zF, zstep, zi, zl, e]
  exact if_pos_z ⟨ht, h1, h2⟩
theorem r_lastore (ht : s.tg a = 21) (h1 : 0 ≤ j) (h2 : j < s.ln a) (h3 : s.ln a ≤ 1000000) : zwp (zcall d) m Q (.lastore :: r) L (zl x :: zi j :: .ref a :: st) (s, V) = zwp (zcall d) m Q r L st (s, zput V a j (zl x)) := by
  have e := z_rng (a := j) (by omega) (by omega)
  rw [zw]
  simp only [zF, zstep, zi, zl, e]
  exact if_pos_z ⟨ht, h1, h2⟩
theorem r_bastore (ht : s.tg a = 23) (h1 : 0 ≤ j) (h2 : j < s.ln a) (h3 : s.ln a ≤ 1000000) (hx : x = 0 ∨ x = 1) : zwp (zcall d) m Q (.bastore :: r) L (zi x :: zi j :: .ref a :: st) (s, V) = zwp (zcall d) m Q r L st (s, zput V a j (zi x)) := by
  have e := z_rng (a := j) (by omega) (by omega)
  rw [zw]
  simp only [zF, zstep, zi, zl, e]
  exact if_pos_z ⟨ht, h1, h2, by rcases hx with rfl | rfl; exact Or.inl rfl; exact Or.inr rfl⟩
theorem r_aastore (ht : s.tg a = 26) (h1 : 0 ≤ j) (h2 : j < s.ln a) (h3 : s.ln a ≤ 1000000) (hx : s.tg b = 7) : zwp (zcall d) m Q (.aastore :: r) L (.ref b :: zi j :: .ref a :: st) (s, V) = zwp (zcall d) m Q r L st (s, zput V a j (.ref b)) := by
  have e := z_rng (a := j) (by omega) (by omega)
  rw [zw]
  simp only [zF, zstep, zi, zl, e]
  exact if_pos_z ⟨ht, h1, h2, hx⟩
theorem r_lastoreR {u : Int64} (ht : s.tg a = 21) (h1 : 0 ≤ j) (h2 : j < s.ln a) (h3 : s.ln a ≤ 1000000) : zwp (zcall d) m Q (.lastore :: r) L (.long u :: zi j :: .ref a :: st) (s, V) = zwp (zcall d) m Q r L st (s, zput V a j (.long u)) := by
  have e := z_rng (a := j) (by omega) (by omega)
  rw [zw]
  simp only [zF, zstep, zi, zl, e]
  exact if_pos_z ⟨ht, h1, h2⟩
theorem r_dastore {u : UInt64} (ht : s.tg a = 22) (h1 : 0 ≤ j) (h2 : j < s.ln a) (h3 : s.ln a ≤ 1000000) : zwp (zcall d) m Q (.dastore :: r) L (.double u :: zi j :: .ref a :: st) (s, V) = zwp (zcall d) m Q r L st (s, zput V a j (.double u)) := by
  have e := z_rng (a := j) (by omega) (by omega)
  rw [zw]
  simp only [zF, zstep, zi, zl, e]
  exact if_pos_z ⟨ht, h1, h2⟩
theorem r_copy (ht : s.tg a = 20) (ht2 : s.tg b = 20) (h1 : 0 ≤ n) (h2 : 0 ≤ j) (h3 : 0 ≤ k) (h4 : j + n ≤ s.ln a) (h5 : k + n ≤ s.ln b) (h6 : s.ln a ≤ 1000000) (h7 : s.ln b ≤ 1000000) : zwp (zcall d) m Q (.pop2 :: r) L [zi n, zi k, .ref b, zi j, .ref a] (s, V) = zwp (zcall d) m Q r L [] (s, zrow V b (fun i => if k ≤ i ∧ i < k + n then V a (j + (i - k)) else V b i)) := by
  have e1 := z_rng (a := n) (by omega) (by omega)
  have e2 := z_rng (a := j) (by omega) (by omega)
  have e3 := z_rng (a := k) (by omega) (by omega)
  rw [zw]
  simp only [zF, zstep, zi, e1, e2, e3]
  exact if_pos_z ⟨ht, ht2, h1, h2, h3, h4, h5⟩
theorem r_inv_0_0 : zwp (zcall d) m Q (.invokeinterface a 0 :: r) L [] h = zcall d a [] h (zK (zAl m a) m Q (zwp (zcall d) m Q) r L []) := by rw [zw]; exact z_and2 (Nat.le_of_ble_eq_true rfl) (Nat.le_of_ble_eq_true rfl)
theorem r_inv_0_1 {w0 : Value} : zwp (zcall d) m Q (.invokeinterface a 0 :: r) L [w0] h = zcall d a [] h (zK (zAl m a) m Q (zwp (zcall d) m Q) r L [w0]) := by rw [zw]; exact z_and2 (Nat.le_of_ble_eq_true rfl) (Nat.le_of_ble_eq_true rfl)
theorem r_inv_0_2 {w0 w1 : Value} : zwp (zcall d) m Q (.invokeinterface a 0 :: r) L [w0, w1] h = zcall d a [] h (zK (zAl m a) m Q (zwp (zcall d) m Q) r L [w0, w1]) := by rw [zw]; exact z_and2 (Nat.le_of_ble_eq_true rfl) (Nat.le_of_ble_eq_true rfl)
theorem r_inv_0_3 {w0 w1 w2 : Value} : zwp (zcall d) m Q (.invokeinterface a 0 :: r) L [w0, w1, w2] h = zcall d a [] h (zK (zAl m a) m Q (zwp (zcall d) m Q) r L [w0, w1, w2]) := by rw [zw]; exact z_and2 (Nat.le_of_ble_eq_true rfl) (Nat.le_of_ble_eq_true rfl)
theorem r_inv_0_4 {w0 w1 w2 w3 : Value} : zwp (zcall d) m Q (.invokeinterface a 0 :: r) L [w0, w1, w2, w3] h = zcall d a [] h (zK (zAl m a) m Q (zwp (zcall d) m Q) r L [w0, w1, w2, w3]) := by rw [zw]; exact z_and2 (Nat.le_of_ble_eq_true rfl) (Nat.le_of_ble_eq_true rfl)
theorem r_inv_1_0 : zwp (zcall d) m Q (.invokeinterface a 1 :: r) L [v0] h = zcall d a [v0] h (zK (zAl m a) m Q (zwp (zcall d) m Q) r L []) := by rw [zw]; exact z_and2 (Nat.le_of_ble_eq_true rfl) (Nat.le_of_ble_eq_true rfl)
theorem r_inv_1_1 {w0 : Value} : zwp (zcall d) m Q (.invokeinterface a 1 :: r) L [v0, w0] h = zcall d a [v0] h (zK (zAl m a) m Q (zwp (zcall d) m Q) r L [w0]) := by rw [zw]; exact z_and2 (Nat.le_of_ble_eq_true rfl) (Nat.le_of_ble_eq_true rfl)
theorem r_inv_1_2 {w0 w1 : Value} : zwp (zcall d) m Q (.invokeinterface a 1 :: r) L [v0, w0, w1] h = zcall d a [v0] h (zK (zAl m a) m Q (zwp (zcall d) m Q) r L [w0, w1]) := by rw [zw]; exact z_and2 (Nat.le_of_ble_eq_true rfl) (Nat.le_of_ble_eq_true rfl)
theorem r_inv_1_3 {w0 w1 w2 : Value} : zwp (zcall d) m Q (.invokeinterface a 1 :: r) L [v0, w0, w1, w2] h = zcall d a [v0] h (zK (zAl m a) m Q (zwp (zcall d) m Q) r L [w0, w1, w2]) := by rw [zw]; exact z_and2 (Nat.le_of_ble_eq_true rfl) (Nat.le_of_ble_eq_true rfl)
theorem r_inv_1_4 {w0 w1 w2 w3 : Value} : zwp (zcall d) m Q (.invokeinterface a 1 :: r) L [v0, w0, w1, w2, w3] h = zcall d a [v0] h (zK (zAl m a) m Q (zwp (zcall d) m Q) r L [w0, w1, w2, w3]) := by rw [zw]; exact z_and2 (Nat.le_of_ble_eq_true rfl) (Nat.le_of_ble_eq_true rfl)
theorem r_inv_2_0 : zwp (zcall d) m Q (.invokeinterface a 2 :: r) L [v1, v0] h = zcall d a [v0, v1] h (zK (zAl m a) m Q (zwp (zcall d) m Q) r L []) := by rw [zw]; exact z_and2 (Nat.le_of_ble_eq_true rfl) (Nat.le_of_ble_eq_true rfl)
theorem r_inv_2_1 {w0 : Value} : zwp (zcall d) m Q (.invokeinterface a 2 :: r) L [v1, v0, w0] h = zcall d a [v0, v1] h (zK (zAl m a) m Q (zwp (zcall d) m Q) r L [w0]) := by rw [zw]; exact z_and2 (Nat.le_of_ble_eq_true rfl) (Nat.le_of_ble_eq_true rfl)
theorem r_inv_2_2 {w0 w1 : Value} : zwp (zcall d) m Q (.invokeinterface a 2 :: r) L [v1, v0, w0, w1] h = zcall d a [v0, v1] h (zK (zAl m a) m Q (zwp (zcall d) m Q) r L [w0, w1]) := by rw [zw]; exact z_and2 (Nat.le_of_ble_eq_true rfl) (Nat.le_of_ble_eq_true rfl)
theorem r_inv_2_3 {w0 w1 w2 : Value} : zwp (zcall d) m Q (.invokeinterface a 2 :: r) L [v1, v0, w0, w1, w2] h = zcall d a [v0, v1] h (zK (zAl m a) m Q (zwp (zcall d) m Q) r L [w0, w1, w2]) := by rw [zw]; exact z_and2 (Nat.le_of_ble_eq_true rfl) (Nat.le_of_ble_eq_true rfl)
theorem r_inv_2_4 {w0 w1 w2 w3 : Value} : zwp (zcall d) m Q (.invokeinterface a 2 :: r) L [v1, v0, w0, w1, w2, w3] h = zcall d a [v0, v1] h (zK (zAl m a) m Q (zwp (zcall d) m Q) r L [w0, w1, w2, w3]) := by rw [zw]; exact z_and2 (Nat.le_of_ble_eq_true rfl) (Nat.le_of_ble_eq_true rfl)
theorem r_inv_3_0 : zwp (zcall d) m Q (.invokeinterface a 3 :: r) L [v2, v1, v0] h = zcall d a [v0, v1, v2] h (zK (zAl m a) m Q (zwp (zcall d) m Q) r L []) := by rw [zw]; exact z_and2 (Nat.le_of_ble_eq_true rfl) (Nat.le_of_ble_eq_true rfl)
theorem r_inv_3_1 {w0 : Value} : zwp (zcall d) m Q (.invokeinterface a 3 :: r) L [v2, v1, v0, w0] h = zcall d a [v0, v1, v2] h (zK (zAl m a) m Q (zwp (zcall d) m Q) r L [w0]) := by rw [zw]; exact z_and2 (Nat.le_of_ble_eq_true rfl) (Nat.le_of_ble_eq_true rfl)
theorem r_inv_3_2 {w0 w1 : Value} : zwp (zcall d) m Q (.invokeinterface a 3 :: r) L [v2, v1, v0, w0, w1] h = zcall d a [v0, v1, v2] h (zK (zAl m a) m Q (zwp (zcall d) m Q) r L [w0, w1]) := by rw [zw]; exact z_and2 (Nat.le_of_ble_eq_true rfl) (Nat.le_of_ble_eq_true rfl)
theorem r_inv_3_3 {w0 w1 w2 : Value} : zwp (zcall d) m Q (.invokeinterface a 3 :: r) L [v2, v1, v0, w0, w1, w2] h = zcall d a [v0, v1, v2] h (zK (zAl m a) m Q (zwp (zcall d) m Q) r L [w0, w1, w2]) := by rw [zw]; exact z_and2 (Nat.le_of_ble_eq_true rfl) (Nat.le_of_ble_eq_true rfl)
theorem r_inv_3_4 {w0 w1 w2 w3 : Value} : zwp (zcall d) m Q (.invokeinterface a 3 :: r) L [v2, v1, v0, w0, w1, w2, w3] h = zcall d a [v0, v1, v2] h (zK (zAl m a) m Q (zwp (zcall d) m Q) r L [w0, w1, w2, w3]) := by rw [zw]; exact z_and2 (Nat.le_of_ble_eq_true rfl) (Nat.le_of_ble_eq_true rfl)
theorem r_inv_4_0 : zwp (zcall d) m Q (.invokeinterface a 4 :: r) L [v3, v2, v1, v0] h = zcall d a [v0, v1, v2, v3] h (zK (zAl m a) m Q (zwp (zcall d) m Q) r L []) := by rw [zw]; exact z_and2 (Nat.le_of_ble_eq_true rfl) (Nat.le_of_ble_eq_true rfl)
theorem r_inv_4_1 {w0 : Value} : zwp (zcall d) m Q (.invokeinterface a 4 :: r) L [v3, v2, v1, v0, w0] h = zcall d a [v0, v1, v2, v3] h (zK (zAl m a) m Q (zwp (zcall d) m Q) r L [w0]) := by rw [zw]; exact z_and2 (Nat.le_of_ble_eq_true rfl) (Nat.le_of_ble_eq_true rfl)
theorem r_inv_4_2 {w0 w1 : Value} : zwp (zcall d) m Q (.invokeinterface a 4 :: r) L [v3, v2, v1, v0, w0, w1] h = zcall d a [v0, v1, v2, v3] h (zK (zAl m a) m Q (zwp (zcall d) m Q) r L [w0, w1]) := by rw [zw]; exact z_and2 (Nat.le_of_ble_eq_true rfl) (Nat.le_of_ble_eq_true rfl)
theorem r_inv_4_3 {w0 w1 w2 : Value} : zwp (zcall d) m Q (.invokeinterface a 4 :: r) L [v3, v2, v1, v0, w0, w1, w2] h = zcall d a [v0, v1, v2, v3] h (zK (zAl m a) m Q (zwp (zcall d) m Q) r L [w0, w1, w2]) := by rw [zw]; exact z_and2 (Nat.le_of_ble_eq_true rfl) (Nat.le_of_ble_eq_true rfl)
theorem r_inv_4_4 {w0 w1 w2 w3 : Value} : zwp (zcall d) m Q (.invokeinterface a 4 :: r) L [v3, v2, v1, v0, w0, w1, w2, w3] h = zcall d a [v0, v1, v2, v3] h (zK (zAl m a) m Q (zwp (zcall d) m Q) r L [w0, w1, w2, w3]) := by rw [zw]; exact z_and2 (Nat.le_of_ble_eq_true rfl) (Nat.le_of_ble_eq_true rfl)
theorem r_inv_5_0 : zwp (zcall d) m Q (.invokeinterface a 5 :: r) L [v4, v3, v2, v1, v0] h = zcall d a [v0, v1, v2, v3, v4] h (zK (zAl m a) m Q (zwp (zcall d) m Q) r L []) := by rw [zw]; exact z_and2 (Nat.le_of_ble_eq_true rfl) (Nat.le_of_ble_eq_true rfl)
theorem r_inv_5_1 {w0 : Value} : zwp (zcall d) m Q (.invokeinterface a 5 :: r) L [v4, v3, v2, v1, v0, w0] h = zcall d a [v0, v1, v2, v3, v4] h (zK (zAl m a) m Q (zwp (zcall d) m Q) r L [w0]) := by rw [zw]; exact z_and2 (Nat.le_of_ble_eq_true rfl) (Nat.le_of_ble_eq_true rfl)
theorem r_inv_5_2 {w0 w1 : Value} : zwp (zcall d) m Q (.invokeinterface a 5 :: r) L [v4, v3, v2, v1, v0, w0, w1] h = zcall d a [v0, v1, v2, v3, v4] h (zK (zAl m a) m Q (zwp (zcall d) m Q) r L [w0, w1]) := by rw [zw]; exact z_and2 (Nat.le_of_ble_eq_true rfl) (Nat.le_of_ble_eq_true rfl)
theorem r_inv_5_3 {w0 w1 w2 : Value} : zwp (zcall d) m Q (.invokeinterface a 5 :: r) L [v4, v3, v2, v1, v0, w0, w1, w2] h = zcall d a [v0, v1, v2, v3, v4] h (zK (zAl m a) m Q (zwp (zcall d) m Q) r L [w0, w1, w2]) := by rw [zw]; exact z_and2 (Nat.le_of_ble_eq_true rfl) (Nat.le_of_ble_eq_true rfl)
theorem r_inv_5_4 {w0 w1 w2 w3 : Value} : zwp (zcall d) m Q (.invokeinterface a 5 :: r) L [v4, v3, v2, v1, v0, w0, w1, w2, w3] h = zcall d a [v0, v1, v2, v3, v4] h (zK (zAl m a) m Q (zwp (zcall d) m Q) r L [w0, w1, w2, w3]) := by rw [zw]; exact z_and2 (Nat.le_of_ble_eq_true rfl) (Nat.le_of_ble_eq_true rfl)
theorem r_inv_6_0 : zwp (zcall d) m Q (.invokeinterface a 6 :: r) L [v5, v4, v3, v2, v1, v0] h = zcall d a [v0, v1, v2, v3, v4, v5] h (zK (zAl m a) m Q (zwp (zcall d) m Q) r L []) := by rw [zw]; exact z_and2 (Nat.le_of_ble_eq_true rfl) (Nat.le_of_ble_eq_true rfl)
theorem r_inv_6_1 {w0 : Value} : zwp (zcall d) m Q (.invokeinterface a 6 :: r) L [v5, v4, v3, v2, v1, v0, w0] h = zcall d a [v0, v1, v2, v3, v4, v5] h (zK (zAl m a) m Q (zwp (zcall d) m Q) r L [w0]) := by rw [zw]; exact z_and2 (Nat.le_of_ble_eq_true rfl) (Nat.le_of_ble_eq_true rfl)
theorem r_inv_6_2 {w0 w1 : Value} : zwp (zcall d) m Q (.invokeinterface a 6 :: r) L [v5, v4, v3, v2, v1, v0, w0, w1] h = zcall d a [v0, v1, v2, v3, v4, v5] h (zK (zAl m a) m Q (zwp (zcall d) m Q) r L [w0, w1]) := by rw [zw]; exact z_and2 (Nat.le_of_ble_eq_true rfl) (Nat.le_of_ble_eq_true rfl)
theorem r_inv_6_3 {w0 w1 w2 : Value} : zwp (zcall d) m Q (.invokeinterface a 6 :: r) L [v5, v4, v3, v2, v1, v0, w0, w1, w2] h = zcall d a [v0, v1, v2, v3, v4, v5] h (zK (zAl m a) m Q (zwp (zcall d) m Q) r L [w0, w1, w2]) := by rw [zw]; exact z_and2 (Nat.le_of_ble_eq_true rfl) (Nat.le_of_ble_eq_true rfl)
theorem r_inv_6_4 {w0 w1 w2 w3 : Value} : zwp (zcall d) m Q (.invokeinterface a 6 :: r) L [v5, v4, v3, v2, v1, v0, w0, w1, w2, w3] h = zcall d a [v0, v1, v2, v3, v4, v5] h (zK (zAl m a) m Q (zwp (zcall d) m Q) r L [w0, w1, w2, w3]) := by rw [zw]; exact z_and2 (Nat.le_of_ble_eq_true rfl) (Nat.le_of_ble_eq_true rfl)
theorem r_inv_7_0 : zwp (zcall d) m Q (.invokeinterface a 7 :: r) L [v6, v5, v4, v3, v2, v1, v0] h = zcall d a [v0, v1, v2, v3, v4, v5, v6] h (zK (zAl m a) m Q (zwp (zcall d) m Q) r L []) := by rw [zw]; exact z_and2 (Nat.le_of_ble_eq_true rfl) (Nat.le_of_ble_eq_true rfl)
theorem r_inv_7_1 {w0 : Value} : zwp (zcall d) m Q (.invokeinterface a 7 :: r) L [v6, v5, v4, v3, v2, v1, v0, w0] h = zcall d a [v0, v1, v2, v3, v4, v5, v6] h (zK (zAl m a) m Q (zwp (zcall d) m Q) r L [w0]) := by rw [zw]; exact z_and2 (Nat.le_of_ble_eq_true rfl) (Nat.le_of_ble_eq_true rfl)
theorem r_inv_7_2 {w0 w1 : Value} : zwp (zcall d) m Q (.invokeinterface a 7 :: r) L [v6, v5, v4, v3, v2, v1, v0, w0, w1] h = zcall d a [v0, v1, v2, v3, v4, v5, v6] h (zK (zAl m a) m Q (zwp (zcall d) m Q) r L [w0, w1]) := by rw [zw]; exact z_and2 (Nat.le_of_ble_eq_true rfl) (Nat.le_of_ble_eq_true rfl)
theorem r_inv_7_3 {w0 w1 w2 : Value} : zwp (zcall d) m Q (.invokeinterface a 7 :: r) L [v6, v5, v4, v3, v2, v1, v0, w0, w1, w2] h = zcall d a [v0, v1, v2, v3, v4, v5, v6] h (zK (zAl m a) m Q (zwp (zcall d) m Q) r L [w0, w1, w2]) := by rw [zw]; exact z_and2 (Nat.le_of_ble_eq_true rfl) (Nat.le_of_ble_eq_true rfl)
theorem r_inv_7_4 {w0 w1 w2 w3 : Value} : zwp (zcall d) m Q (.invokeinterface a 7 :: r) L [v6, v5, v4, v3, v2, v1, v0, w0, w1, w2, w3] h = zcall d a [v0, v1, v2, v3, v4, v5, v6] h (zK (zAl m a) m Q (zwp (zcall d) m Q) r L [w0, w1, w2, w3]) := by rw [zw]; exact z_and2 (Nat.le_of_ble_eq_true rfl) (Nat.le_of_ble_eq_true rfl)
theorem r_disp_0_0_0 (ht : s.tg a = 0) : zwp (zcall d) m Q (.invokevirtual 0 :: r) L [v5, v4, v3, v2, v1, .ref a] (s, V) = zcall d 3 [.ref a, v1, v2, v3, v4, v5] (s, V) (zK false m Q (zwp (zcall d) m Q) r L []) := by
  rw [zw]
  refine propext ⟨fun q => ?_, fun q => ⟨Nat.le_of_ble_eq_true rfl, Nat.le_of_ble_eq_true rfl, a, 3, rfl, by show zDisp 0 (s.tg a) = _; rw [ht]; rfl, q⟩⟩
  obtain ⟨-, -, b, y, e1, e2, q⟩ := q
  cases e1
  have e2 : zDisp 0 (s.tg a) = some y := e2
  rw [ht] at e2
  cases e2
  exact q
theorem r_disp_0_0_1 {w0 : Value} (ht : s.tg a = 0) : zwp (zcall d) m Q (.invokevirtual 0 :: r) L [v5, v4, v3, v2, v1, .ref a, w0] (s, V) = zcall d 3 [.ref a, v1, v2, v3, v4, v5] (s, V) (zK false m Q (zwp (zcall d) m Q) r L [w0]) := by
  rw [zw]
  refine propext ⟨fun q => ?_, fun q => ⟨Nat.le_of_ble_eq_true rfl, Nat.le_of_ble_eq_true rfl, a, 3, rfl, by show zDisp 0 (s.tg a) = _; rw [ht]; rfl, q⟩⟩
  obtain ⟨-, -, b, y, e1, e2, q⟩ := q
  cases e1
  have e2 : zDisp 0 (s.tg a) = some y := e2
  rw [ht] at e2
  cases e2
  exact q
theorem r_disp_0_0_2 {w0 w1 : Value} (ht : s.tg a = 0) : zwp (zcall d) m Q (.invokevirtual 0 :: r) L [v5, v4, v3, v2, v1, .ref a, w0, w1] (s, V) = zcall d 3 [.ref a, v1, v2, v3, v4, v5] (s, V) (zK false m Q (zwp (zcall d) m Q) r L [w0, w1]) := by
  rw [zw]
  refine propext ⟨fun q => ?_, fun q => ⟨Nat.le_of_ble_eq_true rfl, Nat.le_of_ble_eq_true rfl, a, 3, rfl, by show zDisp 0 (s.tg a) = _; rw [ht]; rfl, q⟩⟩
  obtain ⟨-, -, b, y, e1, e2, q⟩ := q
  cases e1
  have e2 : zDisp 0 (s.tg a) = some y := e2
  rw [ht] at e2
  cases e2
  exact q
theorem r_disp_0_5_0 (ht : s.tg a = 5) : zwp (zcall d) m Q (.invokevirtual 0 :: r) L [v5, v4, v3, v2, v1, .ref a] (s, V) = zcall d 48 [.ref a, v1, v2, v3, v4, v5] (s, V) (zK false m Q (zwp (zcall d) m Q) r L []) := by
  rw [zw]
  refine propext ⟨fun q => ?_, fun q => ⟨Nat.le_of_ble_eq_true rfl, Nat.le_of_ble_eq_true rfl, a, 48, rfl, by show zDisp 0 (s.tg a) = _; rw [ht]; rfl, q⟩⟩
  obtain ⟨-, -, b, y, e1, e2, q⟩ := q
  cases e1
  have e2 : zDisp 0 (s.tg a) = some y := e2
  rw [ht] at e2
  cases e2
  exact q
theorem r_disp_0_5_1 {w0 : Value} (ht : s.tg a = 5) : zwp (zcall d) m Q (.invokevirtual 0 :: r) L [v5, v4, v3, v2, v1, .ref a, w0] (s, V) = zcall d 48 [.ref a, v1, v2, v3, v4, v5] (s, V) (zK false m Q (zwp (zcall d) m Q) r L [w0]) := by
  rw [zw]
  refine propext ⟨fun q => ?_, fun q => ⟨Nat.le_of_ble_eq_true rfl, Nat.le_of_ble_eq_true rfl, a, 48, rfl, by show zDisp 0 (s.tg a) = _; rw [ht]; rfl, q⟩⟩
  obtain ⟨-, -, b, y, e1, e2, q⟩ := q
  cases e1
  have e2 : zDisp 0 (s.tg a) = some y := e2
  rw [ht] at e2
  cases e2
  exact q
theorem r_disp_0_5_2 {w0 w1 : Value} (ht : s.tg a = 5) : zwp (zcall d) m Q (.invokevirtual 0 :: r) L [v5, v4, v3, v2, v1, .ref a, w0, w1] (s, V) = zcall d 48 [.ref a, v1, v2, v3, v4, v5] (s, V) (zK false m Q (zwp (zcall d) m Q) r L [w0, w1]) := by
  rw [zw]
  refine propext ⟨fun q => ?_, fun q => ⟨Nat.le_of_ble_eq_true rfl, Nat.le_of_ble_eq_true rfl, a, 48, rfl, by show zDisp 0 (s.tg a) = _; rw [ht]; rfl, q⟩⟩
  obtain ⟨-, -, b, y, e1, e2, q⟩ := q
  cases e1
  have e2 : zDisp 0 (s.tg a) = some y := e2
  rw [ht] at e2
  cases e2
  exact q
theorem r_disp_1_0_0 (ht : s.tg a = 0) : zwp (zcall d) m Q (.invokevirtual 1 :: r) L [v4, v3, v2, v1, .ref a] (s, V) = zcall d 4 [.ref a, v1, v2, v3, v4] (s, V) (zK false m Q (zwp (zcall d) m Q) r L []) := by
  rw [zw]
  refine propext ⟨fun q => ?_, fun q => ⟨Nat.le_of_ble_eq_true rfl, Nat.le_of_ble_eq_true rfl, a, 4, rfl, by show zDisp 1 (s.tg a) = _; rw [ht]; rfl, q⟩⟩
  obtain ⟨-, -, b, y, e1, e2, q⟩ := q
  cases e1
  have e2 : zDisp 1 (s.tg a) = some y := e2
  rw [ht] at e2
  cases e2
  exact q
theorem r_disp_1_0_1 {w0 : Value} (ht : s.tg a = 0) : zwp (zcall d) m Q (.invokevirtual 1 :: r) L [v4, v3, v2, v1, .ref a, w0] (s, V) = zcall d 4 [.ref a, v1, v2, v3, v4] (s, V) (zK false m Q (zwp (zcall d) m Q) r L [w0]) := by
  rw [zw]
  refine propext ⟨fun q => ?_, fun q => ⟨Nat.le_of_ble_eq_true rfl, Nat.le_of_ble_eq_true rfl, a, 4, rfl, by show zDisp 1 (s.tg a) = _; rw [ht]; rfl, q⟩⟩
  obtain ⟨-, -, b, y, e1, e2, q⟩ := q
  cases e1
  have e2 : zDisp 1 (s.tg a) = some y := e2
  rw [ht] at e2
  cases e2
  exact q
theorem r_disp_1_0_2 {w0 w1 : Value} (ht : s.tg a = 0) : zwp (zcall d) m Q (.invokevirtual 1 :: r) L [v4, v3, v2, v1, .ref a, w0, w1] (s, V) = zcall d 4 [.ref a, v1, v2, v3, v4] (s, V) (zK false m Q (zwp (zcall d) m Q) r L [w0, w1]) := by
  rw [zw]
  refine propext ⟨fun q => ?_, fun q => ⟨Nat.le_of_ble_eq_true rfl, Nat.le_of_ble_eq_true rfl, a, 4, rfl, by show zDisp 1 (s.tg a) = _; rw [ht]; rfl, q⟩⟩
  obtain ⟨-, -, b, y, e1, e2, q⟩ := q
  cases e1
  have e2 : zDisp 1 (s.tg a) = some y := e2
  rw [ht] at e2
  cases e2
  exact q
theorem r_disp_1_5_0 (ht : s.tg a = 5) : zwp (zcall d) m Q (.invokevirtual 1 :: r) L [v4, v3, v2, v1, .ref a] (s, V) = zcall d 50 [.ref a, v1, v2, v3, v4] (s, V) (zK false m Q (zwp (zcall d) m Q) r L []) := by
  rw [zw]
  refine propext ⟨fun q => ?_, fun q => ⟨Nat.le_of_ble_eq_true rfl, Nat.le_of_ble_eq_true rfl, a, 50, rfl, by show zDisp 1 (s.tg a) = _; rw [ht]; rfl, q⟩⟩
  obtain ⟨-, -, b, y, e1, e2, q⟩ := q
  cases e1
  have e2 : zDisp 1 (s.tg a) = some y := e2
  rw [ht] at e2
  cases e2
  exact q
theorem r_disp_1_5_1 {w0 : Value} (ht : s.tg a = 5) : zwp (zcall d) m Q (.invokevirtual 1 :: r) L [v4, v3, v2, v1, .ref a, w0] (s, V) = zcall d 50 [.ref a, v1, v2, v3, v4] (s, V) (zK false m Q (zwp (zcall d) m Q) r L [w0]) := by
  rw [zw]
  refine propext ⟨fun q => ?_, fun q => ⟨Nat.le_of_ble_eq_true rfl, Nat.le_of_ble_eq_true rfl, a, 50, rfl, by show zDisp 1 (s.tg a) = _; rw [ht]; rfl, q⟩⟩
  obtain ⟨-, -, b, y, e1, e2, q⟩ := q
  cases e1
  have e2 : zDisp 1 (s.tg a) = some y := e2
  rw [ht] at e2
  cases e2
  exact q
theorem r_disp_1_5_2 {w0 w1 : Value} (ht : s.tg a = 5) : zwp (zcall d) m Q (.invokevirtual 1 :: r) L [v4, v3, v2, v1, .ref a, w0, w1] (s, V) = zcall d 50 [.ref a, v1, v2, v3, v4] (s, V) (zK false m Q (zwp (zcall d) m Q) r L [w0, w1]) := by
  rw [zw]
  refine propext ⟨fun q => ?_, fun q => ⟨Nat.le_of_ble_eq_true rfl, Nat.le_of_ble_eq_true rfl, a, 50, rfl, by show zDisp 1 (s.tg a) = _; rw [ht]; rfl, q⟩⟩
  obtain ⟨-, -, b, y, e1, e2, q⟩ := q
  cases e1
  have e2 : zDisp 1 (s.tg a) = some y := e2
  rw [ht] at e2
  cases e2
  exact q
theorem r_disp_2_0_0 (ht : s.tg a = 0) : zwp (zcall d) m Q (.invokevirtual 2 :: r) L [.ref a] (s, V) = zcall d 5 [.ref a] (s, V) (zK false m Q (zwp (zcall d) m Q) r L []) := by
  rw [zw]
  refine propext ⟨fun q => ?_, fun q => ⟨Nat.le_of_ble_eq_true rfl, Nat.le_of_ble_eq_true rfl, a, 5, rfl, by show zDisp 2 (s.tg a) = _; rw [ht]; rfl, q⟩⟩
  obtain ⟨-, -, b, y, e1, e2, q⟩ := q
  cases e1
  have e2 : zDisp 2 (s.tg a) = some y := e2
  rw [ht] at e2
  cases e2
  exact q
theorem r_disp_2_0_1 {w0 : Value} (ht : s.tg a = 0) : zwp (zcall d) m Q (.invokevirtual 2 :: r) L [.ref a, w0] (s, V) = zcall d 5 [.ref a] (s, V) (zK false m Q (zwp (zcall d) m Q) r L [w0]) := by
  rw [zw]
  refine propext ⟨fun q => ?_, fun q => ⟨Nat.le_of_ble_eq_true rfl, Nat.le_of_ble_eq_true rfl, a, 5, rfl, by show zDisp 2 (s.tg a) = _; rw [ht]; rfl, q⟩⟩
  obtain ⟨-, -, b, y, e1, e2, q⟩ := q
  cases e1
  have e2 : zDisp 2 (s.tg a) = some y := e2
  rw [ht] at e2
  cases e2
  exact q
theorem r_disp_2_0_2 {w0 w1 : Value} (ht : s.tg a = 0) : zwp (zcall d) m Q (.invokevirtual 2 :: r) L [.ref a, w0, w1] (s, V) = zcall d 5 [.ref a] (s, V) (zK false m Q (zwp (zcall d) m Q) r L [w0, w1]) := by
  rw [zw]
  refine propext ⟨fun q => ?_, fun q => ⟨Nat.le_of_ble_eq_true rfl, Nat.le_of_ble_eq_true rfl, a, 5, rfl, by show zDisp 2 (s.tg a) = _; rw [ht]; rfl, q⟩⟩
  obtain ⟨-, -, b, y, e1, e2, q⟩ := q
  cases e1
  have e2 : zDisp 2 (s.tg a) = some y := e2
  rw [ht] at e2
  cases e2
  exact q
theorem r_disp_2_5_0 (ht : s.tg a = 5) : zwp (zcall d) m Q (.invokevirtual 2 :: r) L [.ref a] (s, V) = zcall d 51 [.ref a] (s, V) (zK false m Q (zwp (zcall d) m Q) r L []) := by
  rw [zw]
  refine propext ⟨fun q => ?_, fun q => ⟨Nat.le_of_ble_eq_true rfl, Nat.le_of_ble_eq_true rfl, a, 51, rfl, by show zDisp 2 (s.tg a) = _; rw [ht]; rfl, q⟩⟩
  obtain ⟨-, -, b, y, e1, e2, q⟩ := q
  cases e1
  have e2 : zDisp 2 (s.tg a) = some y := e2
  rw [ht] at e2
  cases e2
  exact q
theorem r_disp_2_5_1 {w0 : Value} (ht : s.tg a = 5) : zwp (zcall d) m Q (.invokevirtual 2 :: r) L [.ref a, w0] (s, V) = zcall d 51 [.ref a] (s, V) (zK false m Q (zwp (zcall d) m Q) r L [w0]) := by
  rw [zw]
  refine propext ⟨fun q => ?_, fun q => ⟨Nat.le_of_ble_eq_true rfl, Nat.le_of_ble_eq_true rfl, a, 51, rfl, by show zDisp 2 (s.tg a) = _; rw [ht]; rfl, q⟩⟩
  obtain ⟨-, -, b, y, e1, e2, q⟩ := q
  cases e1
  have e2 : zDisp 2 (s.tg a) = some y := e2
  rw [ht] at e2
  cases e2
  exact q
theorem r_disp_2_5_2 {w0 w1 : Value} (ht : s.tg a = 5) : zwp (zcall d) m Q (.invokevirtual 2 :: r) L [.ref a, w0, w1] (s, V) = zcall d 51 [.ref a] (s, V) (zK false m Q (zwp (zcall d) m Q) r L [w0, w1]) := by
  rw [zw]
  refine propext ⟨fun q => ?_, fun q => ⟨Nat.le_of_ble_eq_true rfl, Nat.le_of_ble_eq_true rfl, a, 51, rfl, by show zDisp 2 (s.tg a) = _; rw [ht]; rfl, q⟩⟩
  obtain ⟨-, -, b, y, e1, e2, q⟩ := q
  cases e1
  have e2 : zDisp 2 (s.tg a) = some y := e2
  rw [ht] at e2
  cases e2
  exact q
theorem r_K0 {al : Bool} {X : List Instr → List Value → List Value → zH → Prop} : zK al m Q X r L st (.inl none) h = X r L st h := rfl
theorem r_K1 {al : Bool} {X : List Instr → List Value → List Value → zH → Prop} {v : Value} : zK al m Q X r L st (.inl (some v)) h = X r L (v :: st) h := rfl
theorem r_KX {X : List Instr → List Value → List Value → zH → Prop} {al : Bool} {k : Nat} (hA : al = true) (hE : zE m k = none) : zK al m Q X r L st (.inr k) h = Q (.inr k) h := by unfold zK; simp only [hE, hA, true_and]
theorem r_ret (hr : zRk m = 0) : zwp (zcall d) m Q (.return_ :: r) L [] h = Q (.inl none) h := by rw [zw]; exact z_and2 hr rfl
theorem r_iret (hr : zRk m = 1) : zwp (zcall d) m Q (.ireturn :: r) L [zi x] h = Q (.inl (some (zi x))) h := by
  rw [zw]
  refine propext ⟨fun q => ?_, fun q => ⟨_, rfl, Or.inl hr, q⟩⟩
  obtain ⟨y, e1, -, q⟩ := q
  rw [show zi x = .int y from (List.cons.inj e1).1]
  exact q
theorem r_iretR {u : Int32} (hr : zRk m = 1) : zwp (zcall d) m Q (.ireturn :: r) L [.int u] h = Q (.inl (some (.int u))) h := by
  rw [zw]
  refine propext ⟨fun q => ?_, fun q => ⟨_, rfl, Or.inl hr, q⟩⟩
  obtain ⟨y, e1, -, q⟩ := q
  cases e1
  exact q
theorem r_bret_0 (hr : zRk m = 2) : zwp (zcall d) m Q (.ireturn :: r) L [zi 0] h = Q (.inl (some (zi 0))) h := by
  rw [zw]
  refine propext ⟨fun q => ?_, fun q => ⟨_, rfl, Or.inr ⟨hr, by first | exact Or.inl rfl | exact Or.inr rfl⟩, q⟩⟩
  obtain ⟨y, e1, -, q⟩ := q
  rw [show zi 0 = .int y from (List.cons.inj e1).1]
  exact q
theorem r_bret_1 (hr : zRk m = 2) : zwp (zcall d) m Q (.ireturn :: r) L [zi 1] h = Q (.inl (some (zi 1))) h := by
  rw [zw]
  refine propext ⟨fun q => ?_, fun q => ⟨_, rfl, Or.inr ⟨hr, by first | exact Or.inl rfl | exact Or.inr rfl⟩, q⟩⟩
  obtain ⟨y, e1, -, q⟩ := q
  rw [show zi 1 = .int y from (List.cons.inj e1).1]
  exact q
theorem r_bret (hr : zRk m = 2) (hx : x = 0 ∨ x = 1) : zwp (zcall d) m Q (.ireturn :: r) L [zi x] h = Q (.inl (some (zi x))) h := by rcases hx with rfl | rfl; exact r_bret_0 hr; exact r_bret_1 hr
theorem r_lreturn {u : Int64} (hr : zRk m = 3) : zwp (zcall d) m Q (.lreturn :: r) L [.long u] h = Q (.inl (some (.long u))) h := by
  rw [zw]
  refine propext ⟨fun q => ?_, fun q => ⟨hr, _, rfl, q⟩⟩
  obtain ⟨-, y, e1, q⟩ := q
  cases e1
  exact q
theorem r_dreturn {u : UInt64} (hr : zRk m = 4) : zwp (zcall d) m Q (.dreturn :: r) L [.double u] h = Q (.inl (some (.double u))) h := by
  rw [zw]
  refine propext ⟨fun q => ?_, fun q => ⟨hr, _, rfl, q⟩⟩
  obtain ⟨-, y, e1, q⟩ := q
  cases e1
  exact q
theorem r_lretI (hr : zRk m = 3) : zwp (zcall d) m Q (.lreturn :: r) L [zl x] h = Q (.inl (some (zl x))) h := r_lreturn hr
end
end
section
/-! SOUNDNESS, 1: how an abstract heap, values, locals stand for the machine's -/
def zG : Type := Heap × (Nat → Nat) × (Nat → Cell) × (Nat → ClassId) × (Nat → Nat → Nat) × (Nat → ClassId)
def zG.H0 (G : zG) : Heap := G.1
def zG.sa (G : zG) : Nat → Nat := G.2.1
def zG.cs (G : zG) : Nat → Cell := G.2.2.1
def zG.dC (G : zG) : Nat → ClassId := G.2.2.2.1
def zG.dI (G : zG) : Nat → Nat → Nat := G.2.2.2.2.1
def zG.cA (G : zG) : Nat → ClassId := G.2.2.2.2.2
def zG.base (G : zG) : Nat := G.H0.size
/-- the machine's address of an abstract one: 0 to 4 were there before -/
def zAdr (G : zG) (r : Nat) : Nat := if r < 5 then G.sa r else G.base + (r - 5)
def zCv (G : zG) (v : Value) : Value := match v with
  | .ref r => .ref (zAdr G r)
  | v => v
theorem zCv_cat (G : zG) (v : Value) : (zCv G v).category = v.category := by cases v <;> rfl
def zEt (t : Nat) : FieldType := [.int, .long, .double, .boolean, .array .int, .array .long, .object (zCn 7)].getD (t - 20) .int
def zTs (r : Nat) : Nat := [30, 30, 30, 31, 32].getD r 0
def zSty (r : Nat) : FieldType := if r = 3 then .long else .int
def zCell (G : zG) (t : Nat) (n : Int) (f : Int → Value) (a : Nat) (H : Heap) : Prop :=
  (t < 11 → t_OB a (G.dC t) (zNf t) (G.dI t) H (fun k => zCv G (f k))) ∧ (20 ≤ t → t ≤ 26 → 0 ≤ n ∧ H[a]? = some (arrV (G.cA t) n.toNat (fun j => zCv G (f j)))) ∧ (t = 20 → ∀ j : Int, 0 ≤ j → j < n → ∃ x : Int32, f j = .int x)
def zRel (G : zG) (h : zH) (H : Heap) : Prop :=
  (5 ≤ h.1.sz ∧ H.size = G.base + (h.1.sz - 5)) ∧ (∀ q : Nat, q < G.base → H[q]? = G.H0[q]?) ∧
  (∀ r, r < 5 → h.1.tg r = zTs r ∧ (∀ j : Int, 0 ≤ j → j < h.1.ln r → (G.cs r).slots[j.toNat]? = some (zCv G (h.2 r j))) ∧ h.1.ln r ≤ (G.cs r).slots.size ∧ (r = 4 → h.1.ln r = (G.cs r).slots.size)) ∧
  (∀ r, 5 ≤ r → r < h.1.sz → h.1.tg r ≤ 26 ∧ zCell G (h.1.tg r) (h.1.ln r) (h.2 r) (zAdr G r) H) ∧
  (∀ r, h.1.sz ≤ r → h.1.tg r = 99)
def zEn (k : Nat) : String := ["", "java/lang/IndexOutOfBoundsException", "java/lang/IllegalArgumentException", "java/lang/IllegalStateException"].getD k ""
def zEtx (k : Nat) : Nat × String := [(0, ""), (296, "there is no such service or call"), (303, "an argument is out of range"), (308, "this is not possible now")].getD k (0, "")
def zOld (G : zG) : Nat → Prop := fun q => G.base ≤ q
/-- what a state's tables, and the heap of the beginning, are known to hold -/
def zKn (G : zG) (U : State) : Prop :=
  (∀ r, r < 5 → G.sa r < G.base ∧ G.H0[G.sa r]? = some (G.cs r) ∧ U.isArrayOf (G.cs r) (zSty r) ∧ (G.cs r).vm ≠ .unknown) ∧
  (∀ t, t < 11 → t ≠ 6 → u_Kn U (zCn t) (zTx t) (zNf t) (G.dC t) (G.dI t)) ∧
  (∀ t, 20 ≤ t → t ≤ 26 → ArrOfT U (G.cA t) (zEt t) ∧ va_RA U (G.cA t) (zEt t)) ∧
  (∀ e ∈ zISN, va_Nw (.methodLinkNest (zCn e.1) e.2.1 (zYn e.2.2) (zCn 9)) U) ∧ (∀ e ∈ zIIN, va_Nw (.methodLinkNest (zCn e.1) e.2.1 (zYn e.2.2) (zCn 9)) U) ∧ (∀ e ∈ zIDd, va_Nw (.declares (zDy e)) U) ∧
  (va_AOA .int U ∧ va_AOA .long U ∧ va_AO (zCn 7) U) ∧
  (∀ n, n < 4 → va_Z (zSn n).1 (zSn n).2.1 (zSn n).2.2 (.ref (G.sa n)) (zOld G) U G.H0) ∧
  (∀ k, 1 ≤ k → k ≤ 3 → ∃ sa, vk_R (zCn 9) (zEtx k).1 (zEtx k).2 sa U) ∧
  (vx_Zq Bundle.tN "UNASSIGNED_STACK" Bundle.steD (zOld G) U G.H0 ∧ vx_Zq Bundle.tN "SUPPRESSED_SENTINEL" Bundle.listD (zOld G) U G.H0) ∧
  (∀ a b, 1 ≤ a → a ≤ 3 → 1 ≤ b → b ≤ 3 → a ≠ b → va_Nc (zEn a) (zEn b) U)
theorem zKn.warm {G : zG} {s U : State} (hW : s.WarmedH U.vm) (h : zKn G s) : zKn G U := by
  obtain ⟨h1, h2, h3, h4, h5, h6, h7, h8, h9, h10, h11⟩ := h
  have ha := hW.alike
  refine ⟨fun r hr => ⟨(h1 r hr).1, (h1 r hr).2.1, State.isArrayOf_alike ha (h1 r hr).2.2.1, (h1 r hr).2.2.2⟩, fun t ht h6 => u_Kn_moved ha (h2 t ht h6), fun t ht ht2 => ⟨arrOfT_moved ha (h3 t ht ht2).1, (h3 t ht ht2).2.moved ha⟩,
    fun e he => va_Nw.warmM hW (h4 e he), fun e he => va_Nw.warmM hW (h5 e he), fun e he => va_Nw.warmD hW (h6 e he), ⟨h7.1.moved ha, h7.2.1.moved ha, h7.2.2.moved ha⟩, fun n hn => va_Z.moved ha (h8 n hn),
    fun k hk hk2 => ?_, ⟨h10.1.moved ha, h10.2.moved ha⟩, fun a b q1 q2 q3 q4 q5 => (h11 a b q1 q2 q3 q4 q5).moved ha⟩
  obtain ⟨sa, q⟩ := h9 k hk hk2
  exact ⟨sa, vk_R.warm hW q⟩
/-! locals -/
def zLv (G : zG) (L : List Value) : List (Nat × Value) := (List.range L.length).filterMap (fun k => match L[k]? with
  | some v => if v = zJ then none else some (k, zCv G v)
  | none => none)
theorem zLv_mem {G : zG} {L : List Value} {q : Nat × Value} : q ∈ zLv G L ↔ ∃ v, L[q.1]? = some v ∧ v ≠ zJ ∧ q.2 = zCv G v := by
  unfold zLv
  rw [List.mem_filterMap]
  constructor
  · rintro ⟨k, hk, he⟩
    cases hL : L[k]? with
    | none => rw [hL] at he; simp at he
    | some v =>
      rw [hL] at he
      dsimp only at he
      split at he
      · simp at he
      · rename_i hv
        have e := Option.some.inj he
        subst e
        exact ⟨v, hL, hv, rfl⟩
  · rintro ⟨v, h1, h2, h3⟩
    refine ⟨q.1, List.mem_range.mpr (List.getElem?_eq_some_iff.mp h1).1, ?_⟩
    rw [h1]
    dsimp only
    rw [if_neg h2, ← h3]
def zLR (G : zG) (ls : Array Slot) (nL : Nat) (L : List Value) : Prop := L.length = nL ∧ lv_has ls nL (zLv G L)
theorem zLR.at {G : zG} {ls : Array Slot} {nL : Nat} {L : List Value} (h : zLR G ls nL L) {k : Nat} {v : Value} (hk : L[k]? = some v) (hv : v ≠ zJ) : ls[k]? = some (.val (zCv G v)) :=
  h.2.2.2 (k, zCv G v) (zLv_mem.mpr ⟨v, hk, hv, rfl⟩)
theorem zPrev_at {L : List Value} {k j : Nat} {v : Value} (h : zPrev L k = true) (hj : j + 1 = k) (hv : L[j]? = some v) : v.category = 1 := by
  subst hj
  unfold zPrev at h
  rw [List.getD_eq_getElem?_getD, hv] at h
  simpa using h
theorem zLR.set1 {G : zG} {ls : Array Slot} {nL k : Nat} {L : List Value} {u : Value} (h : zLR G ls nL L) (hk : k < L.length) (hp : zPrev L k = true) {ls' : Array Slot}
    (h' : lv_has ls' nL ((k, zCv G u) :: (zLv G L).filter (fun q => !(q.1 == k) && !(q.1 + 1 == k && q.2.category == 2)))) : zLR G ls' nL (L.set k u) := by
  refine ⟨by rw [List.length_set]; exact h.1, h'.1, h'.2.1, fun q hq => ?_⟩
  obtain ⟨v, h1, h2, h3⟩ := zLv_mem.mp hq
  refine h'.2.2 q ?_
  by_cases e : q.1 = k
  · rw [e, List.getElem?_set_self hk] at h1
    have e1 : q = (k, zCv G u) := by rw [← Option.some.inj h1] at h3; exact Prod.ext e h3
    rw [e1]
    exact List.mem_cons_self
  · rw [List.getElem?_set_ne (Ne.symm e)] at h1
    refine List.mem_cons_of_mem _ (List.mem_filter.mpr ⟨zLv_mem.mpr ⟨v, h1, h2, h3⟩, ?_⟩)
    have e2 : (q.1 == k) = false := by simpa using e
    by_cases e3 : q.1 + 1 = k
    · have h4 := zPrev_at hp e3 h1
      have h5 : (q.2.category == 2) = false := by rw [h3, zCv_cat, h4]; rfl
      simp [e2, h5]
    · have e4 : (q.1 + 1 == k) = false := by simpa using e3
      simp [e2, e4]
theorem zLR.set2 {G : zG} {ls : Array Slot} {nL k : Nat} {L : List Value} {u : Value} (h : zLR G ls nL L) (hk : k + 1 < L.length) (hp : zPrev L k = true) {ls' : Array Slot}
    (h' : lv_has ls' nL ((k, zCv G u) :: (zLv G L).filter (fun q => !(q.1 == k) && (!(q.1 == k + 1) && !(q.1 + 1 == k && q.2.category == 2))))) : zLR G ls' nL ((L.set k u).set (k + 1) zJ) := by
  refine ⟨by rw [List.length_set, List.length_set]; exact h.1, h'.1, h'.2.1, fun q hq => ?_⟩
  obtain ⟨v, h1, h2, h3⟩ := zLv_mem.mp hq
  refine h'.2.2 q ?_
  by_cases e0 : q.1 = k + 1
  · rw [e0, List.getElem?_set_self (by rw [List.length_set]; exact hk)] at h1
    exact absurd (Option.some.inj h1).symm h2
  rw [List.getElem?_set_ne (Ne.symm e0)] at h1
  by_cases e : q.1 = k
  · rw [e, List.getElem?_set_self (by omega)] at h1
    have e1 : q = (k, zCv G u) := by rw [← Option.some.inj h1] at h3; exact Prod.ext e h3
    rw [e1]
    exact List.mem_cons_self
  · rw [List.getElem?_set_ne (Ne.symm e)] at h1
    refine List.mem_cons_of_mem _ (List.mem_filter.mpr ⟨zLv_mem.mpr ⟨v, h1, h2, h3⟩, ?_⟩)
    have e2 : (q.1 == k) = false := by simpa using e
    have e5 : (q.1 == k + 1) = false := by simpa using e0
    by_cases e3 : q.1 + 1 = k
    · have h4 := zPrev_at hp e3 h1
      have h5 : (q.2.category == 2) = false := by rw [h3, zCv_cat, h4]; rfl
      simp [e2, e5, h5]
    · have e4 : (q.1 + 1 == k) = false := by simpa using e3
      simp [e2, e4, e5]
theorem zLR.junk {G : zG} {ls : Array Slot} {nL k : Nat} {L : List Value} (h : zLR G ls nL L) : zLR G ls nL (L.set k zJ) := by
  refine ⟨by rw [List.length_set]; exact h.1, h.2.1, h.2.2.1, fun q hq => ?_⟩
  obtain ⟨v, h1, h2, h3⟩ := zLv_mem.mp hq
  by_cases e : q.1 = k
  · by_cases hk : k < L.length
    · rw [e, List.getElem?_set_self hk] at h1
      exact absurd (Option.some.inj h1).symm h2
    · rw [e, List.getElem?_eq_none (by rw [List.length_set]; omega)] at h1
      cases h1
  · rw [List.getElem?_set_ne (Ne.symm e)] at h1
    exact h.2.2.2 q (zLv_mem.mpr ⟨v, h1, h2, h3⟩)
/-! heap: reading and writing through zRel -/
theorem zAdr_inj {G : zG} {r r' : Nat} (h : 5 ≤ r) (h' : 5 ≤ r') (e : zAdr G r = zAdr G r') : r = r' := by
  unfold zAdr at e
  rw [if_neg (by omega), if_neg (by omega)] at e
  omega
theorem zAdr_base {G : zG} {r : Nat} (h : 5 ≤ r) : G.base ≤ zAdr G r := by
  unfold zAdr
  rw [if_neg (by omega)]
  omega
theorem zAdr_lo {G : zG} {r : Nat} (h : r < 5) : zAdr G r = G.sa r := if_pos h
/-- where the tag tells an object or a row of ours -/
theorem zRel.cell {G : zG} {h : zH} {H : Heap} (hR : zRel G h H) {r t : Nat} (ht : h.1.tg r = t) (h1 : t ≤ 26) : 5 ≤ r ∧ r < h.1.sz ∧ zCell G t (h.1.ln r) (h.2 r) (zAdr G r) H := by
  obtain ⟨⟨g1, g2⟩, g3, g4, g5, g6⟩ := hR
  have hlo : 5 ≤ r := by
    rcases Nat.lt_or_ge r 5 with q | q
    · have := (g4 r q).1
      rw [ht] at this
      have h2 : 30 ≤ zTs r := by
        rcases (by omega : r = 0 ∨ r = 1 ∨ r = 2 ∨ r = 3 ∨ r = 4) with rfl | rfl | rfl | rfl | rfl <;> decide
      omega
    · exact q
  have hhi : r < h.1.sz := by
    rcases Nat.lt_or_ge r h.1.sz with q | q
    · exact q
    · have := g6 r q
      omega
  have := (g5 r hlo hhi).2
  rw [ht] at this
  exact ⟨hlo, hhi, this⟩
theorem zRel.stat {G : zG} {h : zH} {H : Heap} (hR : zRel G h H) {r : Nat} (ht : 30 ≤ h.1.tg r) (ht2 : h.1.tg r ≠ 99) : r < 5 := by
  rcases Nat.lt_or_ge r 5 with q | q
  · exact q
  · rcases Nat.lt_or_ge r h.1.sz with q2 | q2
    · have := (hR.2.2.2.1 r q q2).1
      omega
    · exact absurd (hR.2.2.2.2 r q2) ht2
/-- a cell of ours is written: contents change at r alone -/
theorem zRel.write {G : zG} {h : zH} {H H' : Heap} {r : Nat} {f : Int → Value} (hR : zRel G h H) (h5 : 5 ≤ r) (hs : r < h.1.sz) (hz : H'.size = H.size) (ho : ∀ q : Nat, q ≠ zAdr G r → H'[q]? = H[q]?) (hc : zCell G (h.1.tg r) (h.1.ln r) f (zAdr G r) H') {V' : zV} (hV : V' r = f) (hV2 : ∀ r', r' ≠ r → V' r' = h.2 r') : zRel G (h.1, V') H' := by
  obtain ⟨⟨g1, g2⟩, g3, g4, g5, g6⟩ := hR
  have hb := zAdr_base (G := G) h5
  refine ⟨⟨g1, by rw [hz]; exact g2⟩, fun q hq => by rw [ho q (by omega)]; exact g3 q hq, fun r' hr' => ?_, fun r' h5' hs' => ⟨(g5 r' h5' hs').1, ?_⟩, g6⟩
  · have e : V' r' = h.2 r' := hV2 r' (by omega)
    have := g4 r' hr'
    dsimp only
    rw [e]
    exact this
  · by_cases e : r' = r
    · subst e
      dsimp only
      rw [hV]
      exact hc
    · dsimp only
      rw [hV2 r' e]
      have h2 := (g5 r' h5' hs').2
      have hq : H'[zAdr G r']? = H[zAdr G r']? := ho _ (fun q => e (zAdr_inj h5' h5 q))
      exact ⟨fun ht => (h2.1 ht).kept hq, fun a b => ⟨(h2.2.1 a b).1, by rw [hq]; exact (h2.2.1 a b).2⟩, h2.2.2⟩
/-- a cell is made -/
theorem zRel.made {G : zG} {h : zH} {H : Heap} {cell : Cell} {t : Nat} {n : Int} {k : Nat} {f : Int → Value} (hR : zRel G h H) (ht : t ≤ 26) (hc : ∀ H' : Heap, H'[zAdr G h.1.sz]? = some cell → zCell G t n f (zAdr G h.1.sz) H') : zRel G (zHnew h t n k f) (H.push cell) := by
  obtain ⟨⟨g1, g2⟩, g3, g4, g5, g6⟩ := hR
  have ea : zAdr G h.1.sz = H.size := by
    unfold zAdr
    rw [if_neg (by omega), g2]
  have hold : ∀ q : Nat, q < H.size → (H.push cell)[q]? = H[q]? := fun q hq => by
    rw [Array.getElem?_push, if_neg (by omega)]
  have hsz : ((zHnew h t n k f).1).sz = h.1.sz + 1 := rfl
  have tgE : ∀ r, ((zHnew h t n k f).1).tg r = if r = h.1.sz then t else h.1.tg r := fun _ => rfl
  have lnE : ∀ r, ((zHnew h t n k f).1).ln r = if r = h.1.sz then n else h.1.ln r := fun _ => rfl
  have vE : ∀ r, (zHnew h t n k f).2 r = if r = h.1.sz then f else h.2 r := fun _ => rfl
  refine ⟨⟨by rw [hsz]; omega, by rw [Array.size_push, hsz]; omega⟩, fun q hq => by rw [hold q (by omega)]; exact g3 q hq, fun r hr => ?_, fun r h5 hs => ?_, fun r hr => ?_⟩
  · rw [tgE, lnE, vE, if_neg (by omega), if_neg (by omega), if_neg (by omega)]
    exact g4 r hr
  · rw [tgE, lnE, vE]
    rw [hsz] at hs
    by_cases e : r = h.1.sz
    · subst e
      rw [if_pos rfl, if_pos rfl, if_pos rfl]
      exact ⟨ht, hc _ (by rw [ea]; simp)⟩
    · rw [if_neg e, if_neg e, if_neg e]
      have h2 := g5 r h5 (by omega)
      have hq : (H.push cell)[zAdr G r]? = H[zAdr G r]? := hold _ (by unfold zAdr; rw [if_neg (by omega)]; omega)
      exact ⟨h2.1, fun q => (h2.2.1 q).kept hq, fun a b => ⟨(h2.2.2.1 a b).1, by rw [hq]; exact (h2.2.2.1 a b).2⟩, h2.2.2.2⟩
  · rw [tgE]
    rw [hsz] at hr
    rw [if_neg (by omega)]
    exact g6 r (by omega)
theorem zAdr_sz {G : zG} {h : zH} {H : Heap} (hR : zRel G h H) : zAdr G h.1.sz = H.size := by
  obtain ⟨⟨g1, g2⟩, -⟩ := hR
  unfold zAdr
  rw [if_neg (by omega), g2]
end
section
/-! SOUNDNESS, 2: the answer of a call is one; instructions one by one; written by wip/whole/gen_sound.py -/
def zRes (C : Nat → List Value → zH → (zO → zH → Prop) → Prop) : Prop := ∀ (y : Nat) (as : List Value) (h : zH) (K : zO → zH → Prop), C y as h K → ∃ o h', C y as h (fun o2 h2 => o2 = o ∧ h2 = h') ∧ K o h'
theorem zK_res {al : Bool} {m : Nat} {Q : zO → zH → Prop} {X : List Instr → List Value → List Value → zH → Prop} {Y : zO → zH → List Instr → List Value → List Value → zH → Prop} (hX : ∀ c L st h, X c L st h → ∃ o h', Y o h' c L st h ∧ Q o h') {r : List Instr} {L st : List Value} {o1 : zO} {h1 : zH} (hk : zK al m Q X r L st o1 h1) : ∃ o h', zK al m (fun o2 h2 => o2 = o ∧ h2 = h') (Y o h') r L st o1 h1 ∧ Q o h' := by
  match o1 with
  | .inl none => exact hX _ _ _ _ hk
  | .inl (some v) => exact hX _ _ _ _ hk
  | .inr k =>
    unfold zK at hk
    dsimp only at hk
    obtain ⟨ha, hk⟩ := hk
    split at hk
    · rename_i e
      refine ⟨.inr k, h1, ?_, hk⟩
      unfold zK
      dsimp only
      rw [e]
      exact ⟨ha, rfl, rfl⟩
    · rename_i lb e
      split at hk
      · rename_i j r2 e2
        obtain ⟨o, h', a, b⟩ := hX _ _ _ _ hk
        refine ⟨o, h', ?_, b⟩
        unfold zK
        dsimp only
        rw [e]
        dsimp only
        rw [e2]
        exact ⟨ha, a⟩
      · exact hk.elim
theorem zwp_res {C : Nat → List Value → zH → (zO → zH → Prop) → Prop} (hC : zMono C) (hS : zRes C) {m : Nat} {Q : zO → zH → Prop} {c : List Instr} {L st : List Value} {h : zH} (hw : zwp C m Q c L st h) : ∃ o h', zwp C m (fun o2 h2 => o2 = o ∧ h2 = h') c L st h ∧ Q o h' := by
  refine hw (fun c L st h => ∃ o h', zwp C m (fun o2 h2 => o2 = o ∧ h2 = h') c L st h ∧ Q o h') ?_
  intro c L st h hf
  unfold zF at hf
  split at hf
  · exact hf.elim
  · rename_i i r
    split at hf
    · obtain ⟨a1, a2, a3⟩ := hf
      obtain ⟨o1, h1, b1, b2⟩ := hS _ _ _ _ a3
      obtain ⟨o, h', c1, c2⟩ := zK_res (Y := fun o h' => zwp C m (fun o2 h2 => o2 = o ∧ h2 = h')) (fun _ _ _ _ q => q) b2
      refine ⟨o, h', zwp_in hC ?_, c2⟩
      exact ⟨a1, a2, hC _ _ _ _ _ (fun o2 h2 q => by rw [q.1, q.2]; exact c1) b1⟩
    · obtain ⟨a1, a2, a, y, a3, a4, a5⟩ := hf
      obtain ⟨o1, h1, b1, b2⟩ := hS _ _ _ _ a5
      obtain ⟨o, h', c1, c2⟩ := zK_res (Y := fun o h' => zwp C m (fun o2 h2 => o2 = o ∧ h2 = h')) (fun _ _ _ _ q => q) b2
      refine ⟨o, h', zwp_in hC ?_, c2⟩
      exact ⟨a1, a2, a, y, a3, a4, hC _ _ _ _ _ (fun o2 h2 q => by rw [q.1, q.2]; exact c1) b1⟩
    · exact ⟨_, h, zwp_in hC ⟨hf.1, hf.2.1, rfl, rfl⟩, hf.2.2⟩
    · obtain ⟨x, h1, h2, h3⟩ := hf
      exact ⟨_, h, zwp_in hC ⟨x, h1, h2, rfl, rfl⟩, h3⟩
    · obtain ⟨h1, x, h2, h3⟩ := hf
      exact ⟨_, h, zwp_in hC ⟨h1, x, h2, rfl, rfl⟩, h3⟩
    · obtain ⟨h1, x, h2, h3⟩ := hf
      exact ⟨_, h, zwp_in hC ⟨h1, x, h2, rfl, rfl⟩, h3⟩
    · rename_i n1 n2 n3 n4 n5 n6
      split at hf
      · rename_i q e
        obtain ⟨o, h', a, b⟩ := hf
        refine ⟨o, h', zwp_in hC ?_, b⟩
        unfold zF
        dsimp only
        split
        · exact absurd rfl (n1 _ _)
        · exact absurd rfl (n2 _)
        · exact absurd rfl n3
        · exact absurd rfl n4
        · exact absurd rfl n5
        · exact absurd rfl n6
        · rw [e]
          exact a
      · exact hf.elim
theorem zcall_res : ∀ d, zRes (zcall d)
  | 0 => fun _ _ _ _ h => h.elim
  | d + 1 => by
    intro y as h K hc
    have hc : (if y = zRef then 5 ≤ d ∧ zRefuse as h K else if as.length = zNa y ∧ zRc y as h.1 = true then zwp (zcall d) y K (zB y 0) (as ++ List.replicate (zMl y - as.length) zJ) [] h else False) := hc
    show ∃ o h', (if y = zRef then 5 ≤ d ∧ zRefuse as h (fun o2 h2 => o2 = o ∧ h2 = h') else if as.length = zNa y ∧ zRc y as h.1 = true then zwp (zcall d) y (fun o2 h2 => o2 = o ∧ h2 = h') (zB y 0) (as ++ List.replicate (zMl y - as.length) zJ) [] h else False) ∧ K o h'
    by_cases e : y = zRef
    · rw [if_pos e] at hc
      obtain ⟨hd, hc⟩ := hc
      unfold zRefuse at hc
      split at hc
      · rename_i x
        by_cases e1 : x = 1
        · rw [if_pos e1] at hc
          exact ⟨_, _, by rw [if_pos e]; exact ⟨hd, by unfold zRefuse; dsimp only; rw [if_pos e1]; exact ⟨rfl, rfl⟩⟩, hc⟩
        · rw [if_neg e1] at hc
          by_cases e2 : x = 2
          · rw [if_pos e2] at hc
            exact ⟨_, _, by rw [if_pos e]; exact ⟨hd, by unfold zRefuse; dsimp only; rw [if_neg e1, if_pos e2]; exact ⟨rfl, rfl⟩⟩, hc⟩
          · rw [if_neg e2] at hc
            by_cases e3 : x = 3
            · rw [if_pos e3] at hc
              exact ⟨_, _, by rw [if_pos e]; exact ⟨hd, by unfold zRefuse; dsimp only; rw [if_neg e1, if_neg e2, if_pos e3]; exact ⟨rfl, rfl⟩⟩, hc⟩
            · rw [if_neg e3] at hc
              exact ⟨_, _, by rw [if_pos e]; exact ⟨hd, by unfold zRefuse; dsimp only; rw [if_neg e1, if_neg e2, if_neg e3]; exact ⟨rfl, rfl⟩⟩, hc⟩
      · exact hc.elim
    · rw [if_neg e] at hc
      by_cases e1 : as.length = zNa y ∧ zRc y as h.1 = true
      · rw [if_pos e1] at hc
        obtain ⟨o, h', a, b⟩ := zwp_res (zcall_mono d) (zcall_res d) hc
        exact ⟨o, h', by rw [if_neg e, if_pos e1]; exact a, b⟩
      · rw [if_neg e1] at hc
        exact hc.elim
/-! the check, read -/
theorem zChk_c {m pc : Nat} {i : Instr} {r : List Instr} (hi : ∀ l, i ≠ .goto_w l) (h : zChk m pc (i :: r) = true) : ∃ q ∈ zAlt m pc i, decode (zCd m) pc = .ok q ∧ zChk m (pc + q.2) r = true := by
  unfold zChk at h
  split at h
  · rename_i e
    cases e
  · rename_i l r2 e
    cases e
    exact absurd rfl (hi _)
  · rename_i i2 r2 n e
    cases e
    rw [Bool.and_eq_true] at h
    obtain ⟨q, hq, h2⟩ := List.any_eq_true.mp h.2
    rw [Bool.and_eq_true, decide_eq_true_eq] at h2
    exact ⟨q, hq, h2.1, h2.2⟩
theorem zChk_cov {m pc : Nat} {i : Instr} {r : List Instr} (hi : ∀ l, i ≠ .goto_w l) (h : zChk m pc (i :: r) = true) : zCovI m pc i = true := by
  unfold zChk at h
  split at h
  · rename_i e
    cases e
  · rename_i l r2 e
    cases e
    exact absurd rfl (hi _)
  · rename_i i2 r2 n e
    cases e
    rw [Bool.and_eq_true] at h
    exact h.1
theorem zChk_1 {m pc n : Nat} {i j : Instr} {r : List Instr} (hi : ∀ l, i ≠ .goto_w l) (ha : zAlt m pc i = [(j, n)]) (h : zChk m pc (i :: r) = true) : decode (zCd m) pc = .ok (j, n) ∧ zChk m (pc + n) r = true := by
  obtain ⟨q, hq, h1, h2⟩ := zChk_c hi h
  rw [ha] at hq
  have e := List.mem_singleton.mp hq
  subst e
  exact ⟨h1, h2⟩
theorem zPk_m {α : Type} {T : List α} {p : α → Bool} {f : α → Instr × Nat} {q : Instr × Nat} (h : q ∈ zPk T p f) : ∃ a ∈ T, p a = true ∧ f a = q := by
  obtain ⟨a, ha, e⟩ := List.mem_map.mp h
  exact ⟨a, (List.mem_filter.mp ha).1, (List.mem_filter.mp ha).2, e⟩
theorem zn4_m {f : Fin 4 → Instr} {k : Nat} {q : Instr × Nat} (h : q ∈ zn4 f k) : ∃ n : Fin 4, (n : Nat) = k ∧ q = (f n, 1) := by
  unfold zn4 at h
  split at h
  · rename_i hk
    exact ⟨⟨k, hk⟩, rfl, List.mem_singleton.mp h⟩
  · cases h
theorem zif_m {c : Prop} {hc : Decidable c} {a : List (Instr × Nat)} {q : Instr × Nat} (h : q ∈ (if c then a else [])) : c ∧ q ∈ a := by
  split at h
  · exact ⟨‹_›, h⟩
  · cases h
/-- what holds in a method's body all the way -/
def zCtx (G : zG) (m0 : Nat) (p : Program) (s : State) (mm : MethodId) (args : Array Value) (meth : Method) (cd : Code) : Prop :=
  p.tables.exec = Jvm.exec ∧ cd.code = zCd m0 ∧ meth.sig.returnType = zRt m0 ∧ cd.maxLocals = zMl m0 ∧ s.vm.findClass (zCn (zOw m0)) = some mm.cls ∧ (∀ w ∈ zGood, w.before args s = true) ∧ meth.locks = false ∧ (zKd m0 = 1 → meth.name = "<init>") ∧ zKn G s ∧ cd.exceptionTable.toList = tableOf (zHh m0)
section
variable {G : zG} {m0 : Nat} {p : Program} {l : Launch} {e : Env} {R : Room} {s : State} {mm : MethodId} {args : Array Value} {below : List Frame} {meth : Method} {cd : Code} {FQ : State → Prop} {h0 : zH} {r : List Instr} {L st : List Value} {h : zH}
theorem zCtx.x (C : zCtx G m0 p s mm args meth cd) : p.tables.exec = Jvm.exec := C.1
theorem zCtx.b (C : zCtx G m0 p s mm args meth cd) : cd.code = zCd m0 := C.2.1
theorem zCtx.rt (C : zCtx G m0 p s mm args meth cd) : meth.sig.returnType = zRt m0 := C.2.2.1
theorem zCtx.ml (C : zCtx G m0 p s mm args meth cd) : cd.maxLocals = zMl m0 := C.2.2.2.1
theorem zCtx.own (C : zCtx G m0 p s mm args meth cd) : s.vm.findClass (zCn (zOw m0)) = some mm.cls := C.2.2.2.2.1
theorem zCtx.ts (C : zCtx G m0 p s mm args meth cd) : ∀ w ∈ zGood, w.before args s = true := C.2.2.2.2.2.1
theorem zCtx.lk (C : zCtx G m0 p s mm args meth cd) : meth.locks = false := C.2.2.2.2.2.2.1
theorem zCtx.ini (C : zCtx G m0 p s mm args meth cd) : zKd m0 = 1 → meth.name = "<init>" := C.2.2.2.2.2.2.2.1
theorem zCtx.kn (C : zCtx G m0 p s mm args meth cd) : zKn G s := C.2.2.2.2.2.2.2.2.1
theorem zCtx.tb (C : zCtx G m0 p s mm args meth cd) : cd.exceptionTable.toList = tableOf (zHh m0) := C.2.2.2.2.2.2.2.2.2
/-- from this point of the body on, the machine comes to FQ -/
def zXW (G : zG) (m0 : Nat) (p : Program) (l : Launch) (e : Env) (R : Room) (s : State) (mm : MethodId) (args : Array Value) (below : List Frame) (meth : Method) (cd : Code) (FQ : State → Prop) (h0 : zH) (c : List Instr) (L st : List Value) (h : zH) : Prop :=
  ∀ pc, zChk m0 pc c = true → ∀ (H : Heap) (locs : List Loc) (ls : Array Slot), zRel G h H → zLR G ls (zMl m0) L → (∀ q ∈ locs, G.base ≤ q.base) → h0.1.sz ≤ h.1.sz → h0.1.sl ≤ h.1.sl → W p l e R s mm args below meth cd H locs (h.1.sz - h0.1.sz) (h.1.sl - h0.1.sl) FQ (F0 mm pc ls (st.map (zCv G)))
theorem zs_iadd (C : zCtx G m0 p s mm args meth cd) {x y : Int32}  (k : zXW G m0 p l e R s mm args below meth cd FQ h0 r L (.int (x + y) :: st) h) : zXW G m0 p l e R s mm args below meth cd FQ h0 (.iadd :: r) L (.int y :: .int x :: st) h := by
  intro pc hc H locs ls hR hL hlo q1 q2
  obtain ⟨hd, hc⟩ := zChk_1 (fun _ h => by cases h) rfl hc
  exact lv_iadd C.x C.b hd (k _ hc H locs ls hR hL hlo q1 q2)
theorem zs_isub (C : zCtx G m0 p s mm args meth cd) {x y : Int32}  (k : zXW G m0 p l e R s mm args below meth cd FQ h0 r L (.int (x - y) :: st) h) : zXW G m0 p l e R s mm args below meth cd FQ h0 (.isub :: r) L (.int y :: .int x :: st) h := by
  intro pc hc H locs ls hR hL hlo q1 q2
  obtain ⟨hd, hc⟩ := zChk_1 (fun _ h => by cases h) rfl hc
  exact lv_isub C.x C.b hd (k _ hc H locs ls hR hL hlo q1 q2)
theorem zs_imul (C : zCtx G m0 p s mm args meth cd) {x y : Int32}  (k : zXW G m0 p l e R s mm args below meth cd FQ h0 r L (.int (x * y) :: st) h) : zXW G m0 p l e R s mm args below meth cd FQ h0 (.imul :: r) L (.int y :: .int x :: st) h := by
  intro pc hc H locs ls hR hL hlo q1 q2
  obtain ⟨hd, hc⟩ := zChk_1 (fun _ h => by cases h) rfl hc
  exact lv_imul C.x C.b hd (k _ hc H locs ls hR hL hlo q1 q2)
theorem zs_iand (C : zCtx G m0 p s mm args meth cd) {x y : Int32}  (k : zXW G m0 p l e R s mm args below meth cd FQ h0 r L (.int (x &&& y) :: st) h) : zXW G m0 p l e R s mm args below meth cd FQ h0 (.iand :: r) L (.int y :: .int x :: st) h := by
  intro pc hc H locs ls hR hL hlo q1 q2
  obtain ⟨hd, hc⟩ := zChk_1 (fun _ h => by cases h) rfl hc
  exact lv_iand C.x C.b hd (k _ hc H locs ls hR hL hlo q1 q2)
theorem zs_ior (C : zCtx G m0 p s mm args meth cd) {x y : Int32}  (k : zXW G m0 p l e R s mm args below meth cd FQ h0 r L (.int (x ||| y) :: st) h) : zXW G m0 p l e R s mm args below meth cd FQ h0 (.ior :: r) L (.int y :: .int x :: st) h := by
  intro pc hc H locs ls hR hL hlo q1 q2
  obtain ⟨hd, hc⟩ := zChk_1 (fun _ h => by cases h) rfl hc
  exact lv_ior C.x C.b hd (k _ hc H locs ls hR hL hlo q1 q2)
theorem zs_ixor (C : zCtx G m0 p s mm args meth cd) {x y : Int32}  (k : zXW G m0 p l e R s mm args below meth cd FQ h0 r L (.int (x ^^^ y) :: st) h) : zXW G m0 p l e R s mm args below meth cd FQ h0 (.ixor :: r) L (.int y :: .int x :: st) h := by
  intro pc hc H locs ls hR hL hlo q1 q2
  obtain ⟨hd, hc⟩ := zChk_1 (fun _ h => by cases h) rfl hc
  exact lv_ixor C.x C.b hd (k _ hc H locs ls hR hL hlo q1 q2)
theorem zs_ishl (C : zCtx G m0 p s mm args meth cd) {x y : Int32}  (k : zXW G m0 p l e R s mm args below meth cd FQ h0 r L (.int (x <<< (y &&& 31)) :: st) h) : zXW G m0 p l e R s mm args below meth cd FQ h0 (.ishl :: r) L (.int y :: .int x :: st) h := by
  intro pc hc H locs ls hR hL hlo q1 q2
  obtain ⟨hd, hc⟩ := zChk_1 (fun _ h => by cases h) rfl hc
  exact lv_ishl C.x C.b hd (k _ hc H locs ls hR hL hlo q1 q2)
theorem zs_ishr (C : zCtx G m0 p s mm args meth cd) {x y : Int32}  (k : zXW G m0 p l e R s mm args below meth cd FQ h0 r L (.int (x >>> (y &&& 31)) :: st) h) : zXW G m0 p l e R s mm args below meth cd FQ h0 (.ishr :: r) L (.int y :: .int x :: st) h := by
  intro pc hc H locs ls hR hL hlo q1 q2
  obtain ⟨hd, hc⟩ := zChk_1 (fun _ h => by cases h) rfl hc
  exact lv_ishr C.x C.b hd (k _ hc H locs ls hR hL hlo q1 q2)
theorem zs_iushr (C : zCtx G m0 p s mm args meth cd) {x y : Int32}  (k : zXW G m0 p l e R s mm args below meth cd FQ h0 r L (.int ((x.toUInt32 >>> (y.toUInt32 &&& Int32.toUInt32 31)).toInt32) :: st) h) : zXW G m0 p l e R s mm args below meth cd FQ h0 (.iushr :: r) L (.int y :: .int x :: st) h := by
  intro pc hc H locs ls hR hL hlo q1 q2
  obtain ⟨hd, hc⟩ := zChk_1 (fun _ h => by cases h) rfl hc
  exact lv_iushr C.x C.b hd rfl (k _ hc H locs ls hR hL hlo q1 q2)
theorem zs_idiv (C : zCtx G m0 p s mm args meth cd) {x y : Int32} (hy : y ≠ 0) (k : zXW G m0 p l e R s mm args below meth cd FQ h0 r L (.int (x / y) :: st) h) : zXW G m0 p l e R s mm args below meth cd FQ h0 (.idiv :: r) L (.int y :: .int x :: st) h := by
  intro pc hc H locs ls hR hL hlo q1 q2
  obtain ⟨hd, hc⟩ := zChk_1 (fun _ h => by cases h) rfl hc
  exact lv_idiv C.x C.b hd hy (k _ hc H locs ls hR hL hlo q1 q2)
theorem zs_ladd (C : zCtx G m0 p s mm args meth cd) {x y : Int64}  (k : zXW G m0 p l e R s mm args below meth cd FQ h0 r L (.long (x + y) :: st) h) : zXW G m0 p l e R s mm args below meth cd FQ h0 (.ladd :: r) L (.long y :: .long x :: st) h := by
  intro pc hc H locs ls hR hL hlo q1 q2
  obtain ⟨hd, hc⟩ := zChk_1 (fun _ h => by cases h) rfl hc
  exact lv_ladd C.x C.b hd (k _ hc H locs ls hR hL hlo q1 q2)
theorem zs_lmul (C : zCtx G m0 p s mm args meth cd) {x y : Int64}  (k : zXW G m0 p l e R s mm args below meth cd FQ h0 r L (.long (x * y) :: st) h) : zXW G m0 p l e R s mm args below meth cd FQ h0 (.lmul :: r) L (.long y :: .long x :: st) h := by
  intro pc hc H locs ls hR hL hlo q1 q2
  obtain ⟨hd, hc⟩ := zChk_1 (fun _ h => by cases h) rfl hc
  exact lv_lmul C.x C.b hd (k _ hc H locs ls hR hL hlo q1 q2)
theorem zs_land (C : zCtx G m0 p s mm args meth cd) {x y : Int64}  (k : zXW G m0 p l e R s mm args below meth cd FQ h0 r L (.long (x &&& y) :: st) h) : zXW G m0 p l e R s mm args below meth cd FQ h0 (.land :: r) L (.long y :: .long x :: st) h := by
  intro pc hc H locs ls hR hL hlo q1 q2
  obtain ⟨hd, hc⟩ := zChk_1 (fun _ h => by cases h) rfl hc
  exact lv_land C.x C.b hd (k _ hc H locs ls hR hL hlo q1 q2)
theorem zs_lor (C : zCtx G m0 p s mm args meth cd) {x y : Int64}  (k : zXW G m0 p l e R s mm args below meth cd FQ h0 r L (.long (x ||| y) :: st) h) : zXW G m0 p l e R s mm args below meth cd FQ h0 (.lor :: r) L (.long y :: .long x :: st) h := by
  intro pc hc H locs ls hR hL hlo q1 q2
  obtain ⟨hd, hc⟩ := zChk_1 (fun _ h => by cases h) rfl hc
  exact lv_lor C.x C.b hd (k _ hc H locs ls hR hL hlo q1 q2)
theorem zs_lushr (C : zCtx G m0 p s mm args meth cd) {x : Int64} {y : Int32}  (k : zXW G m0 p l e R s mm args below meth cd FQ h0 r L (.long ((x.toUInt64 >>> (y.toInt64.toUInt64 &&& Int64.toUInt64 63)).toInt64) :: st) h) : zXW G m0 p l e R s mm args below meth cd FQ h0 (.lushr :: r) L (.int y :: .long x :: st) h := by
  intro pc hc H locs ls hR hL hlo q1 q2
  obtain ⟨hd, hc⟩ := zChk_1 (fun _ h => by cases h) rfl hc
  exact lv_lushr C.x C.b hd rfl (k _ hc H locs ls hR hL hlo q1 q2)
theorem zs_lcmp (C : zCtx G m0 p s mm args meth cd) {x y : Int64}  (k : zXW G m0 p l e R s mm args below meth cd FQ h0 r L (.int (lg_cmp x y) :: st) h) : zXW G m0 p l e R s mm args below meth cd FQ h0 (.lcmp :: r) L (.long y :: .long x :: st) h := by
  intro pc hc H locs ls hR hL hlo q1 q2
  obtain ⟨hd, hc⟩ := zChk_1 (fun _ h => by cases h) rfl hc
  exact W.lcmp C.x C.b hd (k _ hc H locs ls hR hL hlo q1 q2)
theorem zs_dadd (C : zCtx G m0 p s mm args meth cd) {x y : UInt64} (hn : vf_n64 (FP.dadd x y)) (k : zXW G m0 p l e R s mm args below meth cd FQ h0 r L (.double (FP.dadd x y) :: st) h) : zXW G m0 p l e R s mm args below meth cd FQ h0 (.dadd :: r) L (.double y :: .double x :: st) h := by
  intro pc hc H locs ls hR hL hlo q1 q2
  obtain ⟨hd, hc⟩ := zChk_1 (fun _ h => by cases h) rfl hc
  exact lv_dadd C.x C.b hd hn (k _ hc H locs ls hR hL hlo q1 q2)
theorem zs_dsub (C : zCtx G m0 p s mm args meth cd) {x y : UInt64} (hn : vf_n64 (FP.dsub x y)) (k : zXW G m0 p l e R s mm args below meth cd FQ h0 r L (.double (FP.dsub x y) :: st) h) : zXW G m0 p l e R s mm args below meth cd FQ h0 (.dsub :: r) L (.double y :: .double x :: st) h := by
  intro pc hc H locs ls hR hL hlo q1 q2
  obtain ⟨hd, hc⟩ := zChk_1 (fun _ h => by cases h) rfl hc
  exact lv_dsub C.x C.b hd hn (k _ hc H locs ls hR hL hlo q1 q2)
theorem zs_dmul (C : zCtx G m0 p s mm args meth cd) {x y : UInt64} (hn : vf_n64 (FP.dmul x y)) (k : zXW G m0 p l e R s mm args below meth cd FQ h0 r L (.double (FP.dmul x y) :: st) h) : zXW G m0 p l e R s mm args below meth cd FQ h0 (.dmul :: r) L (.double y :: .double x :: st) h := by
  intro pc hc H locs ls hR hL hlo q1 q2
  obtain ⟨hd, hc⟩ := zChk_1 (fun _ h => by cases h) rfl hc
  exact lv_dmul C.x C.b hd hn (k _ hc H locs ls hR hL hlo q1 q2)
theorem zs_ddiv (C : zCtx G m0 p s mm args meth cd) {x y : UInt64} (hn : vf_n64 (FP.ddiv x y)) (k : zXW G m0 p l e R s mm args below meth cd FQ h0 r L (.double (FP.ddiv x y) :: st) h) : zXW G m0 p l e R s mm args below meth cd FQ h0 (.ddiv :: r) L (.double y :: .double x :: st) h := by
  intro pc hc H locs ls hR hL hlo q1 q2
  obtain ⟨hd, hc⟩ := zChk_1 (fun _ h => by cases h) rfl hc
  exact lv_ddiv C.x C.b hd hn (k _ hc H locs ls hR hL hlo q1 q2)
theorem zs_dcmp (C : zCtx G m0 p s mm args meth cd) {x y : UInt64} {op : CmpOp}  (k : zXW G m0 p l e R s mm args below meth cd FQ h0 r L (.int (Op.cmpValue (FP.dcmp x y) op) :: st) h) : zXW G m0 p l e R s mm args below meth cd FQ h0 (.dcmp op :: r) L (.double y :: .double x :: st) h := by
  intro pc hc H locs ls hR hL hlo q1 q2
  obtain ⟨hd, hc⟩ := zChk_1 (fun _ h => by cases h) rfl hc
  exact lv_dcmp C.x C.b hd (k _ hc H locs ls hR hL hlo q1 q2)
theorem zs_fcmp (C : zCtx G m0 p s mm args meth cd) {x y : UInt32} {op : CmpOp}  (k : zXW G m0 p l e R s mm args below meth cd FQ h0 r L (.int (Op.cmpValue (FP.fcmp x y) op) :: st) h) : zXW G m0 p l e R s mm args below meth cd FQ h0 (.fcmp op :: r) L (.float y :: .float x :: st) h := by
  intro pc hc H locs ls hR hL hlo q1 q2
  obtain ⟨hd, hc⟩ := zChk_1 (fun _ h => by cases h) rfl hc
  exact lv_fcmp C.x C.b hd (k _ hc H locs ls hR hL hlo q1 q2)
theorem zs_i2l (C : zCtx G m0 p s mm args meth cd) {x : Int32}  (k : zXW G m0 p l e R s mm args below meth cd FQ h0 r L (.long x.toInt64 :: st) h) : zXW G m0 p l e R s mm args below meth cd FQ h0 (.i2l :: r) L (.int x :: st) h := by
  intro pc hc H locs ls hR hL hlo q1 q2
  obtain ⟨hd, hc⟩ := zChk_1 (fun _ h => by cases h) rfl hc
  exact lv_i2l C.x C.b hd rfl (k _ hc H locs ls hR hL hlo q1 q2)
theorem zs_i2d (C : zCtx G m0 p s mm args meth cd) {x : Int32}  (k : zXW G m0 p l e R s mm args below meth cd FQ h0 r L (.double (FP.i2d x) :: st) h) : zXW G m0 p l e R s mm args below meth cd FQ h0 (.i2d :: r) L (.int x :: st) h := by
  intro pc hc H locs ls hR hL hlo q1 q2
  obtain ⟨hd, hc⟩ := zChk_1 (fun _ h => by cases h) rfl hc
  exact lv_i2d C.x C.b hd (k _ hc H locs ls hR hL hlo q1 q2)
theorem zs_d2i (C : zCtx G m0 p s mm args meth cd) {x : UInt64}  (k : zXW G m0 p l e R s mm args below meth cd FQ h0 r L (.int (FP.d2i x) :: st) h) : zXW G m0 p l e R s mm args below meth cd FQ h0 (.d2i :: r) L (.double x :: st) h := by
  intro pc hc H locs ls hR hL hlo q1 q2
  obtain ⟨hd, hc⟩ := zChk_1 (fun _ h => by cases h) rfl hc
  exact lv_d2i C.x C.b hd (k _ hc H locs ls hR hL hlo q1 q2)
theorem zs_d2f (C : zCtx G m0 p s mm args meth cd) {x : UInt64} (hn : vf_n32 (FP.d2f x)) (k : zXW G m0 p l e R s mm args below meth cd FQ h0 r L (.float (FP.d2f x) :: st) h) : zXW G m0 p l e R s mm args below meth cd FQ h0 (.d2f :: r) L (.double x :: st) h := by
  intro pc hc H locs ls hR hL hlo q1 q2
  obtain ⟨hd, hc⟩ := zChk_1 (fun _ h => by cases h) rfl hc
  exact lv_d2f C.x C.b hd hn (k _ hc H locs ls hR hL hlo q1 q2)
theorem zs_f2d (C : zCtx G m0 p s mm args meth cd) {x : UInt32} (hn : vf_n64 (FP.f2d x)) (k : zXW G m0 p l e R s mm args below meth cd FQ h0 r L (.double (FP.f2d x) :: st) h) : zXW G m0 p l e R s mm args below meth cd FQ h0 (.f2d :: r) L (.float x :: st) h := by
  intro pc hc H locs ls hR hL hlo q1 q2
  obtain ⟨hd, hc⟩ := zChk_1 (fun _ h => by cases h) rfl hc
  exact lv_f2d C.x C.b hd hn (k _ hc H locs ls hR hL hlo q1 q2)
theorem zs_dup (C : zCtx G m0 p s mm args meth cd) {v : Value} (hv : v.category = 1) (k : zXW G m0 p l e R s mm args below meth cd FQ h0 r L (v :: v :: st) h) : zXW G m0 p l e R s mm args below meth cd FQ h0 (.dup :: r) L (v :: st) h := by
  intro pc hc H locs ls hR hL hlo q1 q2
  obtain ⟨hd, hc⟩ := zChk_1 (fun _ h => by cases h) rfl hc
  exact lv_dup C.x C.b hd ((zCv_cat G v).trans hv) (k _ hc H locs ls hR hL hlo q1 q2)
theorem zs_dup2 (C : zCtx G m0 p s mm args meth cd) {v w : Value} (hv : v.category = 1) (hw : w.category = 1) (k : zXW G m0 p l e R s mm args below meth cd FQ h0 r L (v :: w :: v :: w :: st) h) : zXW G m0 p l e R s mm args below meth cd FQ h0 (.dup2 :: r) L (v :: w :: st) h := by
  intro pc hc H locs ls hR hL hlo q1 q2
  obtain ⟨hd, hc⟩ := zChk_1 (fun _ h => by cases h) rfl hc
  exact lv_dup2_11 C.x C.b hd ((zCv_cat G v).trans hv) ((zCv_cat G w).trans hw) (k _ hc H locs ls hR hL hlo q1 q2)
theorem zs_iload (C : zCtx G m0 p s mm args meth cd) {k : Nat} {x : Int32} (hk : L[k]? = some (.int x)) (kk : zXW G m0 p l e R s mm args below meth cd FQ h0 r L (.int x :: st) h) : zXW G m0 p l e R s mm args below meth cd FQ h0 (.iload k :: r) L st h := by
  intro pc hc H locs ls hR hL hlo q1 q2
  obtain ⟨q, hq, hd, hc⟩ := zChk_c (fun _ h => by cases h) hc
  have hl := hL.at hk (by intro e; cases e)
  rcases List.mem_cons.mp hq with rfl | hq
  · exact lv_iload C.x C.b hd hl (kk _ hc H locs ls hR hL hlo q1 q2)
  · obtain ⟨n, hn, rfl⟩ := zn4_m hq
    exact lv_iload_n C.x C.b hd hn hl (kk _ hc H locs ls hR hL hlo q1 q2)
theorem zs_lload (C : zCtx G m0 p s mm args meth cd) {k : Nat} {x : Int64} (hk : L[k]? = some (.long x)) (kk : zXW G m0 p l e R s mm args below meth cd FQ h0 r L (.long x :: st) h) : zXW G m0 p l e R s mm args below meth cd FQ h0 (.lload k :: r) L st h := by
  intro pc hc H locs ls hR hL hlo q1 q2
  obtain ⟨q, hq, hd, hc⟩ := zChk_c (fun _ h => by cases h) hc
  have hl := hL.at hk (by intro e; cases e)
  rcases List.mem_cons.mp hq with rfl | hq
  · exact lv_lload C.x C.b hd hl (kk _ hc H locs ls hR hL hlo q1 q2)
  · obtain ⟨n, hn, rfl⟩ := zn4_m hq
    exact lv_lload_n C.x C.b hd hn hl (kk _ hc H locs ls hR hL hlo q1 q2)
theorem zs_dload (C : zCtx G m0 p s mm args meth cd) {k : Nat} {x : UInt64} (hk : L[k]? = some (.double x)) (kk : zXW G m0 p l e R s mm args below meth cd FQ h0 r L (.double x :: st) h) : zXW G m0 p l e R s mm args below meth cd FQ h0 (.dload k :: r) L st h := by
  intro pc hc H locs ls hR hL hlo q1 q2
  obtain ⟨q, hq, hd, hc⟩ := zChk_c (fun _ h => by cases h) hc
  have hl := hL.at hk (by intro e; cases e)
  rcases List.mem_cons.mp hq with rfl | hq
  · exact lv_dload C.x C.b hd hl (kk _ hc H locs ls hR hL hlo q1 q2)
  · obtain ⟨n, hn, rfl⟩ := zn4_m hq
    exact lv_dload_n C.x C.b hd hn hl (kk _ hc H locs ls hR hL hlo q1 q2)
theorem zs_fload (C : zCtx G m0 p s mm args meth cd) {k : Nat} {x : UInt32} (hk : L[k]? = some (.float x)) (kk : zXW G m0 p l e R s mm args below meth cd FQ h0 r L (.float x :: st) h) : zXW G m0 p l e R s mm args below meth cd FQ h0 (.fload k :: r) L st h := by
  intro pc hc H locs ls hR hL hlo q1 q2
  obtain ⟨q, hq, hd, hc⟩ := zChk_c (fun _ h => by cases h) hc
  have hl := hL.at hk (by intro e; cases e)
  rcases List.mem_cons.mp hq with rfl | hq
  · exact lv_fload C.x C.b hd hl (kk _ hc H locs ls hR hL hlo q1 q2)
  · obtain ⟨n, hn, rfl⟩ := zn4_m hq
    exact lv_fload_n C.x C.b hd hn hl (kk _ hc H locs ls hR hL hlo q1 q2)
theorem zs_aload (C : zCtx G m0 p s mm args meth cd) {k : Nat} {x : Nat} (hk : L[k]? = some (.ref x)) (kk : zXW G m0 p l e R s mm args below meth cd FQ h0 r L (.ref x :: st) h) : zXW G m0 p l e R s mm args below meth cd FQ h0 (.aload k :: r) L st h := by
  intro pc hc H locs ls hR hL hlo q1 q2
  obtain ⟨q, hq, hd, hc⟩ := zChk_c (fun _ h => by cases h) hc
  have hl := hL.at hk (by intro e; cases e)
  rcases List.mem_cons.mp hq with rfl | hq
  · exact lv_aload C.x C.b hd hl (kk _ hc H locs ls hR hL hlo q1 q2)
  · obtain ⟨n, hn, rfl⟩ := zn4_m hq
    exact lv_aload_n C.x C.b hd hn hl (kk _ hc H locs ls hR hL hlo q1 q2)
theorem zs_istore (C : zCtx G m0 p s mm args meth cd) {k : Nat} {x : Int32} (hk : k < L.length) (hp : zPrev L k = true) (kk : zXW G m0 p l e R s mm args below meth cd FQ h0 r (L.set k (.int x)) st h) : zXW G m0 p l e R s mm args below meth cd FQ h0 (.istore k :: r) L (.int x :: st) h := by
  intro pc hc H locs ls hR hL hlo q1 q2
  obtain ⟨q, hq, hd, hc⟩ := zChk_c (fun _ h => by cases h) hc
  rcases List.mem_cons.mp hq with rfl | hq
  · exact lv_istore C.x C.b hd hL.2 (by rw [← hL.1]; exact hk) rfl (fun ls' h' => kk _ hc H locs ls' hR (hL.set1 (u := .int x) hk hp h') hlo q1 q2)
  · obtain ⟨n, hn, rfl⟩ := zn4_m hq
    exact lv_istore_n C.x C.b hd hn hL.2 (by rw [← hL.1]; exact hk) rfl (fun ls' h' => kk _ hc H locs ls' hR (hL.set1 (u := .int x) hk hp h') hlo q1 q2)
theorem zs_astore (C : zCtx G m0 p s mm args meth cd) {k : Nat} {x : Nat} (hk : k < L.length) (hp : zPrev L k = true) (kk : zXW G m0 p l e R s mm args below meth cd FQ h0 r (L.set k (.ref x)) st h) : zXW G m0 p l e R s mm args below meth cd FQ h0 (.astore k :: r) L (.ref x :: st) h := by
  intro pc hc H locs ls hR hL hlo q1 q2
  obtain ⟨q, hq, hd, hc⟩ := zChk_c (fun _ h => by cases h) hc
  rcases List.mem_cons.mp hq with rfl | hq
  · exact lv_astore C.x C.b hd hL.2 (by rw [← hL.1]; exact hk) rfl (fun ls' h' => kk _ hc H locs ls' hR (hL.set1 (u := .ref x) hk hp h') hlo q1 q2)
  · obtain ⟨n, hn, rfl⟩ := zn4_m hq
    exact lv_astore_n C.x C.b hd hn hL.2 (by rw [← hL.1]; exact hk) rfl (fun ls' h' => kk _ hc H locs ls' hR (hL.set1 (u := .ref x) hk hp h') hlo q1 q2)
theorem zs_lstore (C : zCtx G m0 p s mm args meth cd) {k : Nat} {x : Int64} (hk : k + 1 < L.length) (hp : zPrev L k = true) (kk : zXW G m0 p l e R s mm args below meth cd FQ h0 r ((L.set k (.long x)).set (k + 1) zJ) st h) : zXW G m0 p l e R s mm args below meth cd FQ h0 (.lstore k :: r) L (.long x :: st) h := by
  intro pc hc H locs ls hR hL hlo q1 q2
  obtain ⟨q, hq, hd, hc⟩ := zChk_c (fun _ h => by cases h) hc
  rcases List.mem_cons.mp hq with rfl | hq
  · exact lv_lstore C.x C.b hd hL.2 (by rw [← hL.1]; exact hk) rfl (fun ls' h' => kk _ hc H locs ls' hR (hL.set2 (u := .long x) hk hp h') hlo q1 q2)
  · obtain ⟨n, hn, rfl⟩ := zn4_m hq
    exact lv_lstore_n C.x C.b hd hn hL.2 (by rw [← hL.1]; exact hk) rfl (fun ls' h' => kk _ hc H locs ls' hR (hL.set2 (u := .long x) hk hp h') hlo q1 q2)
theorem zs_dstore (C : zCtx G m0 p s mm args meth cd) {k : Nat} {x : UInt64} (hk : k + 1 < L.length) (hp : zPrev L k = true) (kk : zXW G m0 p l e R s mm args below meth cd FQ h0 r ((L.set k (.double x)).set (k + 1) zJ) st h) : zXW G m0 p l e R s mm args below meth cd FQ h0 (.dstore k :: r) L (.double x :: st) h := by
  intro pc hc H locs ls hR hL hlo q1 q2
  obtain ⟨q, hq, hd, hc⟩ := zChk_c (fun _ h => by cases h) hc
  rcases List.mem_cons.mp hq with rfl | hq
  · exact lv_dstore C.x C.b hd hL.2 (by rw [← hL.1]; exact hk) rfl (fun ls' h' => kk _ hc H locs ls' hR (hL.set2 (u := .double x) hk hp h') hlo q1 q2)
  · obtain ⟨n, hn, rfl⟩ := zn4_m hq
    exact lv_dstore_n C.x C.b hd hn hL.2 (by rw [← hL.1]; exact hk) rfl (fun ls' h' => kk _ hc H locs ls' hR (hL.set2 (u := .double x) hk hp h') hlo q1 q2)
theorem zs_iinc (C : zCtx G m0 p s mm args meth cd) {k : Nat} {n : Int} {x : Int32} (hx : L[k]? = some (.int x)) (hp : zPrev L k = true) (kk : zXW G m0 p l e R s mm args below meth cd FQ h0 r (L.set k (.int (x + Int32.ofInt n))) st h) : zXW G m0 p l e R s mm args below meth cd FQ h0 (.iinc k n :: r) L st h := by
  intro pc hc H locs ls hR hL hlo q1 q2
  obtain ⟨hd, hc⟩ := zChk_1 (fun _ h => by cases h) rfl hc
  have hk : k < L.length := (List.getElem?_eq_some_iff.mp hx).1
  obtain ⟨i, hi⟩ := List.getElem?_of_mem (zLv_mem (G := G) (q := (k, .int x)).mpr ⟨_, hx, (by intro e; cases e), rfl⟩)
  exact lv_iinc C.x C.b hd hL.2 hi rfl (by rw [← hL.1]; exact hk) rfl (fun ls' h' => kk _ hc H locs ls' hR (hL.set1 (u := .int (x + Int32.ofInt n)) hk hp h') hlo q1 q2)
theorem z_i8 {n : Int} (h1 : -128 ≤ n) (h2 : n < 128) : (Int8.ofInt n).toInt32 = Int32.ofInt n := by
  apply Int32.toInt_inj.mp
  rw [Int8.toInt_toInt32, Int8.toInt_ofInt_of_le (by omega) (by omega), Int32.toInt_ofInt_of_le (by omega) (by omega)]
theorem z_i16 {n : Int} (h1 : -32768 ≤ n) (h2 : n < 32768) : (Int16.ofInt n).toInt32 = Int32.ofInt n := by
  apply Int32.toInt_inj.mp
  rw [Int16.toInt_toInt32, Int16.toInt_ofInt_of_le (by omega) (by omega), Int32.toInt_ofInt_of_le (by omega) (by omega)]
theorem zs_iconst (C : zCtx G m0 p s mm args meth cd) {n : Int} (kk : zXW G m0 p l e R s mm args below meth cd FQ h0 r L (.int (Int32.ofInt n) :: st) h) : zXW G m0 p l e R s mm args below meth cd FQ h0 (.iconst n :: r) L st h := by
  intro pc hc H locs ls hR hL hlo q1 q2
  obtain ⟨q, hq, hd, hc⟩ := zChk_c (fun _ h => by cases h) hc
  rcases List.mem_append.mp hq with hq | hq
  · obtain ⟨-, hq⟩ := zif_m hq
    rw [List.mem_singleton.mp hq] at hd hc
    exact lv_iconst C.x C.b hd rfl (kk _ hc H locs ls hR hL hlo q1 q2)
  rcases List.mem_append.mp hq with hq | hq
  · obtain ⟨hn, hq⟩ := zif_m hq
    rw [List.mem_singleton.mp hq] at hd hc
    exact lv_bipush C.x C.b hd (z_i8 hn.1 hn.2) (kk _ hc H locs ls hR hL hlo q1 q2)
  rcases List.mem_append.mp hq with hq | hq
  · obtain ⟨hn, hq⟩ := zif_m hq
    rw [List.mem_singleton.mp hq] at hd hc
    exact lv_sipush C.x C.b hd (z_i16 hn.1 hn.2) (kk _ hc H locs ls hR hL hlo q1 q2)
  rcases List.mem_append.mp hq with hq | hq
  · obtain ⟨a, ha, hp, rfl⟩ := zPk_m hq
    simp only [Bool.and_eq_true, beq_iff_eq] at hp
    have hw := C.ts _ (zKI_ok a ha)
    dsimp only at hw
    rw [hp.1, hp.2] at hw
    exact lv_ldc C.x C.b C.own hw hd (kk _ hc H locs ls hR hL hlo q1 q2)
  · obtain ⟨a, ha, hp, rfl⟩ := zPk_m hq
    simp only [Bool.and_eq_true, beq_iff_eq] at hp
    have hw := C.ts _ (zKI_ok a ha)
    dsimp only at hw
    rw [hp.1, hp.2] at hw
    exact lv_ldcw C.x C.b C.own hw hd (kk _ hc H locs ls hR hL hlo q1 q2)
theorem zs_lconst (C : zCtx G m0 p s mm args meth cd) {n : Int} (kk : zXW G m0 p l e R s mm args below meth cd FQ h0 r L (.long (Int64.ofInt n) :: st) h) : zXW G m0 p l e R s mm args below meth cd FQ h0 (.jsr_w n :: r) L st h := by
  intro pc hc H locs ls hR hL hlo q1 q2
  obtain ⟨q, hq, hd, hc⟩ := zChk_c (fun _ h => by cases h) hc
  rcases List.mem_append.mp hq with hq | hq
  · obtain ⟨rfl, hq⟩ := zif_m hq
    rw [List.mem_singleton.mp hq] at hd hc
    exact lv_lconst C.x C.b hd rfl (kk _ hc H locs ls hR hL hlo q1 q2)
  rcases List.mem_append.mp hq with hq | hq
  · obtain ⟨rfl, hq⟩ := zif_m hq
    rw [List.mem_singleton.mp hq] at hd hc
    exact lv_lconst C.x C.b hd rfl (kk _ hc H locs ls hR hL hlo q1 q2)
  · obtain ⟨a, ha, hp, rfl⟩ := zPk_m hq
    simp only [Bool.and_eq_true, beq_iff_eq] at hp
    have hw := C.ts _ (zKL_ok a ha)
    dsimp only at hw
    rw [hp.1, hp.2] at hw
    exact lv_ldc2 C.x C.b C.own hw hd (kk _ hc H locs ls hR hL hlo q1 q2)
theorem zs_dconst (C : zCtx G m0 p s mm args meth cd) {n : Int} (kk : zXW G m0 p l e R s mm args below meth cd FQ h0 r L (.double (UInt64.ofNat n.toNat) :: st) h) : zXW G m0 p l e R s mm args below meth cd FQ h0 (.jsr n :: r) L st h := by
  intro pc hc H locs ls hR hL hlo q1 q2
  obtain ⟨q, hq, hd, hc⟩ := zChk_c (fun _ h => by cases h) hc
  rcases List.mem_append.mp hq with hq | hq
  · obtain ⟨rfl, hq⟩ := zif_m hq
    rw [List.mem_singleton.mp hq] at hd hc
    exact lv_dconst0 C.x C.b hd (kk _ hc H locs ls hR hL hlo q1 q2)
  rcases List.mem_append.mp hq with hq | hq
  · obtain ⟨rfl, hq⟩ := zif_m hq
    rw [List.mem_singleton.mp hq] at hd hc
    exact lv_dconst1 C.x C.b hd (kk _ hc H locs ls hR hL hlo q1 q2)
  · obtain ⟨a, ha, hp, rfl⟩ := zPk_m hq
    simp only [Bool.and_eq_true, beq_iff_eq] at hp
    have hw := C.ts _ (zKD_ok a ha)
    dsimp only at hw
    rw [hp.1, hp.2] at hw
    exact lv_ldc2d C.x C.b C.own hw hd (kk _ hc H locs ls hR hL hlo q1 q2)
theorem zOff_at {m pc : Nat} {l : Int} : (pc : Int) + zOff m pc l = (zPc m l : Int) := by
  unfold zOff
  omega
theorem zs_goto (C : zCtx G m0 p s mm args meth cd) (hm : m0 < 305) (hr : m0 ≠ zRef) {l2 : Int} (kk : zXW G m0 p l e R s mm args below meth cd FQ h0 (zB m0 l2) L st h) : zXW G m0 p l e R s mm args below meth cd FQ h0 (.goto l2 :: r) L st h := by
  intro pc hc H locs ls hR hL hlo q1 q2
  obtain ⟨hd, hc⟩ := zChk_1 (fun _ h => by cases h) rfl hc
  exact lv_goto C.x C.b hd zOff_at (kk _ (zChk_ok hm hr l2) H locs ls hR hL hlo q1 q2)
theorem zs_goto_w (hm : m0 < 305) (hr : m0 ≠ zRef) {l2 : Int} (kk : zXW G m0 p l e R s mm args below meth cd FQ h0 (zB m0 l2) L st h) : zXW G m0 p l e R s mm args below meth cd FQ h0 (.goto_w l2 :: r) L st h := by
  intro pc hc H locs ls hR hL hlo q1 q2
  have e1 : zPc m0 l2 = pc := by simpa [zChk] using hc
  subst e1
  exact kk _ (zChk_ok hm hr l2) H locs ls hR hL hlo q1 q2
theorem zs_if_eq (C : zCtx G m0 p s mm args meth cd) (hm : m0 < 305) (hr : m0 ≠ zRef) {l2 : Int} {x : Int32} (kt : x = 0 → zXW G m0 p l e R s mm args below meth cd FQ h0 (zB m0 l2) L st h) (kf : ¬ (x = 0) → zXW G m0 p l e R s mm args below meth cd FQ h0 r L st h) : zXW G m0 p l e R s mm args below meth cd FQ h0 (.ifCond .eq l2 :: r) L (.int x :: st) h := by
  intro pc hc H locs ls hR hL hlo q1 q2
  obtain ⟨hd, hc⟩ := zChk_1 (fun _ h => by cases h) rfl hc
  exact lv_if_eq C.x C.b hd zOff_at (fun q => kt q _ (zChk_ok hm hr l2) H locs ls hR hL hlo q1 q2) (fun q => kf q _ hc H locs ls hR hL hlo q1 q2)
theorem zs_icmp_eq (C : zCtx G m0 p s mm args meth cd) (hm : m0 < 305) (hr : m0 ≠ zRef) {l2 : Int} {x y : Int32} (kt : x = y → zXW G m0 p l e R s mm args below meth cd FQ h0 (zB m0 l2) L st h) (kf : ¬ (x = y) → zXW G m0 p l e R s mm args below meth cd FQ h0 r L st h) : zXW G m0 p l e R s mm args below meth cd FQ h0 (.if_icmp .eq l2 :: r) L (.int y :: .int x :: st) h := by
  intro pc hc H locs ls hR hL hlo q1 q2
  obtain ⟨hd, hc⟩ := zChk_1 (fun _ h => by cases h) rfl hc
  exact lv_icmp_eq C.x C.b hd zOff_at (fun q => kt q _ (zChk_ok hm hr l2) H locs ls hR hL hlo q1 q2) (fun q => kf q _ hc H locs ls hR hL hlo q1 q2)
theorem zs_if_ne (C : zCtx G m0 p s mm args meth cd) (hm : m0 < 305) (hr : m0 ≠ zRef) {l2 : Int} {x : Int32} (kt : ¬ x = 0 → zXW G m0 p l e R s mm args below meth cd FQ h0 (zB m0 l2) L st h) (kf : ¬ (¬ x = 0) → zXW G m0 p l e R s mm args below meth cd FQ h0 r L st h) : zXW G m0 p l e R s mm args below meth cd FQ h0 (.ifCond .ne l2 :: r) L (.int x :: st) h := by
  intro pc hc H locs ls hR hL hlo q1 q2
  obtain ⟨hd, hc⟩ := zChk_1 (fun _ h => by cases h) rfl hc
  exact lv_if_ne C.x C.b hd zOff_at (fun q => kt q _ (zChk_ok hm hr l2) H locs ls hR hL hlo q1 q2) (fun q => kf q _ hc H locs ls hR hL hlo q1 q2)
theorem zs_icmp_ne (C : zCtx G m0 p s mm args meth cd) (hm : m0 < 305) (hr : m0 ≠ zRef) {l2 : Int} {x y : Int32} (kt : ¬ x = y → zXW G m0 p l e R s mm args below meth cd FQ h0 (zB m0 l2) L st h) (kf : ¬ (¬ x = y) → zXW G m0 p l e R s mm args below meth cd FQ h0 r L st h) : zXW G m0 p l e R s mm args below meth cd FQ h0 (.if_icmp .ne l2 :: r) L (.int y :: .int x :: st) h := by
  intro pc hc H locs ls hR hL hlo q1 q2
  obtain ⟨hd, hc⟩ := zChk_1 (fun _ h => by cases h) rfl hc
  exact lv_icmp_ne C.x C.b hd zOff_at (fun q => kt q _ (zChk_ok hm hr l2) H locs ls hR hL hlo q1 q2) (fun q => kf q _ hc H locs ls hR hL hlo q1 q2)
theorem zs_if_lt (C : zCtx G m0 p s mm args meth cd) (hm : m0 < 305) (hr : m0 ≠ zRef) {l2 : Int} {x : Int32} (kt : x < 0 → zXW G m0 p l e R s mm args below meth cd FQ h0 (zB m0 l2) L st h) (kf : ¬ (x < 0) → zXW G m0 p l e R s mm args below meth cd FQ h0 r L st h) : zXW G m0 p l e R s mm args below meth cd FQ h0 (.ifCond .lt l2 :: r) L (.int x :: st) h := by
  intro pc hc H locs ls hR hL hlo q1 q2
  obtain ⟨hd, hc⟩ := zChk_1 (fun _ h => by cases h) rfl hc
  exact lv_if_lt C.x C.b hd zOff_at (fun q => kt q _ (zChk_ok hm hr l2) H locs ls hR hL hlo q1 q2) (fun q => kf q _ hc H locs ls hR hL hlo q1 q2)
theorem zs_icmp_lt (C : zCtx G m0 p s mm args meth cd) (hm : m0 < 305) (hr : m0 ≠ zRef) {l2 : Int} {x y : Int32} (kt : x < y → zXW G m0 p l e R s mm args below meth cd FQ h0 (zB m0 l2) L st h) (kf : ¬ (x < y) → zXW G m0 p l e R s mm args below meth cd FQ h0 r L st h) : zXW G m0 p l e R s mm args below meth cd FQ h0 (.if_icmp .lt l2 :: r) L (.int y :: .int x :: st) h := by
  intro pc hc H locs ls hR hL hlo q1 q2
  obtain ⟨hd, hc⟩ := zChk_1 (fun _ h => by cases h) rfl hc
  exact lv_icmp_lt C.x C.b hd zOff_at (fun q => kt q _ (zChk_ok hm hr l2) H locs ls hR hL hlo q1 q2) (fun q => kf q _ hc H locs ls hR hL hlo q1 q2)
theorem zs_if_ge (C : zCtx G m0 p s mm args meth cd) (hm : m0 < 305) (hr : m0 ≠ zRef) {l2 : Int} {x : Int32} (kt : 0 ≤ x → zXW G m0 p l e R s mm args below meth cd FQ h0 (zB m0 l2) L st h) (kf : ¬ (0 ≤ x) → zXW G m0 p l e R s mm args below meth cd FQ h0 r L st h) : zXW G m0 p l e R s mm args below meth cd FQ h0 (.ifCond .ge l2 :: r) L (.int x :: st) h := by
  intro pc hc H locs ls hR hL hlo q1 q2
  obtain ⟨hd, hc⟩ := zChk_1 (fun _ h => by cases h) rfl hc
  exact lv_if_ge C.x C.b hd zOff_at (fun q => kt q _ (zChk_ok hm hr l2) H locs ls hR hL hlo q1 q2) (fun q => kf q _ hc H locs ls hR hL hlo q1 q2)
theorem zs_icmp_ge (C : zCtx G m0 p s mm args meth cd) (hm : m0 < 305) (hr : m0 ≠ zRef) {l2 : Int} {x y : Int32} (kt : y ≤ x → zXW G m0 p l e R s mm args below meth cd FQ h0 (zB m0 l2) L st h) (kf : ¬ (y ≤ x) → zXW G m0 p l e R s mm args below meth cd FQ h0 r L st h) : zXW G m0 p l e R s mm args below meth cd FQ h0 (.if_icmp .ge l2 :: r) L (.int y :: .int x :: st) h := by
  intro pc hc H locs ls hR hL hlo q1 q2
  obtain ⟨hd, hc⟩ := zChk_1 (fun _ h => by cases h) rfl hc
  exact lv_icmp_ge C.x C.b hd zOff_at (fun q => kt q _ (zChk_ok hm hr l2) H locs ls hR hL hlo q1 q2) (fun q => kf q _ hc H locs ls hR hL hlo q1 q2)
theorem zs_if_gt (C : zCtx G m0 p s mm args meth cd) (hm : m0 < 305) (hr : m0 ≠ zRef) {l2 : Int} {x : Int32} (kt : 0 < x → zXW G m0 p l e R s mm args below meth cd FQ h0 (zB m0 l2) L st h) (kf : ¬ (0 < x) → zXW G m0 p l e R s mm args below meth cd FQ h0 r L st h) : zXW G m0 p l e R s mm args below meth cd FQ h0 (.ifCond .gt l2 :: r) L (.int x :: st) h := by
  intro pc hc H locs ls hR hL hlo q1 q2
  obtain ⟨hd, hc⟩ := zChk_1 (fun _ h => by cases h) rfl hc
  exact lv_if_gt C.x C.b hd zOff_at (fun q => kt q _ (zChk_ok hm hr l2) H locs ls hR hL hlo q1 q2) (fun q => kf q _ hc H locs ls hR hL hlo q1 q2)
theorem zs_icmp_gt (C : zCtx G m0 p s mm args meth cd) (hm : m0 < 305) (hr : m0 ≠ zRef) {l2 : Int} {x y : Int32} (kt : y < x → zXW G m0 p l e R s mm args below meth cd FQ h0 (zB m0 l2) L st h) (kf : ¬ (y < x) → zXW G m0 p l e R s mm args below meth cd FQ h0 r L st h) : zXW G m0 p l e R s mm args below meth cd FQ h0 (.if_icmp .gt l2 :: r) L (.int y :: .int x :: st) h := by
  intro pc hc H locs ls hR hL hlo q1 q2
  obtain ⟨hd, hc⟩ := zChk_1 (fun _ h => by cases h) rfl hc
  exact lv_icmp_gt C.x C.b hd zOff_at (fun q => kt q _ (zChk_ok hm hr l2) H locs ls hR hL hlo q1 q2) (fun q => kf q _ hc H locs ls hR hL hlo q1 q2)
theorem zs_if_le (C : zCtx G m0 p s mm args meth cd) (hm : m0 < 305) (hr : m0 ≠ zRef) {l2 : Int} {x : Int32} (kt : x ≤ 0 → zXW G m0 p l e R s mm args below meth cd FQ h0 (zB m0 l2) L st h) (kf : ¬ (x ≤ 0) → zXW G m0 p l e R s mm args below meth cd FQ h0 r L st h) : zXW G m0 p l e R s mm args below meth cd FQ h0 (.ifCond .le l2 :: r) L (.int x :: st) h := by
  intro pc hc H locs ls hR hL hlo q1 q2
  obtain ⟨hd, hc⟩ := zChk_1 (fun _ h => by cases h) rfl hc
  exact lv_if_le C.x C.b hd zOff_at (fun q => kt q _ (zChk_ok hm hr l2) H locs ls hR hL hlo q1 q2) (fun q => kf q _ hc H locs ls hR hL hlo q1 q2)
theorem zs_icmp_le (C : zCtx G m0 p s mm args meth cd) (hm : m0 < 305) (hr : m0 ≠ zRef) {l2 : Int} {x y : Int32} (kt : x ≤ y → zXW G m0 p l e R s mm args below meth cd FQ h0 (zB m0 l2) L st h) (kf : ¬ (x ≤ y) → zXW G m0 p l e R s mm args below meth cd FQ h0 r L st h) : zXW G m0 p l e R s mm args below meth cd FQ h0 (.if_icmp .le l2 :: r) L (.int y :: .int x :: st) h := by
  intro pc hc H locs ls hR hL hlo q1 q2
  obtain ⟨hd, hc⟩ := zChk_1 (fun _ h => by cases h) rfl hc
  exact lv_icmp_le C.x C.b hd zOff_at (fun q => kt q _ (zChk_ok hm hr l2) H locs ls hR hL hlo q1 q2) (fun q => kf q _ hc H locs ls hR hL hlo q1 q2)
end
end
section
/-! SOUNDNESS, 3: fields, arrays, new cells, switches -/
theorem zIdx {j : Int32} {n : Int} (h1 : 0 ≤ j.toInt) (h2 : j.toInt < n) : ¬ (j < 0 ∨ n.toNat ≤ j.toNatClampNeg) ∧ j.toNatClampNeg < n.toNat ∧ ((j.toNatClampNeg : Nat) : Int) = j.toInt := by
  have e : j.toNatClampNeg = j.toInt.toNat := rfl
  have h3 : ¬ j < 0 := by
    rw [Int32.lt_iff_toInt_lt]
    simp
    exact h1
  refine ⟨fun q => q.elim h3 (fun q => by omega), by omega, by omega⟩
section
variable {G : zG} {m0 : Nat} {p : Program} {l : Launch} {e : Env} {R : Room} {s : State} {mm : MethodId} {args : Array Value} {below : List Frame} {meth : Method} {cd : Code} {FQ : State → Prop} {h0 : zH} {r : List Instr} {L st : List Value} {h : zH}
theorem zs_getfield (C : zCtx G m0 p s mm args meth cd) {n a : Nat} (ht : h.1.tg a = n / 64) (kk : zXW G m0 p l e R s mm args below meth cd FQ h0 r L (h.2 a (n % 64 : Nat) :: st) h) : zXW G m0 p l e R s mm args below meth cd FQ h0 (.getfield n :: r) L (.ref a :: st) h := by
  intro pc hc H locs ls hR hL hlo q1 q2
  obtain ⟨q, hq, hd, hc⟩ := zChk_c (fun _ h => by cases h) hc
  obtain ⟨b, hb, hp, rfl⟩ := zPk_m hq
  simp only [Bool.and_eq_true, beq_iff_eq] at hp
  obtain ⟨r1, r2, r3⟩ := zFL_rng b hb
  have hw := C.ts _ (zFL_ok b hb)
  dsimp only at hw
  rw [hp.1, hp.2] at hw
  rw [hp.2] at r1 r2 r3
  obtain ⟨cell, c1, c2, c3, c4⟩ := (hR.cell ht (by omega)).2.2.1 r1
  obtain ⟨hS, hfc, kC, hkC, hkind⟩ := C.kn.2.1 (n / 64) r1 r2
  obtain ⟨cf, kf, fi, f, hi, hsl⟩ := hS (n % 64) r3
  exact W.getf C.x C.b C.own hw hi (u_facts hfc hkC (u_lays C.ts (zLay_in r1) r3) hi).1 c1 (by rw [c3]; exact fun h => by cases h) (v := zCv G (h.2 a (n % 64 : Nat))) (by rw [hsl]; exact c4 _ r3) rfl rfl hd (kk _ hc H locs ls hR hL hlo q1 q2)
theorem zFit_ok {G : zG} {t k : Nat} {v : Value} (ht : t < 11) (hk : k < zNf t) (hf : zFit (zTy (64 * t + k)) v = true) : narrow (zFt t k) (zCv G v) = zCv G v ∧ fits (zFt t k) (zCv G v) = true := by
  rcases zTy_ok t ht k hk with ⟨e1, e2⟩ | ⟨e1, e2⟩ | ⟨e1, e2⟩ | ⟨e1, e2⟩
  · rw [e1] at hf
    rw [e2]
    cases v <;> first | exact ⟨rfl, rfl⟩ | (simp [zFit] at hf)
  · rw [e1] at hf
    rw [e2]
    cases v with
    | int x =>
      simp [zFit] at hf
      rcases hf with rfl | rfl <;> exact ⟨rfl, rfl⟩
    | _ => simp [zFit] at hf
  · rw [e1] at hf
    rw [e2]
    cases v <;> first | exact ⟨rfl, rfl⟩ | (simp [zFit] at hf)
  · rw [e1] at hf
    cases v with
    | ref a =>
      generalize zFt t k = ty at e2 ⊢
      cases ty <;> first | exact ⟨rfl, rfl⟩ | (cases e2)
    | _ => simp [zFit] at hf
theorem zs_putfield (C : zCtx G m0 p s mm args meth cd) {n a : Nat} {v : Value} (ht : h.1.tg a = n / 64) (hf : zFit (zTy n) v = true) (kk : zXW G m0 p l e R s mm args below meth cd FQ h0 r L st (h.1, zput h.2 a (n % 64 : Nat) v)) : zXW G m0 p l e R s mm args below meth cd FQ h0 (.putfield n :: r) L (v :: .ref a :: st) h := by
  intro pc hc H locs ls hR hL hlo q1 q2
  obtain ⟨q, hq, hd, hc⟩ := zChk_c (fun _ h => by cases h) hc
  have hq : q ∈ (if zFinal n = true ∧ ¬ (zKd m0 = 1 ∧ zOw m0 = n / 64) then [] else zPk zFL (fun e => e.1 == zOw m0 && e.2.2 == n) (fun e => (Instr.putfield e.2.1, 3))) := hq
  split at hq
  · cases hq
  rename_i hfin
  obtain ⟨b, hb, hp, rfl⟩ := zPk_m hq
  simp only [Bool.and_eq_true, beq_iff_eq] at hp
  obtain ⟨r1, r2, r3⟩ := zFL_rng b hb
  have hw := C.ts _ (zFL_ok b hb)
  dsimp only at hw
  rw [hp.1, hp.2] at hw
  rw [hp.2] at r1 r2 r3
  obtain ⟨g1, g2, gc⟩ := hR.cell ht (by omega)
  obtain ⟨cell, c1, c2, c3, c4⟩ := gc.1 r1
  obtain ⟨hS, hfc, kC, hkC, hkind⟩ := C.kn.2.1 (n / 64) r1 r2
  have hap : ∀ x y, x < zNf (n / 64) → y < zNf (n / 64) → x ≠ y → G.dI (n / 64) x ≠ G.dI (n / 64) y := by
    intro x y hx hy hne
    obtain ⟨_, _, _, fa, hia, ea⟩ := hS x hx
    obtain ⟨_, _, _, fb, hib, eb⟩ := hS y hy
    rw [← ea, ← eb]
    refine u_apart (u_lays C.ts (zLay_in r1) hx) (u_lays C.ts (zLay_in r1) hy) hia hib ?_
    rw [(State.fieldFound?_type hia (zFt_ok _ r1 x hx)).1, (State.fieldFound?_type hib (zFt_ok _ r1 y hy)).1]
    exact zTx_nm _ r1 x hx y hy hne
  obtain ⟨cf, kf, fi, f, hi, hsl⟩ := hS (n % 64) r3
  have hst := (u_facts hfc hkC (u_lays C.ts (zLay_in r1) r3) hi).1
  have hty := zFt_ok _ r1 _ r3
  have en : 64 * (n / 64) + n % 64 = n := Nat.div_add_mod n 64
  have hnf := zFit_ok (G := G) r1 r3 (by rw [en]; exact hf)
  have hlay := C.ts _ (zLay_in r1 _ (u_in_lay r3))
  have fin : ∀ H' : Heap, H'[zAdr G a]? = some (cell.setSlot f.slot (zCv G v)) → H'.size = H.size → (∀ q : Nat, q ≠ zAdr G a → H'[q]? = H[q]?) → W p l e R s mm args below meth cd H' (locs ++ [⟨zAdr G a, f.slot⟩]) (h.1.sz - h0.1.sz) (h.1.sl - h0.1.sl) FQ (F0 mm (pc + 3) ls (st.map (zCv G))) := by
    intro H' e1 e2 e3
    rw [hsl] at e1
    refine kk _ hc H' _ ls (hR.write g1 g2 e2 e3 (f := zput h.2 a (n % 64 : Nat) v a) ⟨fun _ => ?_, fun a b => by rw [ht] at a; omega, fun a => by rw [ht] at a; omega⟩ rfl (fun r' hr' => funext fun k => if_neg (fun q => hr' q.1))) hL (fun q hq => ?_) q1 q2
    · rw [ht]
      refine t_OB.to (V := updV (fun k : Nat => zCv G (h.2 a k)) (n % 64) (zCv G v)) ⟨_, e1, c2, c3, t_set c4 hap r3 _⟩ (fun j hj => ?_)
      unfold updV zput
      by_cases e : j = n % 64
      · rw [if_pos e, if_pos ⟨rfl, by rw [e]⟩]
      · rw [if_neg e, if_neg (fun q => e (by have := q.2; omega))]
    · rcases List.mem_append.mp hq with hq | hq
      · exact hlo q hq
      · rw [List.mem_singleton.mp hq]
        exact zAdr_base g1
  unfold u_lay at hlay
  by_cases hF : (zTx (n / 64) (n % 64)).2.2.2 = true
  · rw [if_pos hF] at hlay
    have hk1 : zKd m0 = 1 ∧ zOw m0 = n / 64 := by
      by_cases q : zKd m0 = 1 ∧ zOw m0 = n / 64
      · exact q
      · exact absurd ⟨hF, q⟩ hfin
    have hdecl : (zTx (n / 64) (n % 64)).1 = zCn (n / 64) := zTx_own _ r1 _ r3 hF
    have hcf : mm.cls = cf := by
      obtain ⟨_, _, c', _, _, _, -, -, hf', -, -, -, hown2, -⟩ := Cond.laysFinal_spec hlay
      have e1 : c' = cf := by have := hi.symm.trans hf'; simp at this; exact this.1.symm
      rw [hdecl, ← hk1.2] at hown2
      rw [← e1]; exact Option.some.inj (C.own.symm.trans hown2)
    have h6 := u_fits hfc hkC hkind (Or.inr hlay) hi hty hnf.1 hnf.2
    exact W.putFinK C.x C.b C.own hw hi hst hcf (C.ini hk1.1) (by rw [c2]; exact h6) c1 c3 (by rw [hsl]; exact k2_hasslot (c4 _ r3)) rfl rfl hd fin
  · rw [if_neg hF] at hlay
    have h6 := u_store hfc hkC hkind hlay hi hty hnf.1 hnf.2
    exact W.putK C.x C.b (f := f) ⟨C.own, hw, ⟨_, _, _, hi⟩, hst⟩ (by rw [c2]; exact h6) c1 c3 (by rw [hsl]; exact k2_hasslot (c4 _ r3)) rfl rfl hd fin
theorem zs_getstatic (C : zCtx G m0 p s mm args meth cd) {n : Nat} (kk : zXW G m0 p l e R s mm args below meth cd FQ h0 r L (.ref n :: st) h) : zXW G m0 p l e R s mm args below meth cd FQ h0 (.getstatic n :: r) L st h := by
  intro pc hc H locs ls hR hL hlo q1 q2
  obtain ⟨q, hq, hd, hc⟩ := zChk_c (fun _ h => by cases h) hc
  obtain ⟨b, hb, hp, rfl⟩ := zPk_m hq
  simp only [Bool.and_eq_true, beq_iff_eq] at hp
  have r1 := zSF_rng b hb
  have hw := C.ts _ (zSF_ok b hb)
  dsimp only at hw
  rw [hp.1, hp.2] at hw
  rw [hp.2] at r1
  obtain ⟨cf, kf, fi, f, a, cell, h1, h2, h3, h4, h5, h6, h7, h8⟩ := C.kn.2.2.2.2.2.2.2.1 n r1
  have ea : zCv G (.ref n) = .ref (G.sa n) := by
    show Value.ref (zAdr G n) = _
    rw [zAdr_lo (by omega)]
  refine W.gets C.x C.b C.own hw h1 h2 h3 h4 (by rw [hR.2.1 a (Nat.lt_of_not_le h8)]; exact h5) (fun e => by rw [e] at h6; cases h6) h7 rfl hd ?_
  rw [← ea]
  exact kk _ hc H locs ls hR hL hlo q1 q2
theorem zs_new (C : zCtx G m0 p s mm args meth cd) {t : Nat} (hcap : h.1.sz + 1 - h0.1.sz ≤ R.cells ∧ h.1.sl + zNf t - h0.1.sl ≤ R.slots) (kk : zXW G m0 p l e R s mm args below meth cd FQ h0 r L (.ref h.1.sz :: st) (zHnew h t 0 (zNf t) (zDf t))) : zXW G m0 p l e R s mm args below meth cd FQ h0 (.new t :: r) L st h := by
  intro pc hc H locs ls hR hL hlo q1 q2
  obtain ⟨q, hq, hd, hc⟩ := zChk_c (fun _ h => by cases h) hc
  obtain ⟨b, hb, hp, rfl⟩ := zPk_m hq
  simp only [Bool.and_eq_true, beq_iff_eq] at hp
  obtain ⟨r1, r2, r3⟩ := zCL_rng b hb
  have hw := C.ts _ (zCL_ok b hb)
  dsimp only at hw
  rw [hp.1, hp.2] at hw
  rw [hp.2] at r1 r2 r3
  have ht6 : t ≠ 6 := fun q => by rw [q] at r2; revert r2; decide
  refine W.newc C.x C.b C.own hw (C.ts _ (zIs_ok t r2)) (C.ts _ (zIc_ok t r3)) rfl hd (by omega) (by omega) (fun cC kC f1 f2 f3 f4 => ?_)
  have hK := C.kn.2.1 t r1 ht6
  have ec : cC = G.dC t := Option.some.inj (f1.symm.trans hK.2.1)
  have ea := zAdr_sz hR
  have er : Value.ref H.size = zCv G (.ref h.1.sz) := by
    show _ = Value.ref (zAdr G h.1.sz)
    rw [ea]
  have e1 : h.1.sz - h0.1.sz + 1 = (zHnew h t 0 (zNf t) (zDf t)).1.sz - h0.1.sz := by
    show _ = h.1.sz + 1 - h0.1.sz
    omega
  have e2 : h.1.sl - h0.1.sl + zNf t = (zHnew h t 0 (zNf t) (zDf t)).1.sl - h0.1.sl := by
    show _ = h.1.sl + zNf t - h0.1.sl
    omega
  rw [e1, e2]
  refine W.eq (g2 := F0 mm (pc + 3) ls ((Value.ref h.1.sz :: st).map (zCv G))) (by rw [List.map_cons, ← er]) ?_
  refine kk _ hc _ locs ls (hR.made (by omega) (fun H' hH' => ⟨fun _ => ?_, fun a b => by omega, fun a => by omega⟩)) hL hlo (by show _ ≤ h.1.sz + 1; omega) (by show _ ≤ h.1.sl + zNf t; omega)
  have hB := u_born (o := zAdr G h.1.sz) (H := H') (kC := kC) (zFt t) C.ts (zLay_in r1) hK (by rw [← ec]; exact f2) (by rw [hH', ec]; rfl) (fun k hk => zFt_ok t r1 k hk)
  refine hB.to (fun k hk => ?_)
  obtain ⟨d1, d2⟩ := zDf_ok t r1 k hk
  rw [d1]
  rcases d2 with d2 | d2 | d2 <;> rw [d2] <;> rfl
theorem zKn.arr {U : State} (hK : zKn G U) {t : Nat} (h1 : 20 ≤ t) (h2 : t ≤ 26) (n : Nat) (z : Nat → Value) : U.isArrayOf (arrV (G.cA t) n z) (zEt t) := (hK.2.2.1 t h1 h2).1 n z
theorem zs_newarray (C : zCtx G m0 p s mm args meth cd) {t : ArrayType} {n : Int32} (hn0 : 0 ≤ n.toInt) (hn1 : n.toInt ≤ 1000000) (hcap : h.1.sz + 1 - h0.1.sz ≤ R.cells ∧ h.1.sl + n.toInt.toNat - h0.1.sl ≤ R.slots) (kk : zXW G m0 p l e R s mm args below meth cd FQ h0 r L (.ref h.1.sz :: st) (zHnew h (zAt t) n.toInt n.toInt.toNat (fun _ => zAd t))) : zXW G m0 p l e R s mm args below meth cd FQ h0 (.newarray t :: r) L (.int n :: st) h := by
  intro pc hc H locs ls hR hL hlo q1 q2
  obtain ⟨q, hq, hd, hc⟩ := zChk_c (fun _ h => by cases h) hc
  have hq : q ∈ (if zAt t = 99 then [] else [(Instr.newarray t, 2)]) := hq
  split at hq
  · cases hq
  rename_i h99
  rw [List.mem_singleton.mp hq] at hd hc
  have hneg : ¬ n < 0 := by
    rw [Int32.lt_iff_toInt_lt]
    simp
    exact hn0
  have hz : n.toNatClampNeg = n.toInt.toNat := rfl
  have key : 20 ≤ zAt t ∧ zAt t ≤ 23 ∧ newarray.typeOf t = zEt (zAt t) ∧ (Cond.arrayClass (newarray.typeOf t)) ∈ zGood ∧ defaultValue (newarray.typeOf t) = zCv G (zAd t) ∧ componentBytes (newarray.typeOf t) ≤ 8 := by
    cases t <;> first
      | exact ⟨by decide, by decide, rfl, zw_aI, rfl, by decide⟩
      | exact ⟨by decide, by decide, rfl, zw_aJ, rfl, by decide⟩
      | exact ⟨by decide, by decide, rfl, zw_aD, rfl, by decide⟩
      | exact ⟨by decide, by decide, rfl, zw_aZ, rfl, by decide⟩
      | exact absurd rfl h99
  obtain ⟨k1, k2, k3, k4, k5, k6⟩ := key
  have hb : n.toNatClampNeg * componentBytes (newarray.typeOf t) ≤ 536870912 := by
    rw [hz]
    have : n.toInt.toNat * componentBytes (newarray.typeOf t) ≤ 1000000 * 8 := Nat.mul_le_mul (by omega) k6
    omega
  refine W.newa C.x C.b (C.ts _ k4) rfl hd rfl hneg hb (by omega) (by rw [hz]; omega) (fun cA kA comp f1 f2 f3 => ?_)
  have ec : cA = G.cA (zAt t) := by
    have h1 := (C.kn.2.2.1 (zAt t) k1 (by omega)).2
    rw [k3] at f1
    have h2 : s.vm.findClass ("[" ++ (zEt (zAt t)).toString) = some (G.cA (zAt t)) := by
      revert h1
      cases t <;> first | exact fun h => h | exact absurd rfl h99
    exact Option.some.inj (f1.symm.trans h2)
  have ea := zAdr_sz hR
  have er : Value.ref H.size = zCv G (.ref h.1.sz) := by
    show _ = Value.ref (zAdr G h.1.sz)
    rw [ea]
  have e1 : h.1.sz - h0.1.sz + 1 = (zHnew h (zAt t) n.toInt n.toInt.toNat (fun _ => zAd t)).1.sz - h0.1.sz := by
    show _ = h.1.sz + 1 - h0.1.sz
    omega
  have e2 : h.1.sl - h0.1.sl + n.toNatClampNeg = (zHnew h (zAt t) n.toInt n.toInt.toNat (fun _ => zAd t)).1.sl - h0.1.sl := by
    show _ = h.1.sl + n.toInt.toNat - h0.1.sl
    rw [hz]
    omega
  rw [e1, e2]
  refine W.eq (g2 := F0 mm (pc + 2) ls ((Value.ref h.1.sz :: st).map (zCv G))) (by rw [List.map_cons, ← er]) ?_
  refine kk _ hc _ locs ls (hR.made (by omega) (fun H' hH' => ⟨fun a => by omega, fun a b => ⟨hn0, ?_⟩, fun a j _ _ => ?_⟩)) hL hlo (by show _ ≤ h.1.sz + 1; omega) (by show _ ≤ h.1.sl + n.toInt.toNat; omega)
  rotate_left
  · cases t <;> first | exact ⟨0, rfl⟩ | (revert a; decide)
  rw [hH', ec, k5, hz]
  exact congrArg some (arrV_new _ _ _)
theorem zs_anewarray (C : zCtx G m0 p s mm args meth cd) {t : Nat} {n : Int32} (hn0 : 0 ≤ n.toInt) (hn1 : n.toInt ≤ 1000000) (hcap : h.1.sz + 1 - h0.1.sz ≤ R.cells ∧ h.1.sl + n.toInt.toNat - h0.1.sl ≤ R.slots) (kk : zXW G m0 p l e R s mm args below meth cd FQ h0 r L (.ref h.1.sz :: st) (zHnew h 26 n.toInt n.toInt.toNat (fun _ => .null))) : zXW G m0 p l e R s mm args below meth cd FQ h0 (.anewarray t :: r) L (.int n :: st) h := by
  intro pc hc H locs ls hR hL hlo q1 q2
  obtain ⟨q, hq, hd, hc⟩ := zChk_c (fun _ h => by cases h) hc
  obtain ⟨b, hb, hp, rfl⟩ := zPk_m hq
  simp only [Bool.and_eq_true, beq_iff_eq] at hp
  have hw := C.ts _ (zCL_ok b hb)
  dsimp only at hw
  rw [hp.1, hp.2] at hw
  have hneg : ¬ n < 0 := by
    rw [Int32.lt_iff_toInt_lt]
    simp
    exact hn0
  have hz : n.toNatClampNeg = n.toInt.toNat := rfl
  refine W.anew C.x C.b C.own hw (va_AO.use C.kn.2.2.2.2.2.2.1.2.2) rfl hd rfl hneg (by rw [hz]; omega) (by omega) (by rw [hz]; omega) (fun cA kA comp f1 f2 f3 f4 => ?_)
  have ec : cA = G.cA 26 := by
    obtain ⟨kA', comp', -, -, -, h2⟩ := (C.kn.2.2.1 26 (by omega) (by omega)).2
    exact Option.some.inj (f1.symm.trans h2)
  have ea := zAdr_sz hR
  have er : Value.ref H.size = zCv G (.ref h.1.sz) := by
    show _ = Value.ref (zAdr G h.1.sz)
    rw [ea]
  have e1 : h.1.sz - h0.1.sz + 1 = (zHnew h 26 n.toInt n.toInt.toNat (fun _ => .null)).1.sz - h0.1.sz := by
    show _ = h.1.sz + 1 - h0.1.sz
    omega
  have e2 : h.1.sl - h0.1.sl + n.toNatClampNeg = (zHnew h 26 n.toInt n.toInt.toNat (fun _ => .null)).1.sl - h0.1.sl := by
    show _ = h.1.sl + n.toInt.toNat - h0.1.sl
    rw [hz]
    omega
  rw [e1, e2]
  refine W.eq (g2 := F0 mm (pc + 3) ls ((Value.ref h.1.sz :: st).map (zCv G))) (by rw [List.map_cons, ← er]) ?_
  refine kk _ hc _ locs ls (hR.made (by omega) (fun H' hH' => ⟨fun a => by omega, fun a b => ⟨hn0, ?_⟩, fun a => by omega⟩)) hL hlo (by show _ ≤ h.1.sz + 1; omega) (by show _ ≤ h.1.sl + n.toInt.toNat; omega)
  rw [hH', ec, hz]
  exact congrArg some (arrV_new _ _ _)
theorem zs_alen (C : zCtx G m0 p s mm args meth cd) {a : Nat} (h1 : 20 ≤ h.1.tg a) (h2 : h.1.tg a ≤ 26 ∨ h.1.tg a = 32) (h3 : h.1.ln a ≤ 1000000) (kk : zXW G m0 p l e R s mm args below meth cd FQ h0 r L (.int (Int32.ofInt (h.1.ln a)) :: st) h) : zXW G m0 p l e R s mm args below meth cd FQ h0 (.arraylength :: r) L (.ref a :: st) h := by
  intro pc hc H locs ls hR hL hlo q1 q2
  obtain ⟨hd, hc⟩ := zChk_1 (fun _ h => by cases h) rfl hc
  rcases h2 with h2 | h2
  · obtain ⟨g1, g2, gc⟩ := hR.cell rfl h2
    obtain ⟨g3, g4⟩ := gc.2.1 h1 h2
    refine W.alen C.x C.b g4 (C.kn.arr h1 h2 _ _) (n := Int32.ofInt (h.1.ln a)) ?_ rfl rfl hd (kk _ hc H locs ls hR hL hlo q1 q2)
    rw [arrV_size]
    apply Int32.toInt_inj.mp
    rw [Int32.toInt_ofInt_of_le (by omega) (by omega)]
    show (Int32.ofNat (h.1.ln a).toNat).toInt = _
    rw [Int32.toInt_ofNat_of_lt (by omega)]
    omega
  · have hr := hR.stat (by omega) (by omega) (r := a)
    have e4 : a = 4 := by
      have := (hR.2.2.1 a hr).1
      rw [h2] at this
      rcases (by omega : a = 0 ∨ a = 1 ∨ a = 2 ∨ a = 3 ∨ a = 4) with rfl | rfl | rfl | rfl | rfl <;> first | rfl | (revert this; decide)
    obtain ⟨k1, k2, k3, k4⟩ := C.kn.1 a hr
    have hln := (hR.2.2.1 a hr).2.2.2 e4
    have ea : zAdr G a = G.sa a := zAdr_lo hr
    refine W.alen C.x C.b (a := zAdr G a) (cell := G.cs a) (by rw [ea, hR.2.1 _ k1]; exact k2) k3 (n := Int32.ofInt (h.1.ln a)) ?_ rfl rfl hd (kk _ hc H locs ls hR hL hlo q1 q2)
    apply Int32.toInt_inj.mp
    rw [Int32.toInt_ofInt_of_le (by omega) (by omega)]
    show (Int32.ofNat (G.cs a).slots.size).toInt = _
    rw [Int32.toInt_ofNat_of_lt (by omega)]
    omega
end
end
section
/-! SOUNDNESS, 4: arrays; written by wip/whole/gen_sound2.py -/
section
variable {G : zG} {m0 : Nat} {p : Program} {l : Launch} {e : Env} {R : Room} {s : State} {mm : MethodId} {args : Array Value} {below : List Frame} {meth : Method} {cd : Code} {FQ : State → Prop} {h0 : zH} {r : List Instr} {L st : List Value} {h : zH}
theorem zTs_of {a : Nat} (h : a < 5) : (zTs a = 30 → zSty a = .int) ∧ (zTs a = 32 → zSty a = .int) ∧ (zTs a = 31 → zSty a = .long) := by
  rcases (by omega : a = 0 ∨ a = 1 ∨ a = 2 ∨ a = 3 ∨ a = 4) with rfl | rfl | rfl | rfl | rfl <;> decide
theorem zs_iaload (C : zCtx G m0 p s mm args meth cd) {a : Nat} {j : Int32} (ht : h.1.tg a = 20 ∨ h.1.tg a = 30 ∨ h.1.tg a = 32) (h1 : 0 ≤ j.toInt) (h2 : j.toInt < h.1.ln a) (kk : zXW G m0 p l e R s mm args below meth cd FQ h0 r L (h.2 a j.toInt :: st) h) : zXW G m0 p l e R s mm args below meth cd FQ h0 (.iaload :: r) L (.int j :: .ref a :: st) h := by
  intro pc hc H locs ls hR hL hlo q1 q2
  obtain ⟨hd, hc⟩ := zChk_1 (fun _ h => by cases h) rfl hc
  obtain ⟨i1, i2, i3⟩ := zIdx h1 h2
  rcases ht with ht | ht | ht
  · obtain ⟨g1, g2, gc⟩ := hR.cell ht (by omega)
    obtain ⟨g3, g4⟩ := gc.2.1 (by omega) (by omega)
    exact W.iald C.x C.b g4 (C.kn.arr (by omega) (by omega) _ _) (by intro q; cases q) (by rw [arrV_size]; exact i1) (by rw [arrV_read _ _ i2, i3]) rfl rfl hd (kk _ hc H locs ls hR hL hlo q1 q2)
  · have hr := hR.stat (by omega) (by omega) (r := a)
    obtain ⟨s1, s2, s3, s4⟩ := hR.2.2.1 a hr
    obtain ⟨k1, k2, k3, k4⟩ := C.kn.1 a hr
    have ea : zAdr G a = G.sa a := zAdr_lo hr
    have ety : zSty a = .int := (zTs_of hr).1 (by rw [← s1]; exact ht)
    rw [ety] at k3
    refine W.iald C.x C.b (a := zAdr G a) (cell := G.cs a) (by rw [ea, hR.2.1 _ k1]; exact k2) k3 k4 (fun q => i1 (q.imp id (fun q => by omega))) (v := zCv G (h.2 a j.toInt)) ?_ rfl rfl hd (kk _ hc H locs ls hR hL hlo q1 q2)
    exact s2 j.toInt h1 h2
  · have hr := hR.stat (by omega) (by omega) (r := a)
    obtain ⟨s1, s2, s3, s4⟩ := hR.2.2.1 a hr
    obtain ⟨k1, k2, k3, k4⟩ := C.kn.1 a hr
    have ea : zAdr G a = G.sa a := zAdr_lo hr
    have ety : zSty a = .int := (zTs_of hr).2.1 (by rw [← s1]; exact ht)
    rw [ety] at k3
    refine W.iald C.x C.b (a := zAdr G a) (cell := G.cs a) (by rw [ea, hR.2.1 _ k1]; exact k2) k3 k4 (fun q => i1 (q.imp id (fun q => by omega))) (v := zCv G (h.2 a j.toInt)) ?_ rfl rfl hd (kk _ hc H locs ls hR hL hlo q1 q2)
    exact s2 j.toInt h1 h2
theorem zs_laload (C : zCtx G m0 p s mm args meth cd) {a : Nat} {j : Int32} (ht : h.1.tg a = 21 ∨ h.1.tg a = 31) (h1 : 0 ≤ j.toInt) (h2 : j.toInt < h.1.ln a) (kk : zXW G m0 p l e R s mm args below meth cd FQ h0 r L (h.2 a j.toInt :: st) h) : zXW G m0 p l e R s mm args below meth cd FQ h0 (.laload :: r) L (.int j :: .ref a :: st) h := by
  intro pc hc H locs ls hR hL hlo q1 q2
  obtain ⟨hd, hc⟩ := zChk_1 (fun _ h => by cases h) rfl hc
  obtain ⟨i1, i2, i3⟩ := zIdx h1 h2
  rcases ht with ht | ht
  · obtain ⟨g1, g2, gc⟩ := hR.cell ht (by omega)
    obtain ⟨g3, g4⟩ := gc.2.1 (by omega) (by omega)
    exact W.lald C.x C.b g4 (C.kn.arr (by omega) (by omega) _ _) (by intro q; cases q) (by rw [arrV_size]; exact i1) (by rw [arrV_read _ _ i2, i3]) rfl rfl hd (kk _ hc H locs ls hR hL hlo q1 q2)
  · have hr := hR.stat (by omega) (by omega) (r := a)
    obtain ⟨s1, s2, s3, s4⟩ := hR.2.2.1 a hr
    obtain ⟨k1, k2, k3, k4⟩ := C.kn.1 a hr
    have ea : zAdr G a = G.sa a := zAdr_lo hr
    have ety : zSty a = .long := (zTs_of hr).2.2 (by rw [← s1]; exact ht)
    rw [ety] at k3
    refine W.lald C.x C.b (a := zAdr G a) (cell := G.cs a) (by rw [ea, hR.2.1 _ k1]; exact k2) k3 k4 (fun q => i1 (q.imp id (fun q => by omega))) (v := zCv G (h.2 a j.toInt)) ?_ rfl rfl hd (kk _ hc H locs ls hR hL hlo q1 q2)
    exact s2 j.toInt h1 h2
theorem zs_daload (C : zCtx G m0 p s mm args meth cd) {a : Nat} {j : Int32} (ht : h.1.tg a = 22) (h1 : 0 ≤ j.toInt) (h2 : j.toInt < h.1.ln a) (kk : zXW G m0 p l e R s mm args below meth cd FQ h0 r L (h.2 a j.toInt :: st) h) : zXW G m0 p l e R s mm args below meth cd FQ h0 (.daload :: r) L (.int j :: .ref a :: st) h := by
  intro pc hc H locs ls hR hL hlo q1 q2
  obtain ⟨hd, hc⟩ := zChk_1 (fun _ h => by cases h) rfl hc
  obtain ⟨i1, i2, i3⟩ := zIdx h1 h2
  obtain ⟨g1, g2, gc⟩ := hR.cell ht (by omega)
  obtain ⟨g3, g4⟩ := gc.2.1 (by omega) (by omega)
  exact W.dald C.x C.b g4 (C.kn.arr (by omega) (by omega) _ _) (by intro q; cases q) (by rw [arrV_size]; exact i1) (by rw [arrV_read _ _ i2, i3]) rfl rfl hd (kk _ hc H locs ls hR hL hlo q1 q2)
theorem zs_baload (C : zCtx G m0 p s mm args meth cd) {a : Nat} {j : Int32} (ht : h.1.tg a = 23) (h1 : 0 ≤ j.toInt) (h2 : j.toInt < h.1.ln a) (kk : zXW G m0 p l e R s mm args below meth cd FQ h0 r L (h.2 a j.toInt :: st) h) : zXW G m0 p l e R s mm args below meth cd FQ h0 (.baload :: r) L (.int j :: .ref a :: st) h := by
  intro pc hc H locs ls hR hL hlo q1 q2
  obtain ⟨hd, hc⟩ := zChk_1 (fun _ h => by cases h) rfl hc
  obtain ⟨i1, i2, i3⟩ := zIdx h1 h2
  obtain ⟨g1, g2, gc⟩ := hR.cell ht (by omega)
  obtain ⟨g3, g4⟩ := gc.2.1 (by omega) (by omega)
  exact W.zald C.x C.b g4 (C.kn.arr (by omega) (by omega) _ _) (by intro q; cases q) (by rw [arrV_size]; exact i1) (by rw [arrV_read _ _ i2, i3]) rfl rfl hd (kk _ hc H locs ls hR hL hlo q1 q2)
theorem zs_aaload (C : zCtx G m0 p s mm args meth cd) {a : Nat} {j : Int32} (ht : h.1.tg a = 24 ∨ h.1.tg a = 25 ∨ h.1.tg a = 26) (h1 : 0 ≤ j.toInt) (h2 : j.toInt < h.1.ln a) (kk : zXW G m0 p l e R s mm args below meth cd FQ h0 r L (h.2 a j.toInt :: st) h) : zXW G m0 p l e R s mm args below meth cd FQ h0 (.aaload :: r) L (.int j :: .ref a :: st) h := by
  intro pc hc H locs ls hR hL hlo q1 q2
  obtain ⟨hd, hc⟩ := zChk_1 (fun _ h => by cases h) rfl hc
  obtain ⟨i1, i2, i3⟩ := zIdx h1 h2
  rcases ht with ht | ht | ht
  · obtain ⟨g1, g2, gc⟩ := hR.cell ht (by omega)
    obtain ⟨g3, g4⟩ := gc.2.1 (by omega) (by omega)
    exact W.aald C.x C.b g4 (C.kn.arr (by omega) (by omega) _ _) rfl (by intro q; cases q) (by rw [arrV_size]; exact i1) (by rw [arrV_read _ _ i2, i3]) rfl rfl hd (kk _ hc H locs ls hR hL hlo q1 q2)
  · obtain ⟨g1, g2, gc⟩ := hR.cell ht (by omega)
    obtain ⟨g3, g4⟩ := gc.2.1 (by omega) (by omega)
    exact W.aald C.x C.b g4 (C.kn.arr (by omega) (by omega) _ _) rfl (by intro q; cases q) (by rw [arrV_size]; exact i1) (by rw [arrV_read _ _ i2, i3]) rfl rfl hd (kk _ hc H locs ls hR hL hlo q1 q2)
  · obtain ⟨g1, g2, gc⟩ := hR.cell ht (by omega)
    obtain ⟨g3, g4⟩ := gc.2.1 (by omega) (by omega)
    exact W.aald C.x C.b g4 (C.kn.arr (by omega) (by omega) _ _) rfl (by intro q; cases q) (by rw [arrV_size]; exact i1) (by rw [arrV_read _ _ i2, i3]) rfl rfl hd (kk _ hc H locs ls hR hL hlo q1 q2)
theorem zRel.arr {H H' : Heap} {a t : Nat} {j : Int32} {v : Value} (hR : zRel G h H) (ht : h.1.tg a = t) (ht1 : 20 ≤ t) (ht2 : t ≤ 26) (h1 : 0 ≤ j.toInt) (h2 : j.toInt < h.1.ln a) (hv : t = 20 → ∃ x : Int32, v = .int x) (e1 : H'[zAdr G a]? = some ((arrV (G.cA t) (h.1.ln a).toNat (fun k : Nat => zCv G (h.2 a k))).setSlot j.toNatClampNeg (zCv G v))) (e2 : H'.size = H.size) (e3 : ∀ q : Nat, q ≠ zAdr G a → H'[q]? = H[q]?) : zRel G (h.1, zput h.2 a j.toInt v) H' := by
  obtain ⟨g1, g2, gc⟩ := hR.cell ht ht2
  obtain ⟨g3, g4⟩ := gc.2.1 ht1 ht2
  obtain ⟨i1, i2, i3⟩ := zIdx h1 h2
  refine hR.write g1 g2 e2 e3 (f := zput h.2 a j.toInt v a) ⟨fun q => by rw [ht] at q; omega, fun _ _ => ⟨g3, ?_⟩, fun q j2 a1 a2 => ?_⟩ rfl (fun r' hr' => funext fun k => if_neg (fun q => hr' q.1))
  rotate_left
  · unfold zput
    by_cases e : j2 = j.toInt
    · rw [if_pos ⟨rfl, e⟩]
      exact hv (ht.symm.trans q)
    · rw [if_neg (fun q => e q.2)]
      exact gc.2.2 (ht.symm.trans q) j2 a1 a2
  rw [e1, arrV_store, ht]
  refine congrArg (fun z => some (arrV (G.cA t) (h.1.ln a).toNat z)) (funext fun k => ?_)
  unfold updV zput
  by_cases e : k = j.toNatClampNeg
  · rw [if_pos e, if_pos ⟨rfl, by rw [e, i3]⟩]
  · rw [if_neg e, if_neg (fun q => e (by have := q.2; omega))]
theorem zs_iastore (C : zCtx G m0 p s mm args meth cd) {a : Nat} {j : Int32} {x : Int32} (ht : h.1.tg a = 20) (h1 : 0 ≤ j.toInt) (h2 : j.toInt < h.1.ln a) (kk : zXW G m0 p l e R s mm args below meth cd FQ h0 r L st (h.1, zput h.2 a j.toInt (.int x))) : zXW G m0 p l e R s mm args below meth cd FQ h0 (.iastore :: r) L (.int x :: .int j :: .ref a :: st) h := by
  intro pc hc H locs ls hR hL hlo q1 q2
  obtain ⟨hd, hc⟩ := zChk_1 (fun _ h => by cases h) rfl hc
  obtain ⟨i1, i2, i3⟩ := zIdx h1 h2
  obtain ⟨g1, g2, gc⟩ := hR.cell ht (by omega)
  obtain ⟨g3, g4⟩ := gc.2.1 (by omega) (by omega)
  refine W.iast C.x C.b g4 (C.kn.arr (by omega) (by omega) _ _) (by intro q; cases q) (by rw [arrV_size]; exact i1) rfl rfl hd (fun H' e1 e2 e3 => ?_)
  refine kk _ hc H' _ ls (hR.arr ht (by omega) (by omega) h1 h2 (fun q => ⟨x, rfl⟩) e1 e2 e3) hL (fun q hq => ?_) q1 q2
  rcases List.mem_append.mp hq with hq | hq
  · exact hlo q hq
  · rw [List.mem_singleton.mp hq]
    exact zAdr_base g1
theorem zs_lastore (C : zCtx G m0 p s mm args meth cd) {a : Nat} {j : Int32} {x : Int64} (ht : h.1.tg a = 21) (h1 : 0 ≤ j.toInt) (h2 : j.toInt < h.1.ln a) (kk : zXW G m0 p l e R s mm args below meth cd FQ h0 r L st (h.1, zput h.2 a j.toInt (.long x))) : zXW G m0 p l e R s mm args below meth cd FQ h0 (.lastore :: r) L (.long x :: .int j :: .ref a :: st) h := by
  intro pc hc H locs ls hR hL hlo q1 q2
  obtain ⟨hd, hc⟩ := zChk_1 (fun _ h => by cases h) rfl hc
  obtain ⟨i1, i2, i3⟩ := zIdx h1 h2
  obtain ⟨g1, g2, gc⟩ := hR.cell ht (by omega)
  obtain ⟨g3, g4⟩ := gc.2.1 (by omega) (by omega)
  refine W.last C.x C.b g4 (C.kn.arr (by omega) (by omega) _ _) (by intro q; cases q) (by rw [arrV_size]; exact i1) rfl rfl hd (fun H' e1 e2 e3 => ?_)
  refine kk _ hc H' _ ls (hR.arr ht (by omega) (by omega) h1 h2 (fun q => by omega) e1 e2 e3) hL (fun q hq => ?_) q1 q2
  rcases List.mem_append.mp hq with hq | hq
  · exact hlo q hq
  · rw [List.mem_singleton.mp hq]
    exact zAdr_base g1
theorem zs_dastore (C : zCtx G m0 p s mm args meth cd) {a : Nat} {j : Int32} {x : UInt64} (ht : h.1.tg a = 22) (h1 : 0 ≤ j.toInt) (h2 : j.toInt < h.1.ln a) (kk : zXW G m0 p l e R s mm args below meth cd FQ h0 r L st (h.1, zput h.2 a j.toInt (.double x))) : zXW G m0 p l e R s mm args below meth cd FQ h0 (.dastore :: r) L (.double x :: .int j :: .ref a :: st) h := by
  intro pc hc H locs ls hR hL hlo q1 q2
  obtain ⟨hd, hc⟩ := zChk_1 (fun _ h => by cases h) rfl hc
  obtain ⟨i1, i2, i3⟩ := zIdx h1 h2
  obtain ⟨g1, g2, gc⟩ := hR.cell ht (by omega)
  obtain ⟨g3, g4⟩ := gc.2.1 (by omega) (by omega)
  refine W.dast C.x C.b g4 (C.kn.arr (by omega) (by omega) _ _) (by intro q; cases q) (by rw [arrV_size]; exact i1) rfl rfl hd (fun H' e1 e2 e3 => ?_)
  refine kk _ hc H' _ ls (hR.arr ht (by omega) (by omega) h1 h2 (fun q => by omega) e1 e2 e3) hL (fun q hq => ?_) q1 q2
  rcases List.mem_append.mp hq with hq | hq
  · exact hlo q hq
  · rw [List.mem_singleton.mp hq]
    exact zAdr_base g1
theorem zs_bastore (C : zCtx G m0 p s mm args meth cd) {a : Nat} {j : Int32} {x : Int32} (ht : h.1.tg a = 23) (h1 : 0 ≤ j.toInt) (h2 : j.toInt < h.1.ln a) (hx : x = 0 ∨ x = 1) (kk : zXW G m0 p l e R s mm args below meth cd FQ h0 r L st (h.1, zput h.2 a j.toInt (.int x))) : zXW G m0 p l e R s mm args below meth cd FQ h0 (.bastore :: r) L (.int x :: .int j :: .ref a :: st) h := by
  intro pc hc H locs ls hR hL hlo q1 q2
  obtain ⟨hd, hc⟩ := zChk_1 (fun _ h => by cases h) rfl hc
  obtain ⟨i1, i2, i3⟩ := zIdx h1 h2
  obtain ⟨g1, g2, gc⟩ := hR.cell ht (by omega)
  obtain ⟨g3, g4⟩ := gc.2.1 (by omega) (by omega)
  have hnar : narrow .boolean (.int x) = .int x := by rcases hx with rfl | rfl <;> rfl
  refine W.zast C.x C.b g4 (C.kn.arr (by omega) (by omega) _ _) (by intro q; cases q) (by rw [arrV_size]; exact i1) rfl rfl hd (fun H' e1 e2 e3 => ?_)
  refine kk _ hc H' _ ls (hR.arr ht (by omega) (by omega) h1 h2 (fun q => by omega) (by rw [hnar] at e1; exact e1) e2 e3) hL (fun q hq => ?_) q1 q2
  rcases List.mem_append.mp hq with hq | hq
  · exact hlo q hq
  · rw [List.mem_singleton.mp hq]
    exact zAdr_base g1
theorem zs_aastore (C : zCtx G m0 p s mm args meth cd) {a b : Nat} {j : Int32} (ht : h.1.tg a = 26) (h1 : 0 ≤ j.toInt) (h2 : j.toInt < h.1.ln a) (hx : h.1.tg b = 7) (kk : zXW G m0 p l e R s mm args below meth cd FQ h0 r L st (h.1, zput h.2 a j.toInt (.ref b))) : zXW G m0 p l e R s mm args below meth cd FQ h0 (.aastore :: r) L (.ref b :: .int j :: .ref a :: st) h := by
  intro pc hc H locs ls hR hL hlo q1 q2
  obtain ⟨hd, hc⟩ := zChk_1 (fun _ h => by cases h) rfl hc
  obtain ⟨i1, i2, i3⟩ := zIdx h1 h2
  obtain ⟨g1, g2, gc⟩ := hR.cell ht (by omega)
  obtain ⟨g3, g4⟩ := gc.2.1 (by omega) (by omega)
  obtain ⟨b1, b2, bc⟩ := hR.cell hx (by omega)
  obtain ⟨cell, c1, c2, c3, -⟩ := bc.1 (by omega)
  obtain ⟨kA, comp, f1, f2, f3, f4⟩ := (C.kn.2.2.1 26 (by omega) (by omega)).2
  obtain ⟨-, hfc, kC, hkC, hkind⟩ := C.kn.2.1 7 (by omega) (by omega)
  have ecm : comp = G.dC 7 := Option.some.inj (f3.symm.trans hfc)
  refine W.aast C.x C.b g4 (by intro q; exact fun h => by cases h) (by intro q; cases q) f1 f2 rfl (by rw [ecm]; exact hkC) (by rw [arrV_size]; exact ⟨fun q => i1 (Or.inl q), i2⟩) (v := zAdr G b) c1 (by intro q; rw [c3]; exact fun h => by cases h) (by rw [c2]; exact hkC) (by rw [c2, ecm]; exact va_asg _ _) rfl rfl hd (fun H' e1 e2 e3 => ?_)
  refine kk _ hc H' _ ls (hR.arr ht (by omega) (by omega) h1 h2 (fun q => by omega) e1 e2 e3) hL (fun q hq => ?_) q1 q2
  rcases List.mem_append.mp hq with hq | hq
  · exact hlo q hq
  · rw [List.mem_singleton.mp hq]
    exact zAdr_base g1
theorem zs_pop (C : zCtx G m0 p s mm args meth cd) {v : Value} (hv : v.category = 1) (kk : zXW G m0 p l e R s mm args below meth cd FQ h0 r L st h) : zXW G m0 p l e R s mm args below meth cd FQ h0 (.pop :: r) L (v :: st) h := by
  intro pc hc H locs ls hR hL hlo q1 q2
  obtain ⟨hd, hc⟩ := zChk_1 (fun _ h => by cases h) rfl hc
  exact lv_pop C.x C.b hd ((zCv_cat G v).trans hv) (kk _ hc H locs ls hR hL hlo q1 q2)
theorem zs_objI (C : zCtx G m0 p s mm args meth cd) {a : Nat} (hR1 : 1 ≤ R.frames) (hR2 : 64 ≤ R.locals) (kk : zXW G m0 p l e R s mm args below meth cd FQ h0 r L [] h) : zXW G m0 p l e R s mm args below meth cd FQ h0 (.monitorexit :: r) L [.ref a] h := by
  intro pc hc H locs ls hR hL hlo q1 q2
  obtain ⟨q, hq, hd, hc⟩ := zChk_c (fun _ h => by cases h) hc
  obtain ⟨b, hb, hp, rfl⟩ := zPk_m hq
  simp only [beq_iff_eq] at hp
  have hw := C.ts _ (zOI_ok b hb)
  dsimp only at hw
  rw [hp] at hw
  exact W.objInit C.x C.b C.own hw (C.ts _ zw_oiI) (C.ts _ zw_oiC) rfl (by rw [C.ml]; exact hL.2.1) rfl hd hR1 (by show 2 * 0 + 0 + 12 ≤ _; omega) (kk _ hc H locs ls hR hL hlo q1 q2)
theorem zs_f2i (C : zCtx G m0 p s mm args meth cd) {x : UInt32} (hR1 : 1 ≤ R.frames) (hR2 : 64 ≤ R.locals) (kk : zXW G m0 p l e R s mm args below meth cd FQ h0 r L [.int x.toInt32] h) : zXW G m0 p l e R s mm args below meth cd FQ h0 (.f2i :: r) L [.float x] h := by
  intro pc hc H locs ls hR hL hlo q1 q2
  obtain ⟨q, hq, hd, hc⟩ := zChk_c (fun _ h => by cases h) hc
  obtain ⟨b, hb, hp, rfl⟩ := zPk_m hq
  simp only [beq_iff_eq] at hp
  have hw := C.ts _ (zFR_ok b hb)
  dsimp only at hw
  rw [hp] at hw
  exact vn_f2i C.x C.b (by rw [C.ml]; exact hL.2.1.symm) C.own hw (C.ts _ zw_frN) (C.ts _ zw_frS) (C.ts _ zw_frI) hR1 (by show 0 + 15 ≤ _; omega) hd (kk _ hc H locs ls hR hL hlo q1 q2)
theorem zs_copy (C : zCtx G m0 p s mm args meth cd) {a b : Nat} {n sp dp : Int32} (hR1 : 1 ≤ R.frames) (hR2 : 64 ≤ R.locals) (ta : h.1.tg a = 20) (tb : h.1.tg b = 20) (n0 : 0 ≤ n.toInt) (s0 : 0 ≤ sp.toInt) (d0 : 0 ≤ dp.toInt) (hs : sp.toInt + n.toInt ≤ h.1.ln a) (hd9 : dp.toInt + n.toInt ≤ h.1.ln b) (kk : zXW G m0 p l e R s mm args below meth cd FQ h0 r L [] (h.1, zrow h.2 b (fun j => if dp.toInt ≤ j ∧ j < dp.toInt + n.toInt then h.2 a (sp.toInt + (j - dp.toInt)) else h.2 b j))) : zXW G m0 p l e R s mm args below meth cd FQ h0 (.pop2 :: r) L [.int n, .int dp, .ref b, .int sp, .ref a] h := by
  intro pc hc H locs ls hR hL hlo q1 q2
  obtain ⟨q, hq, hd, hc⟩ := zChk_c (fun _ h => by cases h) hc
  obtain ⟨b9, hb9, hp, rfl⟩ := zPk_m hq
  simp only [beq_iff_eq] at hp
  have hw := C.ts _ (zAC_ok b9 hb9)
  dsimp only at hw
  rw [hp] at hw
  obtain ⟨a1, a2, ac⟩ := hR.cell ta (by omega)
  obtain ⟨a3, a4⟩ := ac.2.1 (by omega) (by omega)
  obtain ⟨b1, b2, bc⟩ := hR.cell tb (by omega)
  obtain ⟨b3, b4⟩ := bc.2.1 (by omega) (by omega)
  have neg : ∀ z : Int32, 0 ≤ z.toInt → ¬ z < 0 := by
    intro z hz
    rw [Int32.lt_iff_toInt_lt]
    simp
    exact hz
  have nn : ∀ z : Int32, 0 ≤ z.toInt → z.toInt = (z.toNatClampNeg : Int) := by
    intro z hz
    show z.toInt = ((z.toInt.toNat : Nat) : Int)
    omega
  have en := nn n n0
  have es := nn sp s0
  have ed := nn dp d0
  intro T hT X
  obtain ⟨-, k0, hk0, cm0, hkk0⟩ := C.kn.arr (G := G) (t := 20) (by omega) (by omega) (h.1.ln a).toNat (fun j => zCv G (h.2 a j))
  obtain ⟨-, k1, hk1, cm1, hkk1⟩ := C.kn.arr (G := G) (t := 20) (by omega) (by omega) (h.1.ln b).toNat (fun j => zCv G (h.2 b j))
  obtain ⟨vm', X', step⟩ := X.arraycopy C.x C.own hw (C.ts _ zw_acN) (C.ts _ zw_acS) (C.ts _ zw_acI) (src := zAdr G a) (dst := zAdr G b) (srcPos := sp) (destPos := dp) (n := n) (by rw [hT]; exact a4) (by rw [hT]; exact b4)
    (fun _ h => by cases h) (fun _ h => by cases h) (fun h => by cases h) (fun h => by cases h) hk0 hk1 hkk0 hkk1 (by rfl) (neg sp s0) (neg dp d0) (neg n n0)
    (by rw [arrV_size]; omega) (by rw [arrV_size]; omega)
    (fun vm₁ _ i hi => by
      have e9 : (arrV (G.cA 20) (h.1.ln a).toNat (fun j : Nat => zCv G (h.2 a j))).slots.getD (sp.toNatClampNeg + i) .null = zCv G (h.2 a ((sp.toNatClampNeg + i : Nat) : Int)) := by
        rw [Array.getD_eq_getD_getElem?, arrV_read _ _ (by omega)]
        rfl
      obtain ⟨x, hx⟩ := ac.2.2 rfl ((sp.toNatClampNeg + i : Nat) : Int) (by omega) (by omega)
      rw [hx] at e9
      refine ⟨?_, ?_⟩
      · rw [e9]
        rfl
      · rw [e9]
        exact trivial)
    (g := F0 mm pc ls [.int n, .int dp, .ref (zAdr G b), .int sp, .ref (zAdr G a)]) rfl (by rw [C.ml]; exact hL.2.1) (rest := []) rfl (by rw [C.b]; exact hd) hR1 (by
      have : nativeFrameWords "java/lang/System" "arraycopy" 5 ≤ 40 := by decide
      show 2 * 0 + 0 + _ ≤ _
      omega)
  have e1 : copied (arrV (G.cA 20) (h.1.ln a).toNat (fun j : Nat => zCv G (h.2 a j))) (arrV (G.cA 20) (h.1.ln b).toNat (fun j : Nat => zCv G (h.2 b j))) sp dp n = arrV (G.cA 20) (h.1.ln b).toNat (va_cpy (fun j : Nat => zCv G (h.2 a j)) (fun j : Nat => zCv G (h.2 b j)) sp.toNatClampNeg dp.toNatClampNeg n.toNatClampNeg) := va_copied (fun z => z) _ _ _ _ (by omega)
  rw [e1] at X' step
  have hl : zAdr G b < H.size := (Array.getElem?_eq_some_iff.mp b4).1
  have hheap : ((T.setVm vm').setCell (zAdr G b) (arrV (G.cA 20) (h.1.ln b).toNat (va_cpy (fun j : Nat => zCv G (h.2 a j)) (fun j : Nat => zCv G (h.2 b j)) sp.toNatClampNeg dp.toNatClampNeg n.toNatClampNeg))).heap = H.setIfInBounds (zAdr G b) (arrV (G.cA 20) (h.1.ln b).toNat (va_cpy (fun j : Nat => zCv G (h.2 a j)) (fun j : Nat => zCv G (h.2 b j)) sp.toNatClampNeg dp.toNatClampNeg n.toNatClampNeg)) := by rw [← hT]; rfl
  obtain ⟨t, t1, t2⟩ := kk _ hc _ _ ls (hR.write (H' := H.setIfInBounds (zAdr G b) _) b1 b2 (by simp) (fun q hq => by simp [Array.getElem?_setIfInBounds, Ne.symm hq]) (f := fun j => if dp.toInt ≤ j ∧ j < dp.toInt + n.toInt then h.2 a (sp.toInt + (j - dp.toInt)) else h.2 b j) ⟨fun q => by rw [tb] at q; omega, fun _ _ => ⟨b3, by
      rw [show (H.setIfInBounds (zAdr G b) _)[zAdr G b]? = some _ by simp [Array.getElem?_setIfInBounds, hl]; rfl, tb]
      refine congrArg (fun z => some (arrV (G.cA 20) (h.1.ln b).toNat z)) (funext fun j => ?_)
      unfold va_cpy
      by_cases c : dp.toNatClampNeg ≤ j ∧ j < dp.toNatClampNeg + n.toNatClampNeg
      · rw [if_pos c, if_pos (by omega)]
        exact congrArg (fun z => zCv G (h.2 a z)) (by omega)
      · rw [if_neg c, if_neg (by omega)]⟩, fun _ j g1 g2 => by
      by_cases c : dp.toInt ≤ j ∧ j < dp.toInt + n.toInt
      · rw [if_pos c]
        exact ac.2.2 rfl _ (by omega) (by omega)
      · rw [if_neg c]
        exact bc.2.2 rfl j g1 g2⟩ (if_pos rfl) (fun r' hr' => if_neg hr')) hL (fun q hq => by
      rcases List.mem_append.mp hq with h | h
      · exact hlo q h
      · obtain ⟨z, -, hz⟩ := List.mem_map.mp h
        rw [← hz]
        exact zAdr_base b1) q1 q2 _ hheap X'
  exact ⟨t, step t t1, t2⟩
end
end
section
/-! SOUNDNESS, 5: arrays of arrays, switches -/
theorem zHnews_f (h : zH) (t : Nat) (k : Int) (v : Value) : ∀ n : Nat, (zHnews h t k v n).1.sz = h.1.sz + n ∧ (zHnews h t k v n).1.sl = h.1.sl + n * k.toNat ∧ (∀ r, (zHnews h t k v n).1.tg r = if h.1.sz ≤ r ∧ r < h.1.sz + n then t else h.1.tg r) ∧ (∀ r, (zHnews h t k v n).1.ln r = if h.1.sz ≤ r ∧ r < h.1.sz + n then k else h.1.ln r) ∧ (∀ r, (zHnews h t k v n).2 r = if h.1.sz ≤ r ∧ r < h.1.sz + n then (fun _ => v) else h.2 r)
  | 0 => ⟨rfl, by simp [zHnews], fun r => by rw [if_neg (by omega)]; rfl, fun r => by rw [if_neg (by omega)]; rfl, fun r => by rw [if_neg (by omega)]; rfl⟩
  | n + 1 => by
    obtain ⟨a, b, c, d, e⟩ := zHnews_f h t k v n
    have key : ∀ {α : Type} (x y : α) (r : Nat), (if r = (zHnews h t k v n).1.sz then x else (if h.1.sz ≤ r ∧ r < h.1.sz + n then x else y)) = (if h.1.sz ≤ r ∧ r < h.1.sz + (n + 1) then x else y) := by
      intro α x y r
      rw [a]
      by_cases c1 : r = h.1.sz + n
      · rw [if_pos c1, if_pos (by omega)]
      · rw [if_neg c1]
        by_cases c2 : h.1.sz ≤ r ∧ r < h.1.sz + n
        · rw [if_pos c2, if_pos (by omega)]
        · rw [if_neg c2, if_neg (by omega)]
    refine ⟨?_, ?_, fun r => ?_, fun r => ?_, fun r => ?_⟩
    · show (zHnews h t k v n).1.sz + 1 = _
      rw [a]; omega
    · show (zHnews h t k v n).1.sl + k.toNat = _
      rw [b, Nat.succ_mul]; omega
    · show (if r = (zHnews h t k v n).1.sz then t else (zHnews h t k v n).1.tg r) = _
      rw [c, key]
    · show (if r = (zHnews h t k v n).1.sz then k else (zHnews h t k v n).1.ln r) = _
      rw [d, key]
    · show (if r = (zHnews h t k v n).1.sz then (fun _ => v) else (zHnews h t k v n).2 r) = _
      rw [e, key]
section
variable {G : zG} {m0 : Nat} {p : Program} {l : Launch} {e : Env} {R : Room} {s : State} {mm : MethodId} {args : Array Value} {below : List Frame} {meth : Method} {cd : Code} {FQ : State → Prop} {h0 : zH} {r : List Instr} {L st : List Value} {h : zH}
theorem zs_mna (C : zCtx G m0 p s mm args meth cd) {t dm : Nat} {n k : Int32} (hn0 : 0 ≤ n.toInt) (hn1 : n.toInt ≤ 1000000) (hk0 : 0 ≤ k.toInt) (hk1 : k.toInt ≤ 1000000) {h9 : zH} (e9 : h9 = zHnews (zHnew h (24 + t) n.toInt n.toInt.toNat (fun j => .ref (h.1.sz + 1 + j.toNat))) (20 + t) k.toInt (if t = 0 then .int 0 else .long 0) n.toInt.toNat) (hcap : h9.1.sz - h0.1.sz ≤ R.cells ∧ h9.1.sl - h0.1.sl ≤ R.slots) (kk : zXW G m0 p l e R s mm args below meth cd FQ h0 r L (.ref h.1.sz :: st) h9) : zXW G m0 p l e R s mm args below meth cd FQ h0 (.multianewarray t dm :: r) L (.int k :: .int n :: st) h := by
  intro pc hc H locs ls hR hL hlo q1 q2
  obtain ⟨q, hq, hd, hc⟩ := zChk_c (fun _ h => by cases h) hc
  obtain ⟨b, hb, hp, rfl⟩ := zPk_m hq
  simp only [Bool.and_eq_true, beq_iff_eq] at hp
  have rt := zMA_rng b hb
  have hw := C.ts _ (zMA_ok b hb)
  dsimp only at hw
  rw [hp.1, hp.2] at hw
  rw [hp.2] at rt
  obtain ⟨f1, f2, f3, f4, f5⟩ := zHnews_f (zHnew h (24 + t) n.toInt n.toInt.toNat (fun j => .ref (h.1.sz + 1 + j.toNat))) (20 + t) k.toInt (if t = 0 then .int 0 else .long 0) n.toInt.toNat
  rw [← e9] at f1 f2 f3 f4 f5
  have z1 : (zHnew h (24 + t) n.toInt n.toInt.toNat (fun j => .ref (h.1.sz + 1 + j.toNat))).1.sz = h.1.sz + 1 := rfl
  have z2 : (zHnew h (24 + t) n.toInt n.toInt.toNat (fun j => .ref (h.1.sz + 1 + j.toNat))).1.sl = h.1.sl + n.toInt.toNat := rfl
  have z3 : ∀ r, (zHnew h (24 + t) n.toInt n.toInt.toNat (fun j => .ref (h.1.sz + 1 + j.toNat))).1.tg r = if r = h.1.sz then 24 + t else h.1.tg r := fun _ => rfl
  have z4 : ∀ r, (zHnew h (24 + t) n.toInt n.toInt.toNat (fun j => .ref (h.1.sz + 1 + j.toNat))).1.ln r = if r = h.1.sz then n.toInt else h.1.ln r := fun _ => rfl
  have z5 : ∀ r, (zHnew h (24 + t) n.toInt n.toInt.toNat (fun j => .ref (h.1.sz + 1 + j.toNat))).2 r = if r = h.1.sz then (fun j => .ref (h.1.sz + 1 + j.toNat)) else h.2 r := fun _ => rfl
  rw [z1] at f1
  rw [z2] at f2
  simp only [z1, z3] at f3
  simp only [z1, z4] at f4
  simp only [z1, z5] at f5
  have hneg : ∀ z : Int32, 0 ≤ z.toInt → ¬ z < 0 := by
    intro z hz
    rw [Int32.lt_iff_toInt_lt]
    simp
    exact hz
  have en : n.toNatClampNeg = n.toInt.toNat := rfl
  have ek : k.toNatClampNeg = k.toInt.toNat := rfl
  have cb : componentBytes (zMt t) ≤ 8 := by rcases rt with rfl | rfl <;> decide
  have hover : va_AOA (zMt t) s := by rcases rt with rfl | rfl; exact C.kn.2.2.2.2.2.2.1.1; exact C.kn.2.2.2.2.2.2.1.2.1
  have harr : (Cond.arrayClass (zMt t)).before args s = true := by rcases rt with rfl | rfl; exact C.ts _ zw_aI; exact C.ts _ zw_aJ
  have hdf : fits (zMt t) (defaultValue (zMt t)) = true := by rcases rt with rfl | rfl <;> rfl
  have hdd : (defaultValue (zMt t)).isDefault = true := by rcases rt with rfl | rfl <;> rfl
  have kb : k.toInt.toNat * componentBytes (zMt t) ≤ 1000000 * 8 := Nat.mul_le_mul (by omega) cb
  intro T hT X
  obtain ⟨vm₁, cA, comp, -, fA, fC, -, -, X', step⟩ := X.multianewarray2F C.x C.own hw (va_AOA.use hover) harr (g := F0 mm pc ls (.int k :: .int n :: st.map (zCv G))) rfl (by rw [C.b]; exact hd) rfl (hneg n hn0) (hneg k hk0) (by rw [en]; omega) (by rw [ek]; omega) (by rw [ek]; omega) hdf hdd (by rw [en]; omega) (by rw [en, ek]; omega)
  rw [en, ek] at X' step
  have eA : cA = G.cA (24 + t) ∧ comp = G.cA (20 + t) := by
    rcases rt with rfl | rfl
    · exact ⟨Option.some.inj (fA.symm.trans (C.kn.2.2.1 24 (by omega) (by omega)).2), Option.some.inj (fC.symm.trans (C.kn.2.2.1 20 (by omega) (by omega)).2)⟩
    · exact ⟨Option.some.inj (fA.symm.trans (C.kn.2.2.1 25 (by omega) (by omega)).2), Option.some.inj (fC.symm.trans (C.kn.2.2.1 21 (by omega) (by omega)).2)⟩
  rw [eA.1, eA.2] at X' step
  generalize hF : Jvm.Free.Multi.fill (T.setVm vm₁) (G.cA (24 + t)) (G.cA (20 + t)) n.toInt.toNat k.toInt.toNat (defaultValue (zMt t)) n.toInt.toNat = F at X' step
  have hTh : (T.setVm vm₁).heap = H := hT
  obtain ⟨p1, p2, -, -⟩ := Jvm.Free.Multi.fill_facts (T.setVm vm₁) (G.cA (24 + t)) (G.cA (20 + t)) n.toInt.toNat k.toInt.toNat (defaultValue (zMt t)) n.toInt.toNat
  rw [hF, hTh] at p1 p2
  have hold : ∀ x : Nat, x < H.size → F.heap[x]? = H[x]? := fun x hx => by
    have := Jvm.Free.Multi.fill_old (T.setVm vm₁) (G.cA (24 + t)) (G.cA (20 + t)) n.toInt.toNat k.toInt.toNat (defaultValue (zMt t)) (a := x) (by rw [hTh]; exact hx) n.toInt.toNat
    rw [hF, hTh] at this
    exact this
  have hrow : ∀ j : Nat, j < n.toInt.toNat → F.heap[H.size + 1 + j]? = some (arrV (G.cA (20 + t)) k.toInt.toNat (fun _ => defaultValue (zMt t))) := fun j hj => by
    have := Jvm.Free.Multi.fill_inner (T.setVm vm₁) (G.cA (24 + t)) (G.cA (20 + t)) n.toInt.toNat k.toInt.toNat (defaultValue (zMt t)) n.toInt.toNat j hj
    rw [hF, hTh] at this
    rw [this]
    exact congrArg some (arrV_new _ _ _)
  rw [vr_outer] at p2
  have ea := zAdr_sz hR
  obtain ⟨⟨g1, g2⟩, g3, g4, g5, g6⟩ := hR
  have aN : ∀ x, zAdr G (h.1.sz + 1 + x) = H.size + 1 + x := by
    intro x
    unfold zAdr
    rw [if_neg (by omega), g2]
    omega
  have hR9 : zRel G h9 F.heap := by
    refine ⟨⟨by omega, by rw [p1, g2, f1]; omega⟩, fun q hq => by rw [hold q (by omega)]; exact g3 q hq, fun r hr => ?_, fun r h5 hs => ?_, fun r hr => ?_⟩
    · rw [f3, f4, f5, if_neg (by omega), if_neg (by omega), if_neg (by omega), if_neg (by omega), if_neg (by omega), if_neg (by omega)]
      exact g4 r hr
    · rw [f3, f4, f5]
      by_cases c1 : h.1.sz + 1 ≤ r ∧ r < h.1.sz + 1 + n.toInt.toNat
      · rw [if_pos c1, if_pos c1, if_pos c1]
        refine ⟨by omega, fun a => by omega, fun _ _ => ⟨hk0, ?_⟩, fun q j _ _ => ?_⟩
        · rw [show r = h.1.sz + 1 + (r - (h.1.sz + 1)) by omega, aN, hrow _ (by omega)]
          rcases rt with rfl | rfl <;> rfl
        · rw [if_pos (by omega)]
          exact ⟨0, rfl⟩
      · rw [if_neg c1, if_neg c1, if_neg c1]
        by_cases c2 : r = h.1.sz
        · subst c2
          rw [if_pos rfl, if_pos rfl, if_pos rfl]
          refine ⟨by omega, fun a => by omega, fun _ _ => ⟨hn0, ?_⟩, fun q => by omega⟩
          rw [ea, p2]
          refine congrArg some ?_
          unfold arrV
          congr 1
          apply Array.ext
          · simp
          · intro j j1 j2
            have hj : j < n.toInt.toNat := by simpa using j1
            simp only [Array.getElem_ofFn]
            rw [if_pos hj]
            show Value.ref (H.size + 1 + j) = Value.ref (zAdr G (h.1.sz + 1 + ((j : Nat) : Int).toNat))
            rw [Int.toNat_natCast, aN]
        · rw [if_neg c2, if_neg c2, if_neg c2]
          have h2 := g5 r h5 (by omega)
          have hq : F.heap[zAdr G r]? = H[zAdr G r]? := hold _ (by unfold zAdr; rw [if_neg (by omega)]; omega)
          exact ⟨h2.1, fun q => (h2.2.1 q).kept hq, fun a b => ⟨(h2.2.2.1 a b).1, by rw [hq]; exact (h2.2.2.1 a b).2⟩, h2.2.2.2⟩
    · rw [f3, if_neg (by omega), if_neg (by omega)]
      exact g6 r (by omega)
  have er : Value.ref T.heap.size = zCv G (.ref h.1.sz) := by
    show _ = Value.ref (zAdr G h.1.sz)
    rw [ea, hT]
  have e1 : h.1.sz - h0.1.sz + 1 + n.toInt.toNat = h9.1.sz - h0.1.sz := by omega
  have e2 : h.1.sl - h0.1.sl + n.toInt.toNat + n.toInt.toNat * k.toInt.toNat = h9.1.sl - h0.1.sl := by omega
  rw [e1, e2] at X'
  obtain ⟨t9, t1, t2⟩ := kk _ hc F.heap locs ls hR9 hL hlo (by omega) (by omega) F rfl X'
  refine ⟨t9, step t9 ?_, t2⟩
  rw [er]
  exact t1
theorem zsw_look (m pc : Nat) (d x : Int) : ∀ ps : List (Int × Int), Op.lookupswitch.offset (ps.map (fun q => (q.1, zOff m pc q.2))) (zOff m pc d) x = zOff m pc (zsw ps d x)
  | [] => rfl
  | (k, l) :: ps => by
    rw [List.map_cons, Op.lookupswitch.offset_cons, zsw_look m pc d x ps]
    show _ = zOff m pc (if x = k then l else zsw ps d x)
    by_cases c : x = k
    · rw [if_pos c, if_pos c.symm]
    · rw [if_neg c, if_neg (fun q => c q.symm)]
theorem zSrt_map (m pc : Nat) : ∀ ps : List (Int × Int), zSrt ps = true → ((ps.map (fun q => (q.1, zOff m pc q.2))).zip ((ps.map (fun q => (q.1, zOff m pc q.2))).drop 1)).all (fun (a, next) => decide (a.1 < next.1)) = true := by
  intro ps hs
  unfold zSrt at hs
  rw [← List.map_drop, List.zip_map']
  rw [List.all_map]
  exact hs
/-- a table of keys that follow each other -/
theorem zsw_keys (d x : Int) : ∀ (ps : List (Int × Int)) (lo : Int), ps.map (fun q => q.1) = zKeys lo ps.length → (x < lo ∨ lo + ps.length ≤ x → zsw ps d x = d) ∧ (lo ≤ x → x < lo + ps.length → ∃ q, ps[(x - lo).toNat]? = some q ∧ zsw ps d x = q.2)
  | [], lo, _ => ⟨fun _ => rfl, fun a b => by simp at b; omega⟩
  | (k, l) :: ps, lo, h => by
    have h1 : k = lo ∧ ps.map (fun q => q.1) = zKeys (lo + 1) ps.length := by
      have h2 : k :: ps.map (fun q => q.1) = lo :: zKeys (lo + 1) ps.length := h
      exact ⟨(List.cons.inj h2).1, (List.cons.inj h2).2⟩
    obtain ⟨rfl, h2⟩ := h1
    obtain ⟨i1, i2⟩ := zsw_keys d x ps (k + 1) h2
    have e : zsw ((k, l) :: ps) d x = if x = k then l else zsw ps d x := rfl
    rw [e]
    simp only [List.length_cons]
    refine ⟨fun c => ?_, fun a b => ?_⟩
    · rw [if_neg (by omega)]
      exact i1 (by omega)
    · by_cases c : x = k
      · rw [if_pos c]
        refine ⟨(k, l), ?_, rfl⟩
        rw [show (x - k).toNat = 0 by omega]
        rfl
      · rw [if_neg c]
        obtain ⟨q, q1, q2⟩ := i2 (by omega) (by omega)
        refine ⟨q, ?_, q2⟩
        rw [show (x - k).toNat = (x - (k + 1)).toNat + 1 by omega]
        exact q1
theorem zs_switch (C : zCtx G m0 p s mm args meth cd) (hm : m0 < 305) (hr : m0 ≠ zRef) {d : Int} {ps : Array (Int × Int)} {x : Int32} (hs : zSrt ps.toList = true) (kk : zXW G m0 p l e R s mm args below meth cd FQ h0 (zB m0 (zsw ps.toList d x.toInt)) L st h) : zXW G m0 p l e R s mm args below meth cd FQ h0 (.lookupswitch d ps :: r) L (.int x :: st) h := by
  intro pc hc H locs ls hR hL hlo q1 q2
  obtain ⟨q, hq, hd, hc⟩ := zChk_c (fun _ h => by cases h) hc
  have kk2 := kk _ (zChk_ok hm hr _) H locs ls hR hL hlo q1 q2
  rcases List.mem_cons.mp hq with rfl | hq
  · refine lv_lookup C.x C.b hd (off := zOff m0 pc (zsw ps.toList d x.toInt)) ?_ ?_ zOff_at kk2
    · rw [Array.toList_map]
      exact zSrt_map m0 pc ps.toList hs
    · rw [Array.toList_map]
      exact zsw_look m0 pc d x.toInt ps.toList
  · split at hq
    · cases hq
    · rename_i q0 rr eps
      obtain ⟨hk, hq⟩ := zif_m hq
      rw [List.mem_singleton.mp hq] at hd hc
      have esz : ps.size = ps.toList.length := (Array.length_toList).symm
      obtain ⟨i1, i2⟩ := zsw_keys d x.toInt ps.toList q0.1 (by rw [← esz]; exact hk)
      by_cases c : x.toInt < q0.1 ∨ q0.1 + ps.toList.length ≤ x.toInt
      · rw [i1 c] at kk2
        exact lv_tableOut C.x C.b hd (by rw [esz]; omega) zOff_at kk2
      · obtain ⟨q2, j1, j2⟩ := i2 (by omega) (by omega)
        rw [j2] at kk2
        refine lv_tableIn C.x C.b hd (off := zOff m0 pc q2.2) (by omega) (by rw [esz]; omega) ?_ zOff_at kk2
        rw [Array.getElem?_map, ← Array.getElem?_toList, j1]
        rfl
end
end
