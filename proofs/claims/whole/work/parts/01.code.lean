/-! THE PROGRAM: each method by blocks; written by wip/whole/gen_code.py out of claim/JAVAP.txt, claim/JDK.txt -/
-- 0 BudgetSearch.init ()V
def zb_0 : List (List Instr) := [
  [.aload 0, .invokeinterface 57 1, .aload 0, .iconst 0, .newarray .int, .putfield 0, .return_]]
-- 1 BudgetSearch.leastFor (LServiceBudgets$State;I)I
def zb_1 : List (List Instr) := [
  [.aload 1, .iload 2, .invokeinterface 91 2, .ifCond .ne 1, .iconst (-1), .ireturn],
  [.aload 0, .getfield 0, .arraylength, .ifCond .ne 2, .aload 0, .iconst 6012, .newarray .int, .putfield 0, .goto_w 2],
  [.aload 1, .iload 2, .invokeinterface 87 2, .istore 3, .iconst 0, .istore 4, .goto_w 3],
  [.iload 4, .iconst 1000, .if_icmp .gt 6, .aload 0, .aload 1, .iload 2, .iconst 0, .iload 4, .iconst 1, .invokeinterface 305 6, .invokeinterface 60 1, .ifCond .eq 4, .iload 4, .ireturn],
  [.iload 4, .iconst 500, .if_icmp .gt 5, .aload 0, .aload 1, .iload 3, .iload 4, .invokeinterface 2 4, .goto_w 5],
  [.iinc 4 1, .goto 3],
  [.iconst (-1), .ireturn]]
-- 2 BudgetSearch.keepOutcomes (LServiceBudgets$State;II)V
def zb_2 : List (List Instr) := [
  [.iconst 0, .istore 4, .goto_w 1],
  [.iload 4, .aload 1, .getfield 448, .if_icmp .ge 3, .iload 2, .iload 4, .invokeinterface 158 2, .ifCond .eq 2, .aload 0, .getfield 0, .iload 3, .iconst 12, .imul, .iload 4, .iadd, .aload 0, .aload 1, .iload 4, .iconst 0, .iload 3, .iconst 1, .invokeinterface 305 6, .iastore, .goto_w 2],
  [.iinc 4 1, .goto 1],
  [.return_]]
-- 3 BudgetSearch.ask (LServiceBudgets$State;IIII)I
def zb_3 : List (List Instr) := [
  [.aload 0, .getfield 0, .iload 4, .iconst 12, .imul, .aload 1, .getfield 451, .iconst 1, .aaload, .iload 2, .iaload, .iadd, .iaload, .ireturn]]
-- 4 BudgetSearch.noteFailure (IIII)V
def zb_4 : List (List Instr) := [
  [.return_]]
-- 5 BudgetSearch.noteMissing ()V
def zb_5 : List (List Instr) := [
  [.return_]]
-- 6 FailureSets.init ()V
def zb_6 : List (List Instr) := [
  [.aload 0, .monitorexit, .aload 0, .iconst 12, .iconst 64, .multianewarray 1 2, .putfield 64, .aload 0, .iconst 64, .newarray .long, .putfield 65, .aload 0, .iconst 0, .newarray .double, .putfield 66, .return_]]
-- 7 FailureSets.fill (LServiceBudgets$State;LServiceBudgets$Graph;)V
def zb_7 : List (List Instr) := [
  [.iconst 1, .iconst 1, .aload 1, .getfield 448, .ishl, .iconst 6, .ishr, .invokeinterface 300 2, .istore 3, .iconst 0, .istore 4, .goto_w 1],
  [.iload 4, .aload 2, .invokeinterface 22 1, .if_icmp .ge 7, .aload 2, .iload 4, .invokeinterface 21 2, .istore 5, .iconst 0, .istore 6, .goto_w 2],
  [.iload 6, .iload 3, .if_icmp .ge 3, .aload 0, .getfield 64, .iload 5, .aaload, .iload 6, .iload 5, .iload 6, .invokeinterface 8 2, .lastore, .iinc 6 1, .goto 2],
  [.iconst 0, .istore 6, .goto_w 4],
  [.iload 6, .aload 1, .getfield 449, .if_icmp .ge 6, .aload 1, .iload 6, .iload 5, .invokeinterface 84 3, .ifCond .eq 5, .aload 1, .iload 6, .invokeinterface 86 2, .ifCond .eq 5, .aload 0, .aload 1, .iload 6, .iload 3, .invokeinterface 9 4, .goto_w 5],
  [.iinc 6 1, .goto 4],
  [.iinc 4 1, .goto 1],
  [.return_]]
-- 8 FailureSets.members (II)J
def zb_8 : List (List Instr) := [
  [.iload 0, .iconst 6, .if_icmp .ge 1, .getstatic 3, .iload 0, .laload, .lreturn],
  [.iload 1, .iload 0, .iconst 6, .isub, .invokeinterface 158 2, .ifCond .eq 2, .jsr_w (-1), .goto 3],
  [.jsr_w 0, .goto_w 3],
  [.lreturn]]
-- 9 FailureSets.addGroup (LServiceBudgets$State;II)V
def zb_9 : List (List Instr) := [
  [.iconst 0, .istore 4, .goto_w 1],
  [.iload 4, .iload 3, .if_icmp .ge 2, .aload 0, .getfield 65, .iload 4, .jsr_w (-1), .lastore, .iinc 4 1, .goto 1],
  [.iload 2, .istore 4, .goto_w 3],
  [.iload 4, .aload 1, .getfield 449, .if_icmp .ge 6, .aload 1, .iload 4, .iload 2, .invokeinterface 85 3, .ifCond .eq 5, .aload 0, .getfield 64, .aload 1, .getfield 451, .iconst 1, .aaload, .iload 4, .iaload, .aaload, .astore 5, .iconst 0, .istore 6, .goto_w 4],
  [.iload 6, .iload 3, .if_icmp .ge 5, .aload 0, .getfield 65, .iload 6, .dup2, .laload, .aload 5, .iload 6, .laload, .land, .lastore, .iinc 6 1, .goto 4],
  [.iinc 4 1, .goto 3],
  [.aload 0, .getfield 64, .aload 1, .getfield 451, .iconst 0, .aaload, .iload 2, .iaload, .aaload, .astore 4, .iconst 0, .istore 5, .goto_w 7],
  [.iload 5, .iload 3, .if_icmp .ge 8, .aload 4, .iload 5, .dup2, .laload, .aload 0, .getfield 65, .iload 5, .laload, .lor, .lastore, .iinc 5 1, .goto 7],
  [.return_]]
-- 10 FailureSets.isFailing (II)Z
def zb_10 : List (List Instr) := [
  [.aload 0, .getfield 64, .iload 1, .aaload, .iload 2, .iconst 6, .ishr, .laload, .iload 2, .iconst 63, .iand, .lushr, .jsr_w 1, .land, .jsr_w 0, .lcmp, .ifCond .eq 1, .iconst 1, .goto 2],
  [.iconst 0, .goto_w 2],
  [.ireturn]]
-- 11 FailureSets.isCut (LServiceBudgets$State;II)Z
def zb_11 : List (List Instr) := [
  [.aload 0, .iload 2, .iload 3, .invokeinterface 10 3, .ifCond .ne 1, .iconst 0, .ireturn],
  [.iconst 0, .istore 4, .goto_w 2],
  [.iload 4, .aload 1, .getfield 448, .if_icmp .ge 4, .iload 3, .iload 4, .invokeinterface 158 2, .ifCond .eq 3, .aload 0, .iload 2, .iload 3, .iconst 1, .iload 4, .ishl, .iconst (-1), .ixor, .iand, .invokeinterface 10 3, .ifCond .eq 3, .iconst 0, .ireturn],
  [.iinc 4 1, .goto 2],
  [.iconst 1, .ireturn]]
-- 12 FailureSets.countCuts (LServiceBudgets$State;II)I
def zb_12 : List (List Instr) := [
  [.iconst 0, .istore 4, .iconst 0, .istore 5, .goto_w 1],
  [.iload 5, .iconst 1, .aload 1, .getfield 448, .ishl, .if_icmp .ge 3, .iload 5, .invokeinterface 302 1, .iload 3, .if_icmp .ne 2, .aload 0, .aload 1, .iload 2, .iload 5, .invokeinterface 11 4, .ifCond .eq 2, .iinc 4 1, .goto_w 2],
  [.iinc 5 1, .goto 1],
  [.iload 4, .ireturn]]
-- 13 FailureSets.findCut (LServiceBudgets$State;III)I
def zb_13 : List (List Instr) := [
  [.iconst 0, .istore 5, .iconst 0, .istore 6, .goto_w 1],
  [.iload 6, .iconst 1, .aload 1, .getfield 448, .ishl, .if_icmp .ge 4, .iload 6, .invokeinterface 302 1, .iload 3, .if_icmp .ne 3, .aload 0, .aload 1, .iload 2, .iload 6, .invokeinterface 11 4, .ifCond .eq 3, .iload 5, .iload 4, .if_icmp .ne 2, .iload 6, .ireturn],
  [.iinc 5 1, .goto_w 3],
  [.iinc 6 1, .goto 1],
  [.iconst (-1), .ireturn]]
-- 14 FailureSets.chanceOf (LServiceBudgets$State;II)D
def zb_14 : List (List Instr) := [
  [.aload 0, .aload 1, .iload 3, .invokeinterface 15 3, .jsr 0, .dstore 4, .iconst 0, .istore 6, .goto_w 1],
  [.iload 6, .iconst 1, .aload 1, .getfield 448, .ishl, .if_icmp .ge 3, .aload 0, .iload 2, .iload 6, .invokeinterface 10 3, .ifCond .ne 2, .dload 4, .aload 0, .getfield 66, .iload 6, .daload, .dadd, .dstore 4, .goto_w 2],
  [.iinc 6 1, .goto 1],
  [.dload 4, .dreturn]]
-- 15 FailureSets.fillChances (LServiceBudgets$State;I)V
def zb_15 : List (List Instr) := [
  [.aload 0, .getfield 66, .arraylength, .ifCond .ne 1, .aload 0, .iconst 4096, .newarray .double, .putfield 66, .goto_w 1],
  [.aload 0, .getfield 66, .iconst 0, .jsr 4607182418800017408, .dastore, .iconst 0, .istore 3, .goto_w 2],
  [.iload 3, .aload 1, .getfield 448, .if_icmp .ge 7, .iload 3, .iload 2, .if_icmp .ne 3, .iconst 1000, .goto 4],
  [.aload 1, .getfield 450, .iconst 5, .aaload, .iload 3, .iaload, .goto_w 4],
  [.istore 4, .iload 4, .i2d, .jsr 4652007308841189376, .ddiv, .dstore 5, .iconst 1000, .iload 4, .isub, .i2d, .jsr 4652007308841189376, .ddiv, .dstore 7, .iconst 1, .iload 3, .ishl, .istore 9, .iconst 0, .istore 10, .goto_w 5],
  [.iload 10, .iload 9, .if_icmp .ge 6, .aload 0, .getfield 66, .iload 9, .iload 10, .iadd, .aload 0, .getfield 66, .iload 10, .daload, .dload 7, .dmul, .dastore, .aload 0, .getfield 66, .iload 10, .aload 0, .getfield 66, .iload 10, .daload, .dload 5, .dmul, .dastore, .iinc 10 1, .goto 5],
  [.iinc 3 1, .goto 2],
  [.return_]]
-- 16 FailureSets.mostWorthwhile (LServiceBudgets$State;I)I
def zb_16 : List (List Instr) := [
  [.iconst 0, .istore 3, .aload 0, .aload 1, .iload 2, .iconst 0, .invokeinterface 14 4, .dstore 4, .iconst 1, .istore 6, .goto_w 1],
  [.iload 6, .aload 1, .getfield 448, .if_icmp .ge 3, .aload 0, .aload 1, .iload 2, .iload 6, .invokeinterface 14 4, .dstore 7, .dload 7, .dload 4, .dcmp .l, .ifCond .le 2, .iload 6, .istore 3, .dload 7, .dstore 4, .goto_w 2],
  [.iinc 6 1, .goto 1],
  [.iload 3, .ireturn]]
-- 17 Graph.init ()V
def zb_17 : List (List Instr) := [
  [.aload 0, .monitorexit, .aload 0, .iconst 12, .newarray .int, .putfield 128, .aload 0, .iconst 12, .newarray .int, .putfield 129, .aload 0, .iconst 0, .putfield 130, .aload 0, .iconst 12, .newarray .int, .putfield 131, .aload 0, .iconst 12, .newarray .int, .putfield 132, .return_]]
-- 18 Graph.sort (LServiceBudgets$State;)V
def zb_18 : List (List Instr) := [
  [.aload 0, .aload 1, .invokeinterface 19 2, .aload 0, .iconst 0, .putfield 130, .iconst 0, .istore 2, .iconst 0, .istore 3, .goto_w 1],
  [.iload 3, .aload 1, .getfield 448, .if_icmp .ge 3, .aload 0, .aload 1, .iload 2, .invokeinterface 20 3, .istore 4, .iload 4, .iconst (-1), .if_icmp .ne 2, .return_],
  [.aload 0, .getfield 129, .iload 3, .iload 4, .iastore, .iload 2, .iconst 1, .iload 4, .ishl, .ior, .istore 2, .aload 0, .dup, .getfield 130, .iconst 1, .iadd, .putfield 130, .iinc 3 1, .goto 1],
  [.return_]]
-- 19 Graph.fillDirect (LServiceBudgets$State;)V
def zb_19 : List (List Instr) := [
  [.iconst 0, .istore 2, .goto_w 1],
  [.iload 2, .aload 1, .getfield 448, .if_icmp .ge 2, .aload 0, .getfield 128, .iload 2, .iconst 0, .iastore, .iinc 2 1, .goto 1],
  [.iconst 0, .istore 2, .goto_w 3],
  [.iload 2, .aload 1, .getfield 449, .if_icmp .ge 4, .aload 0, .getfield 128, .aload 1, .getfield 451, .iconst 0, .aaload, .iload 2, .iaload, .dup2, .iaload, .iconst 1, .aload 1, .getfield 451, .iconst 1, .aaload, .iload 2, .iaload, .ishl, .ior, .iastore, .iinc 2 1, .goto 3],
  [.return_]]
-- 20 Graph.lowestNext (LServiceBudgets$State;I)I
def zb_20 : List (List Instr) := [
  [.iconst 0, .istore 3, .goto_w 1],
  [.iload 3, .aload 1, .getfield 448, .if_icmp .ge 3, .iload 2, .iload 3, .invokeinterface 158 2, .ifCond .ne 2, .aload 0, .getfield 128, .iload 3, .iaload, .iload 2, .iconst (-1), .ixor, .iand, .ifCond .ne 2, .iload 3, .ireturn],
  [.iinc 3 1, .goto 1],
  [.iconst (-1), .ireturn]]
-- 21 Graph.sortedAt (I)I
def zb_21 : List (List Instr) := [
  [.iload 1, .ifCond .lt 1, .iload 1, .aload 0, .getfield 130, .if_icmp .lt 2, .goto_w 1],
  [.iconst (-1), .goto 3],
  [.aload 0, .getfield 129, .iload 1, .iaload, .goto_w 3],
  [.ireturn]]
-- 22 Graph.countSorted ()I
def zb_22 : List (List Instr) := [
  [.aload 0, .getfield 130, .ireturn]]
-- 23 Graph.measureChains (LServiceBudgets$State;)V
def zb_23 : List (List Instr) := [
  [.aload 0, .aload 1, .invokeinterface 18 2, .iconst 0, .istore 2, .goto_w 1],
  [.iload 2, .aload 0, .getfield 130, .if_icmp .ge 2, .aload 0, .getfield 131, .aload 0, .getfield 129, .iload 2, .iaload, .aload 0, .aload 1, .aload 0, .getfield 129, .iload 2, .iaload, .invokeinterface 24 3, .iastore, .iinc 2 1, .goto 1],
  [.return_]]
-- 24 Graph.chainOf (LServiceBudgets$State;I)I
def zb_24 : List (List Instr) := [
  [.iconst 0, .istore 3, .iconst 0, .istore 4, .goto_w 1],
  [.iload 4, .aload 1, .getfield 449, .if_icmp .ge 3, .aload 1, .getfield 451, .iconst 0, .aaload, .iload 4, .iaload, .iload 2, .if_icmp .ne 2, .iload 3, .iconst 1, .aload 0, .getfield 131, .aload 1, .getfield 451, .iconst 1, .aaload, .iload 4, .iaload, .iaload, .iadd, .invokeinterface 300 2, .istore 3, .goto_w 2],
  [.iinc 4 1, .goto 1],
  [.iload 3, .ireturn]]
-- 25 Graph.measureBounds (LServiceBudgets$State;)V
def zb_25 : List (List Instr) := [
  [.aload 0, .aload 1, .invokeinterface 18 2, .iconst 0, .istore 2, .goto_w 1],
  [.iload 2, .aload 0, .getfield 130, .if_icmp .ge 2, .aload 0, .getfield 132, .aload 0, .getfield 129, .iload 2, .iaload, .aload 0, .aload 1, .aload 0, .getfield 129, .iload 2, .iaload, .invokeinterface 26 3, .iastore, .iinc 2 1, .goto 1],
  [.return_]]
-- 26 Graph.boundOf (LServiceBudgets$State;I)I
def zb_26 : List (List Instr) := [
  [.aload 1, .iload 2, .invokeinterface 81 2, .istore 3, .iconst 0, .istore 4, .goto_w 1],
  [.iload 4, .aload 1, .getfield 449, .if_icmp .ge 3, .aload 1, .getfield 451, .iconst 0, .aaload, .iload 4, .iaload, .iload 2, .if_icmp .ne 2, .aload 1, .getfield 451, .iconst 2, .aaload, .iload 4, .iaload, .istore 5, .iload 5, .aload 0, .getfield 132, .aload 1, .getfield 451, .iconst 1, .aaload, .iload 4, .iaload, .iaload, .invokeinterface 301 2, .istore 6, .iload 3, .aload 1, .getfield 451, .iconst 3, .aaload, .iload 4, .iaload, .iload 6, .imul, .iadd, .istore 3, .goto_w 2],
  [.iinc 4 1, .goto 1],
  [.iload 3, .iconst 100000, .invokeinterface 301 2, .ireturn]]
-- 27 Graph.countUnsound (LServiceBudgets$State;)I
def zb_27 : List (List Instr) := [
  [.iconst 0, .istore 2, .iconst 0, .istore 3, .goto_w 1],
  [.iload 3, .aload 1, .getfield 449, .if_icmp .ge 3, .aload 1, .getfield 451, .iconst 2, .aaload, .iload 3, .iaload, .aload 0, .getfield 132, .aload 1, .getfield 451, .iconst 1, .aaload, .iload 3, .iaload, .iaload, .if_icmp .ge 2, .iinc 2 1, .goto_w 2],
  [.iinc 3 1, .goto 1],
  [.iload 2, .ireturn]]
-- 28 Graph.tightenLimits (LServiceBudgets$State;)I
def zb_28 : List (List Instr) := [
  [.aload 0, .aload 1, .invokeinterface 18 2, .iconst 0, .istore 2, .iconst 0, .istore 3, .goto_w 1],
  [.iload 3, .aload 0, .getfield 130, .if_icmp .ge 2, .aload 0, .getfield 129, .iload 3, .iaload, .istore 4, .aload 0, .getfield 132, .iload 4, .aload 0, .aload 1, .iload 4, .invokeinterface 26 3, .iastore, .iload 2, .aload 0, .aload 1, .iload 4, .aload 0, .getfield 132, .iload 4, .iaload, .iconst 500, .invokeinterface 301 2, .invokeinterface 29 4, .iadd, .istore 2, .iinc 3 1, .goto 1],
  [.iload 2, .ireturn]]
-- 29 Graph.limitCallsTo (LServiceBudgets$State;II)I
def zb_29 : List (List Instr) := [
  [.iconst 0, .istore 4, .iconst 0, .istore 5, .goto_w 1],
  [.iload 5, .aload 1, .getfield 449, .if_icmp .ge 3, .aload 1, .getfield 451, .iconst 1, .aaload, .iload 5, .iaload, .iload 2, .if_icmp .ne 2, .aload 1, .iload 5, .iload 3, .invokeinterface 79 3, .iload 3, .if_icmp .eq 2, .iinc 4 1, .goto_w 2],
  [.iinc 5 1, .goto 1],
  [.iload 4, .ireturn]]
-- 30 Graph.failingBy (LServiceBudgets$State;I)I
def zb_30 : List (List Instr) := [
  [.iload 2, .istore 3, .iconst 0, .istore 4, .goto_w 1],
  [.iload 4, .aload 0, .getfield 130, .if_icmp .ge 3, .aload 1, .aload 0, .getfield 129, .iload 4, .iaload, .iload 3, .invokeinterface 89 3, .ifCond .eq 2, .iload 3, .iconst 1, .aload 0, .getfield 129, .iload 4, .iaload, .ishl, .ior, .istore 3, .goto_w 2],
  [.iinc 4 1, .goto 1],
  [.iload 3, .ireturn]]
-- 31 History.init ()V
def zb_31 : List (List Instr) := [
  [.aload 0, .monitorexit, .aload 0, .iconst 4, .anewarray 0, .putfield 192, .aload 0, .iconst 0, .putfield 193, .iconst 0, .istore 1, .goto_w 1],
  [.iload 1, .iconst 4, .if_icmp .ge 2, .aload 0, .getfield 192, .iload 1, .new 7, .dup, .invokeinterface 65 1, .aastore, .iinc 1 1, .goto 1],
  [.return_]]
-- 32 History.save (LServiceBudgets$State;)V
def zb_32 : List (List Instr) := [
  [.aload 0, .getfield 193, .iconst 4, .if_icmp .ne 1, .aload 0, .invokeinterface 33 1, .goto_w 1],
  [.aload 0, .getfield 192, .aload 0, .getfield 193, .aaload, .aload 1, .invokeinterface 66 2, .aload 0, .dup, .getfield 193, .iconst 1, .iadd, .putfield 193, .return_]]
-- 33 History.dropOldest ()V
def zb_33 : List (List Instr) := [
  [.aload 0, .getfield 192, .iconst 0, .aaload, .astore 1, .iconst 1, .istore 2, .goto_w 1],
  [.iload 2, .iconst 4, .if_icmp .ge 2, .aload 0, .getfield 192, .iload 2, .iconst 1, .isub, .aload 0, .getfield 192, .iload 2, .aaload, .aastore, .iinc 2 1, .goto 1],
  [.aload 0, .getfield 192, .iconst 3, .aload 1, .aastore, .aload 0, .dup, .getfield 193, .iconst 1, .isub, .putfield 193, .return_]]
-- 34 History.whyEmpty ()I
def zb_34 : List (List Instr) := [
  [.aload 0, .getfield 193, .ifCond .ne 1, .iconst 3, .goto 2],
  [.iconst 0, .goto_w 2],
  [.ireturn]]
-- 35 History.restore (LServiceBudgets$State;)I
def zb_35 : List (List Instr) := [
  [.aload 0, .dup, .getfield 193, .iconst 1, .isub, .putfield 193, .aload 1, .aload 0, .getfield 192, .aload 0, .getfield 193, .aaload, .invokeinterface 66 2, .aload 0, .getfield 193, .ireturn]]
-- 36 Recovery.init ()V
def zb_36 : List (List Instr) := [
  [.aload 0, .monitorexit, .aload 0, .iconst 12, .newarray .int, .putfield 256, .aload 0, .iconst 12, .newarray .int, .putfield 257, .aload 0, .iconst 12, .newarray .int, .putfield 258, .aload 0, .iconst 0, .newarray .int, .putfield 259, .return_]]
-- 37 Recovery.fillBefore (LServiceBudgets$State;)I
def zb_37 : List (List Instr) := [
  [.aload 1, .invokeinterface 92 1, .istore 2, .iconst 0, .istore 3, .goto_w 1],
  [.iload 3, .aload 1, .getfield 448, .if_icmp .ge 3, .iload 2, .iload 3, .invokeinterface 158 2, .ifCond .eq 2, .aload 0, .getfield 256, .iload 3, .aload 1, .iload 3, .invokeinterface 87 2, .iload 2, .iand, .iastore, .goto_w 2],
  [.iinc 3 1, .goto 1],
  [.iload 2, .ireturn]]
-- 38 Recovery.byCrews (LServiceBudgets$State;I)I
def zb_38 : List (List Instr) := [
  [.aload 0, .aload 1, .invokeinterface 37 2, .istore 3, .iconst 0, .istore 4, .iconst 0, .istore 5, .iconst 0, .istore 6, .iconst 0, .istore 7, .goto_w 1],
  [.iload 7, .aload 1, .getfield 448, .if_icmp .gt 6, .aload 0, .aload 1, .iload 4, .iload 6, .invokeinterface 39 4, .istore 8, .iload 4, .iload 8, .iconst (-1), .ixor, .iand, .istore 4, .iload 5, .iload 8, .ior, .istore 5, .iload 2, .iload 4, .invokeinterface 302 1, .isub, .istore 9, .goto_w 2],
  [.iload 9, .ifCond .le 4, .aload 0, .aload 1, .iload 3, .iload 5, .invokeinterface 41 4, .istore 10, .iload 10, .iconst (-1), .if_icmp .ne 3, .goto 4],
  [.aload 0, .getfield 257, .iload 10, .iload 6, .iastore, .aload 0, .getfield 258, .iload 10, .iload 6, .aload 1, .getfield 450, .iconst 3, .aaload, .iload 10, .iaload, .iadd, .iastore, .iload 3, .iconst 1, .iload 10, .ishl, .iconst (-1), .ixor, .iand, .istore 3, .iload 4, .iconst 1, .iload 10, .ishl, .ior, .istore 4, .iinc 9 (-1), .goto 2],
  [.iload 4, .ifCond .ne 5, .iload 6, .ireturn],
  [.aload 0, .aload 1, .iload 4, .invokeinterface 40 3, .istore 6, .iinc 7 1, .goto 1],
  [.iload 6, .ireturn]]
-- 39 Recovery.overAt (LServiceBudgets$State;II)I
def zb_39 : List (List Instr) := [
  [.iconst 0, .istore 4, .iconst 0, .istore 5, .goto_w 1],
  [.iload 5, .aload 1, .getfield 448, .if_icmp .ge 3, .iload 2, .iload 5, .invokeinterface 158 2, .ifCond .eq 2, .aload 0, .getfield 258, .iload 5, .iaload, .iload 3, .if_icmp .gt 2, .iload 4, .iconst 1, .iload 5, .ishl, .ior, .istore 4, .goto_w 2],
  [.iinc 5 1, .goto 1],
  [.iload 4, .ireturn]]
-- 40 Recovery.nextEnd (LServiceBudgets$State;I)I
def zb_40 : List (List Instr) := [
  [.iconst (-1), .istore 3, .iconst 0, .istore 4, .goto_w 1],
  [.iload 4, .aload 1, .getfield 448, .if_icmp .ge 4, .iload 2, .iload 4, .invokeinterface 158 2, .ifCond .eq 3, .iload 3, .iconst (-1), .if_icmp .eq 2, .aload 0, .getfield 258, .iload 4, .iaload, .iload 3, .if_icmp .ge 3, .goto_w 2],
  [.aload 0, .getfield 258, .iload 4, .iaload, .istore 3, .goto_w 3],
  [.iinc 4 1, .goto 1],
  [.iload 3, .ireturn]]
-- 41 Recovery.mostImportant (LServiceBudgets$State;II)I
def zb_41 : List (List Instr) := [
  [.iconst (-1), .istore 4, .iconst 0, .istore 5, .iconst 0, .istore 6, .goto_w 1],
  [.iload 6, .aload 1, .getfield 448, .if_icmp .ge 3, .iload 2, .iload 6, .invokeinterface 158 2, .ifCond .eq 2, .aload 0, .getfield 256, .iload 6, .iaload, .iload 3, .iconst (-1), .ixor, .iand, .ifCond .ne 2, .aload 1, .getfield 450, .iconst 4, .aaload, .iload 6, .iaload, .iload 5, .if_icmp .le 2, .iload 6, .istore 4, .aload 1, .getfield 450, .iconst 4, .aaload, .iload 6, .iaload, .istore 5, .goto_w 2],
  [.iinc 6 1, .goto 1],
  [.iload 4, .ireturn]]
-- 42 Recovery.leastCost (LServiceBudgets$State;)I
def zb_42 : List (List Instr) := [
  [.aload 0, .aload 1, .invokeinterface 37 2, .istore 2, .aload 0, .getfield 259, .arraylength, .ifCond .ne 1, .aload 0, .iconst 4096, .newarray .int, .putfield 259, .goto_w 1],
  [.aload 0, .getfield 259, .iload 2, .iconst 0, .iastore, .iload 2, .istore 3, .goto_w 2],
  [.iload 3, .ifCond .le 3, .iload 3, .iconst 1, .isub, .iload 2, .iand, .istore 3, .aload 0, .aload 1, .iload 2, .iload 3, .invokeinterface 43 4, .pop, .goto 2],
  [.aload 0, .getfield 259, .iconst 0, .iaload, .ireturn]]
-- 43 Recovery.settle (LServiceBudgets$State;II)I
def zb_43 : List (List Instr) := [
  [.aload 1, .iload 3, .invokeinterface 44 2, .istore 4, .iconst (-1), .istore 5, .iconst 0, .istore 6, .iconst 0, .istore 7, .goto_w 1],
  [.iload 7, .aload 1, .getfield 448, .if_icmp .ge 5, .iload 2, .iload 3, .iconst (-1), .ixor, .iand, .iload 7, .invokeinterface 158 2, .ifCond .eq 4, .aload 0, .getfield 256, .iload 7, .iaload, .iload 3, .iconst (-1), .ixor, .iand, .ifCond .eq 2, .goto 4],
  [.iload 4, .aload 1, .getfield 450, .iconst 3, .aaload, .iload 7, .iaload, .iadd, .istore 8, .aload 1, .getfield 450, .iconst 4, .aaload, .iload 7, .iaload, .iload 8, .imul, .aload 0, .getfield 259, .iload 3, .iconst 1, .iload 7, .ishl, .ior, .iaload, .iadd, .istore 9, .iload 5, .iconst (-1), .if_icmp .eq 3, .iload 9, .iload 6, .if_icmp .ge 4, .goto_w 3],
  [.iload 7, .istore 5, .iload 9, .istore 6, .goto_w 4],
  [.iinc 7 1, .goto 1],
  [.aload 0, .getfield 259, .iload 3, .iload 6, .iastore, .iload 5, .ireturn]]
-- 44 Recovery.timeFor (LServiceBudgets$State;I)I
def zb_44 : List (List Instr) := [
  [.iconst 0, .istore 2, .iconst 0, .istore 3, .goto_w 1],
  [.iload 3, .aload 0, .getfield 448, .if_icmp .ge 3, .iload 1, .iload 3, .invokeinterface 158 2, .ifCond .eq 2, .iload 2, .aload 0, .getfield 450, .iconst 3, .aaload, .iload 3, .iaload, .iadd, .istore 2, .goto_w 2],
  [.iinc 3 1, .goto 1],
  [.iload 2, .ireturn]]
-- 45 Recovery.inBestOrder (LServiceBudgets$State;I)I
def zb_45 : List (List Instr) := [
  [.aload 1, .invokeinterface 92 1, .istore 3, .iload 2, .ifCond .lt 1, .iload 2, .iload 3, .invokeinterface 302 1, .if_icmp .lt 2, .goto_w 1],
  [.iconst (-1), .ireturn],
  [.aload 0, .aload 1, .invokeinterface 42 2, .pop, .iconst 0, .istore 4, .aload 0, .aload 1, .iload 3, .iload 4, .invokeinterface 43 4, .istore 5, .iconst 0, .istore 6, .goto_w 3],
  [.iload 6, .iload 2, .if_icmp .ge 4, .iload 5, .iconst (-1), .if_icmp .eq 4, .iload 4, .iconst 1, .iload 5, .ishl, .ior, .istore 4, .aload 0, .aload 1, .iload 3, .iload 4, .invokeinterface 43 4, .istore 5, .iinc 6 1, .goto 3],
  [.iload 5, .ireturn]]
-- 46 Request.init ()V
def zb_46 : List (List Instr) := [
  [.aload 0, .invokeinterface 57 1, .aload 0, .iconst 0, .putfield 320, .aload 0, .iconst 0, .putfield 321, .aload 0, .iconst 0, .putfield 322, .aload 0, .iconst 0, .putfield 323, .aload 0, .iconst (-1), .putfield 324, .aload 0, .iconst (-1), .putfield 325, .aload 0, .iconst 0, .putfield 326, .aload 0, .iconst 0, .putfield 327, .aload 0, .iconst 4, .iconst 60, .multianewarray 0 2, .putfield 328, .aload 0, .iconst 4, .iconst 200, .multianewarray 0 2, .putfield 329, .return_]]
-- 47 Request.begin (LServiceBudgets$State;II)Z
def zb_47 : List (List Instr) := [
  [.aload 0, .iconst 1, .putfield 320, .aload 0, .iconst 0, .putfield 322, .aload 0, .iconst 1, .putfield 323, .aload 0, .iconst (-1), .putfield 324, .aload 0, .iconst (-1), .putfield 325, .aload 0, .iconst 0, .putfield 326, .aload 0, .iconst 0, .putfield 327, .aload 0, .aload 0, .aload 1, .iload 2, .iconst 0, .iload 3, .iconst 1, .invokeinterface 306 6, .putfield 321, .aload 0, .getfield 321, .invokeinterface 60 1, .ireturn]]
-- 48 Request.ask (LServiceBudgets$State;IIII)I
def zb_48 : List (List Instr) := [
  [.iload 5, .iconst 12, .if_icmp .lt 1, .iconst 0, .invokeinterface 59 1, .ireturn],
  [.aload 0, .iload 2, .iload 3, .iload 4, .invokeinterface 49 4, .istore 6, .aload 0, .dup, .getfield 323, .iconst 1, .iadd, .putfield 323, .aload 0, .aload 1, .aload 1, .getfield 451, .iconst 1, .aaload, .iload 2, .iaload, .iload 3, .iload 4, .iload 5, .iconst 1, .iadd, .invokeinterface 306 6, .istore 7, .iload 6, .iconst (-1), .if_icmp .eq 2, .iload 7, .invokeinterface 60 1, .ifCond .eq 2, .aload 0, .getfield 329, .iconst 3, .aaload, .iload 6, .iconst 1, .iastore, .goto_w 2],
  [.iload 7, .ireturn]]
-- 49 Request.noteTry (III)I
def zb_49 : List (List Instr) := [
  [.aload 0, .getfield 327, .iconst 200, .if_icmp .lt 1, .iconst (-1), .ireturn],
  [.aload 0, .getfield 327, .istore 4, .aload 0, .getfield 329, .iconst 0, .aaload, .iload 4, .iload 1, .iastore, .aload 0, .getfield 329, .iconst 1, .aaload, .iload 4, .iload 2, .iastore, .aload 0, .getfield 329, .iconst 2, .aaload, .iload 4, .iload 3, .iastore, .aload 0, .getfield 329, .iconst 3, .aaload, .iload 4, .iconst 0, .iastore, .aload 0, .dup, .getfield 327, .iconst 1, .iadd, .putfield 327, .iload 4, .ireturn]]
-- 50 Request.noteFailure (IIII)V
def zb_50 : List (List Instr) := [
  [.aload 0, .getfield 324, .iconst (-1), .if_icmp .ne 1, .aload 0, .iload 1, .putfield 324, .goto_w 1],
  [.aload 0, .getfield 325, .iconst (-1), .if_icmp .ne 3, .iload 2, .iconst 1, .if_icmp .eq 2, .iload 2, .iconst 2, .if_icmp .ne 3, .goto_w 2],
  [.aload 0, .iload 1, .putfield 325, .goto_w 3],
  [.aload 0, .getfield 326, .iconst 60, .if_icmp .ge 4, .aload 0, .getfield 328, .iconst 0, .aaload, .aload 0, .getfield 326, .iload 1, .iastore, .aload 0, .getfield 328, .iconst 1, .aaload, .aload 0, .getfield 326, .iload 2, .iastore, .aload 0, .getfield 328, .iconst 2, .aaload, .aload 0, .getfield 326, .iload 3, .iastore, .aload 0, .getfield 328, .iconst 3, .aaload, .aload 0, .getfield 326, .iload 4, .iastore, .aload 0, .dup, .getfield 326, .iconst 1, .iadd, .putfield 326, .goto_w 4],
  [.return_]]
-- 51 Request.noteMissing ()V
def zb_51 : List (List Instr) := [
  [.aload 0, .dup, .getfield 322, .iconst 1, .iadd, .putfield 322, .return_]]
-- 52 Request.whyNone ()I
def zb_52 : List (List Instr) := [
  [.aload 0, .getfield 320, .ifCond .eq 1, .iconst 0, .goto 2],
  [.iconst 3, .goto_w 2],
  [.ireturn]]
-- 53 Request.about (I)I
def zb_53 : List (List Instr) := [
  [.iload 1, .lookupswitch 6 #[(0, 1), (1, 2), (2, 3), (3, 4), (4, 5)]],
  [.aload 0, .getfield 321, .invokeinterface 61 1, .ireturn],
  [.aload 0, .getfield 322, .ireturn],
  [.aload 0, .getfield 326, .ireturn],
  [.aload 0, .getfield 327, .ireturn],
  [.aload 0, .invokeinterface 54 1, .ireturn],
  [.aload 0, .getfield 323, .ireturn]]
-- 54 Request.blamed ()I
def zb_54 : List (List Instr) := [
  [.aload 0, .getfield 321, .invokeinterface 60 1, .ifCond .eq 1, .iconst (-1), .ireturn],
  [.aload 0, .getfield 325, .iconst (-1), .if_icmp .eq 2, .aload 0, .getfield 325, .goto 3],
  [.aload 0, .getfield 324, .goto_w 3],
  [.ireturn]]
-- 55 Request.aboutFailure (II)I
def zb_55 : List (List Instr) := [
  [.iload 1, .ifCond .lt 1, .iload 1, .aload 0, .getfield 326, .if_icmp .lt 2, .goto_w 1],
  [.iconst (-1), .goto 3],
  [.aload 0, .getfield 328, .iload 2, .aaload, .iload 1, .iaload, .goto_w 3],
  [.ireturn]]
-- 56 Request.aboutTry (II)I
def zb_56 : List (List Instr) := [
  [.iload 1, .ifCond .lt 1, .iload 1, .aload 0, .getfield 327, .if_icmp .lt 2, .goto_w 1],
  [.iconst (-1), .goto 3],
  [.aload 0, .getfield 329, .iload 2, .aaload, .iload 1, .iaload, .goto_w 3],
  [.ireturn]]
-- 57 Serving.init ()V
def zb_57 : List (List Instr) := [
  [.aload 0, .monitorexit, .return_]]
-- 58 Serving.good (I)I
def zb_58 : List (List Instr) := [
  [.iconst 2, .iload 0, .imul, .iconst 1, .iadd, .ireturn]]
-- 59 Serving.bad (I)I
def zb_59 : List (List Instr) := [
  [.iconst 2, .iload 0, .imul, .ireturn]]
-- 60 Serving.isGood (I)Z
def zb_60 : List (List Instr) := [
  [.iload 0, .iconst 1, .iand, .ifCond .eq 1, .iconst 1, .goto 2],
  [.iconst 0, .goto_w 2],
  [.ireturn]]
-- 61 Serving.timeOf (I)I
def zb_61 : List (List Instr) := [
  [.iload 0, .iconst 1, .ishr, .ireturn]]
-- 62 Serving.serve (LServiceBudgets$State;IIII)I
def zb_62 : List (List Instr) := [
  [.aload 1, .iload 2, .invokeinterface 91 2, .ifCond .ne 1, .aload 0, .iload 2, .iconst 1, .iload 3, .iload 4, .invokevirtual 1, .iconst 0, .invokeinterface 59 1, .ireturn],
  [.aload 1, .iload 2, .invokeinterface 81 2, .istore 6, .iload 6, .iload 4, .if_icmp .le 2, .aload 0, .iload 2, .iconst 2, .iload 3, .iload 4, .iadd, .iload 4, .invokevirtual 1, .iload 4, .invokeinterface 59 1, .ireturn],
  [.iconst 0, .istore 7, .goto_w 3],
  [.iload 7, .aload 1, .getfield 449, .if_icmp .ge 7, .aload 1, .iload 7, .iload 2, .invokeinterface 84 3, .ifCond .ne 4, .goto 6],
  [.aload 0, .aload 1, .iload 7, .iload 3, .iload 4, .iload 6, .iload 5, .invokeinterface 63 7, .istore 8, .iload 8, .invokeinterface 61 1, .istore 6, .iload 8, .invokeinterface 60 1, .ifCond .ne 5, .aload 1, .iload 7, .invokeinterface 86 2, .ifCond .eq 5, .aload 0, .iload 2, .iconst 4, .iload 3, .iload 6, .iadd, .iload 4, .invokevirtual 1, .iload 6, .invokeinterface 59 1, .ireturn],
  [.iload 8, .invokeinterface 60 1, .ifCond .ne 6, .aload 0, .invokevirtual 2, .goto_w 6],
  [.iinc 7 1, .goto 3],
  [.iload 6, .invokeinterface 58 1, .ireturn]]
-- 63 Serving.goThroughGroup (LServiceBudgets$State;IIIII)I
def zb_63 : List (List Instr) := [
  [.iload 5, .istore 7, .iload 2, .istore 8, .goto_w 1],
  [.iload 8, .aload 1, .getfield 449, .if_icmp .ge 4, .aload 1, .iload 8, .iload 2, .invokeinterface 85 3, .ifCond .eq 3, .aload 0, .aload 1, .iload 8, .iload 3, .iload 4, .iload 7, .iload 6, .invokeinterface 64 7, .istore 9, .iload 9, .invokeinterface 60 1, .ifCond .eq 2, .iload 9, .ireturn],
  [.iload 9, .invokeinterface 61 1, .istore 7, .goto_w 3],
  [.iinc 8 1, .goto 1],
  [.iload 7, .invokeinterface 59 1, .ireturn]]
-- 64 Serving.makeCall (LServiceBudgets$State;IIIII)I
def zb_64 : List (List Instr) := [
  [.iload 5, .istore 7, .aload 1, .getfield 451, .iconst 3, .aaload, .iload 2, .iaload, .istore 8, .iconst 0, .istore 9, .goto_w 1],
  [.iload 9, .iload 8, .if_icmp .ge 4, .iload 7, .iload 4, .if_icmp .lt 2, .aload 0, .aload 1, .getfield 451, .iconst 0, .aaload, .iload 2, .iaload, .iconst 3, .iload 3, .iload 7, .iadd, .iload 4, .invokevirtual 1, .iload 7, .invokeinterface 59 1, .ireturn],
  [.aload 1, .getfield 451, .iconst 2, .aaload, .iload 2, .iaload, .iload 4, .iload 7, .isub, .invokeinterface 301 2, .istore 10, .aload 0, .aload 1, .iload 2, .iload 3, .iload 7, .iadd, .iload 10, .iload 6, .invokevirtual 0, .istore 11, .iload 7, .iload 11, .invokeinterface 61 1, .iadd, .istore 7, .iload 11, .invokeinterface 60 1, .ifCond .eq 3, .iload 7, .invokeinterface 58 1, .ireturn],
  [.iinc 9 1, .goto 1],
  [.iload 7, .invokeinterface 59 1, .ireturn]]
-- 65 State.init ()V
def zb_65 : List (List Instr) := [
  [.aload 0, .monitorexit, .aload 0, .iconst 0, .putfield 448, .aload 0, .iconst 0, .putfield 449, .aload 0, .iconst 9, .iconst 12, .multianewarray 0 2, .putfield 450, .aload 0, .iconst 6, .iconst 24, .multianewarray 0 2, .putfield 451, .return_]]
-- 66 State.copyFrom (LServiceBudgets$State;)V
def zb_66 : List (List Instr) := [
  [.aload 0, .aload 1, .getfield 448, .putfield 448, .aload 0, .aload 1, .getfield 449, .putfield 449, .iconst 0, .istore 2, .goto_w 1],
  [.iload 2, .iconst 8, .if_icmp .gt 2, .aload 1, .getfield 450, .iload 2, .aaload, .iconst 0, .aload 0, .getfield 450, .iload 2, .aaload, .iconst 0, .iconst 12, .pop2, .iinc 2 1, .goto 1],
  [.iconst 0, .istore 2, .goto_w 3],
  [.iload 2, .iconst 5, .if_icmp .gt 4, .aload 1, .getfield 451, .iload 2, .aaload, .iconst 0, .aload 0, .getfield 451, .iload 2, .aaload, .iconst 0, .iconst 24, .pop2, .iinc 2 1, .goto 3],
  [.return_]]
-- 67 State.whyNoService (I)I
def zb_67 : List (List Instr) := [
  [.iload 1, .ifCond .lt 1, .iload 1, .aload 0, .getfield 448, .if_icmp .lt 2, .goto_w 1],
  [.iconst 1, .goto 3],
  [.iconst 0, .goto_w 3],
  [.ireturn]]
-- 68 State.whyNoCall (I)I
def zb_68 : List (List Instr) := [
  [.iload 1, .ifCond .lt 1, .iload 1, .aload 0, .getfield 449, .if_icmp .lt 2, .goto_w 1],
  [.iconst 1, .goto 3],
  [.iconst 0, .goto_w 3],
  [.ireturn]]
-- 69 State.whyNoSet (I)I
def zb_69 : List (List Instr) := [
  [.iload 1, .aload 0, .getfield 448, .iushr, .ifCond .eq 1, .iconst 2, .goto 2],
  [.iconst 0, .goto_w 2],
  [.ireturn]]
-- 70 State.whyNotNewService (I)I
def zb_70 : List (List Instr) := [
  [.iload 1, .getstatic 0, .iconst 0, .iaload, .if_icmp .lt 1, .iload 1, .getstatic 1, .iconst 0, .iaload, .if_icmp .le 2, .goto_w 1],
  [.iconst 2, .ireturn],
  [.aload 0, .getfield 448, .iconst 12, .if_icmp .lt 3, .iconst 3, .goto 4],
  [.iconst 0, .goto_w 4],
  [.ireturn]]
-- 71 State.newService (I)I
def zb_71 : List (List Instr) := [
  [.aload 0, .getfield 448, .istore 2, .iconst 0, .istore 3, .goto_w 1],
  [.iload 3, .iconst 5, .if_icmp .gt 2, .aload 0, .getfield 450, .iload 3, .aaload, .iload 2, .getstatic 2, .iload 3, .iaload, .iastore, .iinc 3 1, .goto 1],
  [.aload 0, .getfield 450, .iconst 0, .aaload, .iload 2, .iload 1, .iastore, .aload 0, .getfield 450, .iconst 6, .aaload, .iload 2, .iconst 1, .iastore, .aload 0, .getfield 450, .iconst 7, .aaload, .iload 2, .iconst 0, .iastore, .aload 0, .getfield 450, .iconst 8, .aaload, .iload 2, .iconst (-1), .iastore, .aload 0, .dup, .getfield 448, .iconst 1, .iadd, .putfield 448, .iload 2, .ireturn]]
-- 72 State.whyNotNewCall (IIIII)I
def zb_72 : List (List Instr) := [
  [.aload 0, .iload 1, .invokeinterface 67 2, .ifCond .ne 1, .aload 0, .iload 2, .invokeinterface 67 2, .ifCond .eq 2, .goto_w 1],
  [.iconst 1, .ireturn],
  [.iload 3, .iconst 1, .iconst 500, .invokeinterface 157 3, .ifCond .ne 3, .iload 4, .iconst 1, .iconst 3, .invokeinterface 157 3, .ifCond .ne 3, .iload 5, .iconst 0, .iconst 2, .invokeinterface 157 3, .ifCond .eq 4, .goto_w 3],
  [.iconst 2, .ireturn],
  [.iload 1, .iload 2, .if_icmp .eq 5, .aload 0, .iload 2, .invokeinterface 87 2, .iload 1, .invokeinterface 158 2, .ifCond .eq 6, .goto_w 5],
  [.iconst 3, .ireturn],
  [.iload 5, .iconst 2, .if_icmp .ne 7, .aload 0, .iload 1, .invokeinterface 83 2, .iconst (-1), .if_icmp .ne 7, .iconst 3, .ireturn],
  [.aload 0, .getfield 449, .iconst 24, .if_icmp .lt 8, .iconst 3, .goto 9],
  [.iconst 0, .goto_w 9],
  [.ireturn]]
-- 73 State.newCall (IIIII)I
def zb_73 : List (List Instr) := [
  [.aload 0, .getfield 449, .istore 6, .aload 0, .getfield 451, .iconst 5, .aaload, .iload 6, .iload 5, .iconst 2, .if_icmp .ne 1, .aload 0, .iload 1, .invokeinterface 83 2, .goto 2],
  [.iconst (-1), .goto_w 2],
  [.iastore, .aload 0, .getfield 451, .iconst 0, .aaload, .iload 6, .iload 1, .iastore, .aload 0, .getfield 451, .iconst 1, .aaload, .iload 6, .iload 2, .iastore, .aload 0, .getfield 451, .iconst 2, .aaload, .iload 6, .iload 3, .iastore, .aload 0, .getfield 451, .iconst 3, .aaload, .iload 6, .iload 4, .iastore, .aload 0, .getfield 451, .iconst 4, .aaload, .iload 6, .iload 5, .iastore, .aload 0, .dup, .getfield 449, .iconst 1, .iadd, .putfield 449, .iload 6, .ireturn]]
-- 74 State.whyNotDropCall (I)I
def zb_74 : List (List Instr) := [
  [.aload 0, .iload 1, .invokeinterface 68 2, .ifCond .eq 1, .iconst 1, .ireturn],
  [.iconst 0, .istore 2, .goto_w 2],
  [.iload 2, .aload 0, .getfield 449, .if_icmp .ge 4, .aload 0, .getfield 451, .iconst 5, .aaload, .iload 2, .iaload, .iload 1, .if_icmp .ne 3, .iconst 3, .ireturn],
  [.iinc 2 1, .goto 2],
  [.iconst 0, .ireturn]]
-- 75 State.dropCall (I)I
def zb_75 : List (List Instr) := [
  [.aload 0, .dup, .getfield 449, .iconst 1, .isub, .putfield 449, .iconst 0, .istore 2, .goto_w 1],
  [.iload 2, .iconst 5, .if_icmp .gt 2, .aload 0, .getfield 451, .iload 2, .aaload, .iload 1, .iconst 1, .iadd, .aload 0, .getfield 451, .iload 2, .aaload, .iload 1, .aload 0, .getfield 449, .iload 1, .isub, .pop2, .iinc 2 1, .goto 1],
  [.iconst 0, .istore 2, .goto_w 3],
  [.iload 2, .aload 0, .getfield 449, .if_icmp .ge 5, .aload 0, .getfield 451, .iconst 5, .aaload, .iload 2, .iaload, .iload 1, .if_icmp .le 4, .aload 0, .getfield 451, .iconst 5, .aaload, .iload 2, .dup2, .iaload, .iconst 1, .isub, .iastore, .goto_w 4],
  [.iinc 2 1, .goto 3],
  [.aload 0, .getfield 449, .ireturn]]
-- 76 State.whyNotChange (III)I
def zb_76 : List (List Instr) := [
  [.aload 0, .iload 2, .invokeinterface 67 2, .ifCond .eq 1, .iconst 1, .ireturn],
  [.iload 1, .ifCond .lt 2, .iload 1, .iconst 5, .if_icmp .le 3, .goto_w 2],
  [.iconst 2, .ireturn],
  [.iload 3, .getstatic 0, .iload 1, .iaload, .getstatic 1, .iload 1, .iaload, .invokeinterface 157 3, .ireturn]]
-- 77 State.change (III)I
def zb_77 : List (List Instr) := [
  [.aload 0, .getfield 450, .iload 1, .aaload, .iload 2, .iaload, .istore 4, .aload 0, .getfield 450, .iload 1, .aaload, .iload 2, .iload 3, .iastore, .iload 4, .ireturn]]
-- 78 State.whyNotChangeLimit (II)I
def zb_78 : List (List Instr) := [
  [.aload 0, .iload 1, .invokeinterface 68 2, .ifCond .eq 1, .iconst 1, .goto 2],
  [.iload 2, .iconst 1, .iconst 500, .invokeinterface 157 3, .goto_w 2],
  [.ireturn]]
-- 79 State.changeLimit (II)I
def zb_79 : List (List Instr) := [
  [.aload 0, .getfield 451, .iconst 2, .aaload, .iload 1, .iaload, .istore 3, .aload 0, .getfield 451, .iconst 2, .aaload, .iload 1, .iload 2, .iastore, .iload 3, .ireturn]]
-- 80 State.tellOfService (II)I
def zb_80 : List (List Instr) := [
  [.iload 2, .iconst 8, .if_icmp .gt 1, .aload 0, .getfield 450, .iload 2, .aaload, .iload 1, .iaload, .ireturn],
  [.iload 2, .iconst 9, .if_icmp .ne 2, .aload 0, .iload 1, .invokeinterface 81 2, .goto 3],
  [.aload 0, .iload 1, .invokeinterface 82 2, .goto_w 3],
  [.ireturn]]
-- 81 State.ownTimeOf (I)I
def zb_81 : List (List Instr) := [
  [.aload 0, .getfield 450, .iconst 0, .aaload, .iload 1, .iaload, .aload 0, .getfield 450, .iconst 1, .aaload, .iload 1, .iaload, .imul, .iconst 99, .iadd, .iconst 100, .idiv, .ireturn]]
-- 82 State.countCallsOf (I)I
def zb_82 : List (List Instr) := [
  [.iconst 0, .istore 2, .iconst 0, .istore 3, .goto_w 1],
  [.iload 3, .aload 0, .getfield 449, .if_icmp .ge 3, .aload 0, .getfield 451, .iconst 0, .aaload, .iload 3, .iaload, .iload 1, .if_icmp .ne 2, .iinc 2 1, .goto_w 2],
  [.iinc 3 1, .goto 1],
  [.iload 2, .ireturn]]
-- 83 State.lastHeadOf (I)I
def zb_83 : List (List Instr) := [
  [.aload 0, .getfield 449, .iconst 1, .isub, .istore 2, .goto_w 1],
  [.iload 2, .ifCond .lt 3, .aload 0, .iload 2, .iload 1, .invokeinterface 84 3, .ifCond .eq 2, .iload 2, .ireturn],
  [.iinc 2 (-1), .goto 1],
  [.iconst (-1), .ireturn]]
-- 84 State.isHeadOf (II)Z
def zb_84 : List (List Instr) := [
  [.aload 0, .getfield 451, .iconst 0, .aaload, .iload 1, .iaload, .iload 2, .if_icmp .ne 1, .aload 0, .getfield 451, .iconst 4, .aaload, .iload 1, .iaload, .iconst 2, .if_icmp .eq 1, .iconst 1, .goto 2],
  [.iconst 0, .goto_w 2],
  [.ireturn]]
-- 85 State.isInGroup (II)Z
def zb_85 : List (List Instr) := [
  [.iload 1, .iload 2, .if_icmp .eq 1, .aload 0, .getfield 451, .iconst 5, .aaload, .iload 1, .iaload, .iload 2, .if_icmp .ne 2, .goto_w 1],
  [.iconst 1, .goto 3],
  [.iconst 0, .goto_w 3],
  [.ireturn]]
-- 86 State.isNeeded (I)Z
def zb_86 : List (List Instr) := [
  [.aload 0, .getfield 451, .iconst 4, .aaload, .iload 1, .iaload, .ifCond .ne 1, .iconst 1, .goto 2],
  [.iconst 0, .goto_w 2],
  [.ireturn]]
-- 87 State.needsOf (I)I
def zb_87 : List (List Instr) := [
  [.iconst 1, .iload 1, .ishl, .istore 2, .iconst 0, .istore 3, .iconst 0, .istore 4, .goto_w 1],
  [.iload 4, .aload 0, .getfield 448, .if_icmp .ge 3, .aload 0, .iload 2, .invokeinterface 88 2, .istore 5, .iload 5, .iload 3, .iconst (-1), .ixor, .iand, .ifCond .ne 2, .iload 3, .ireturn],
  [.iload 3, .iload 5, .ior, .istore 3, .iload 2, .iload 5, .ior, .istore 2, .iinc 4 1, .goto 1],
  [.iload 3, .ireturn]]
-- 88 State.calleesOf (I)I
def zb_88 : List (List Instr) := [
  [.iconst 0, .istore 2, .iconst 0, .istore 3, .goto_w 1],
  [.iload 3, .aload 0, .getfield 449, .if_icmp .ge 3, .iload 1, .aload 0, .getfield 451, .iconst 0, .aaload, .iload 3, .iaload, .invokeinterface 158 2, .ifCond .eq 2, .iload 2, .iconst 1, .aload 0, .getfield 451, .iconst 1, .aaload, .iload 3, .iaload, .ishl, .ior, .istore 2, .goto_w 2],
  [.iinc 3 1, .goto 1],
  [.iload 2, .ireturn]]
-- 89 State.lacksNeeded (II)Z
def zb_89 : List (List Instr) := [
  [.iconst 0, .istore 3, .goto_w 1],
  [.iload 3, .aload 0, .getfield 449, .if_icmp .ge 3, .aload 0, .iload 3, .iload 1, .invokeinterface 84 3, .ifCond .eq 2, .aload 0, .iload 3, .invokeinterface 86 2, .ifCond .eq 2, .aload 0, .iload 3, .iload 2, .invokeinterface 90 3, .ifCond .eq 2, .iconst 1, .ireturn],
  [.iinc 3 1, .goto 1],
  [.iconst 0, .ireturn]]
-- 90 State.isGroupWithin (II)Z
def zb_90 : List (List Instr) := [
  [.iload 1, .istore 3, .goto_w 1],
  [.iload 3, .aload 0, .getfield 449, .if_icmp .ge 3, .aload 0, .iload 3, .iload 1, .invokeinterface 85 3, .ifCond .eq 2, .iload 2, .aload 0, .getfield 451, .iconst 1, .aaload, .iload 3, .iaload, .invokeinterface 158 2, .ifCond .ne 2, .iconst 0, .ireturn],
  [.iinc 3 1, .goto 1],
  [.iconst 1, .ireturn]]
-- 91 State.isUp (I)Z
def zb_91 : List (List Instr) := [
  [.aload 0, .getfield 450, .iconst 6, .aaload, .iload 1, .iaload, .iconst 1, .if_icmp .ne 1, .iconst 1, .goto 2],
  [.iconst 0, .goto_w 2],
  [.ireturn]]
-- 92 State.downSet ()I
def zb_92 : List (List Instr) := [
  [.iconst 0, .istore 1, .iconst 0, .istore 2, .goto_w 1],
  [.iload 2, .aload 0, .getfield 448, .if_icmp .ge 3, .aload 0, .iload 2, .invokeinterface 91 2, .ifCond .ne 2, .iload 1, .iconst 1, .iload 2, .ishl, .ior, .istore 1, .goto_w 2],
  [.iinc 2 1, .goto 1],
  [.iload 1, .ireturn]]
-- 93 State.countUp ()I
def zb_93 : List (List Instr) := [
  [.aload 0, .getfield 448, .aload 0, .invokeinterface 92 1, .invokeinterface 302 1, .isub, .ireturn]]
-- 94 State.whyNotGoDown (I)I
def zb_94 : List (List Instr) := [
  [.aload 0, .iload 1, .invokeinterface 67 2, .ifCond .eq 1, .iconst 1, .ireturn],
  [.aload 0, .iload 1, .invokeinterface 91 2, .ifCond .eq 2, .iconst 0, .goto 3],
  [.iconst 3, .goto_w 3],
  [.ireturn]]
-- 95 State.goDown (I)V
def zb_95 : List (List Instr) := [
  [.aload 0, .getfield 450, .iconst 6, .aaload, .iload 1, .iconst 0, .iastore, .aload 0, .getfield 450, .iconst 7, .aaload, .iload 1, .iconst 0, .iastore, .aload 0, .getfield 450, .iconst 8, .aaload, .iload 1, .iconst (-1), .iastore, .return_]]
-- 96 State.whyNotBeginRepair (I)I
def zb_96 : List (List Instr) := [
  [.aload 0, .iload 1, .invokeinterface 67 2, .ifCond .eq 1, .iconst 1, .ireturn],
  [.aload 0, .iload 1, .invokeinterface 91 2, .ifCond .ne 2, .aload 0, .getfield 450, .iconst 8, .aaload, .iload 1, .iaload, .iconst (-1), .if_icmp .eq 3, .goto_w 2],
  [.iconst 3, .goto 4],
  [.iconst 0, .goto_w 4],
  [.ireturn]]
-- 97 State.beginRepair (I)I
def zb_97 : List (List Instr) := [
  [.aload 0, .getfield 450, .iconst 8, .aaload, .iload 1, .aload 0, .getfield 450, .iconst 3, .aaload, .iload 1, .iaload, .iastore, .aload 0, .getfield 450, .iconst 8, .aaload, .iload 1, .iaload, .ireturn]]
-- 98 State.makeSteps (I)V
def zb_98 : List (List Instr) := [
  [.iconst 0, .istore 2, .goto_w 1],
  [.iload 2, .iload 1, .if_icmp .ge 2, .aload 0, .invokeinterface 99 1, .pop, .iinc 2 1, .goto 1],
  [.return_]]
-- 99 State.makeStep ()I
def zb_99 : List (List Instr) := [
  [.aload 0, .invokeinterface 92 1, .istore 1, .iconst 0, .istore 2, .iconst 0, .istore 3, .goto_w 1],
  [.iload 3, .aload 0, .getfield 448, .if_icmp .ge 4, .aload 0, .iload 3, .iload 1, .invokeinterface 89 3, .istore 4, .iload 1, .iload 3, .invokeinterface 158 2, .ifCond .eq 2, .aload 0, .iload 3, .iload 4, .invokeinterface 100 3, .goto 3],
  [.aload 0, .iload 3, .iload 4, .invokeinterface 101 3, .aload 0, .getfield 450, .iconst 7, .aaload, .iload 3, .iaload, .aload 0, .getfield 450, .iconst 2, .aaload, .iload 3, .iaload, .if_icmp .lt 3, .aload 0, .iload 3, .invokeinterface 95 2, .iload 2, .iconst 1, .iload 3, .ishl, .ior, .istore 2, .goto_w 3],
  [.iinc 3 1, .goto 1],
  [.iload 2, .ireturn]]
-- 100 State.mend (IZ)V
def zb_100 : List (List Instr) := [
  [.aload 0, .getfield 450, .iconst 8, .aaload, .iload 1, .iaload, .istore 3, .iload 3, .iconst (-1), .if_icmp .ne 1, .return_],
  [.iload 3, .ifCond .le 2, .iinc 3 (-1), .goto_w 2],
  [.aload 0, .getfield 450, .iconst 8, .aaload, .iload 1, .iload 3, .iastore, .iload 3, .ifCond .ne 3, .iload 2, .ifCond .ne 3, .aload 0, .getfield 450, .iconst 6, .aaload, .iload 1, .iconst 1, .iastore, .aload 0, .getfield 450, .iconst 7, .aaload, .iload 1, .iconst 0, .iastore, .aload 0, .getfield 450, .iconst 8, .aaload, .iload 1, .iconst (-1), .iastore, .goto_w 3],
  [.return_]]
-- 101 State.changeStrain (IZ)V
def zb_101 : List (List Instr) := [
  [.iload 2, .ifCond .eq 1, .aload 0, .getfield 450, .iconst 7, .aaload, .iload 1, .dup2, .iaload, .iconst 1, .iadd, .iastore, .goto 2],
  [.aload 0, .getfield 450, .iconst 7, .aaload, .iload 1, .iaload, .ifCond .le 2, .aload 0, .getfield 450, .iconst 7, .aaload, .iload 1, .dup2, .iaload, .iconst 1, .isub, .iastore, .goto_w 2],
  [.return_]]
-- 102 Text.init ()V
def zb_102 : List (List Instr) := [
  [.aload 0, .monitorexit, .aload 0, .iconst 120, .newarray .int, .putfield 512, .aload 0, .iconst 0, .putfield 513, .aload 0, .iconst 40, .newarray .int, .putfield 514, .aload 0, .iconst 5, .iconst 40, .multianewarray 0 2, .putfield 515, .return_]]
-- 103 Text.whyFull ()I
def zb_103 : List (List Instr) := [
  [.aload 0, .getfield 513, .iconst 120, .if_icmp .lt 1, .iconst 3, .goto 2],
  [.iconst 0, .goto_w 2],
  [.ireturn]]
-- 104 Text.add (I)I
def zb_104 : List (List Instr) := [
  [.aload 0, .getfield 512, .aload 0, .getfield 513, .iload 1, .iastore, .aload 0, .dup, .getfield 513, .iconst 1, .iadd, .putfield 513, .aload 0, .getfield 513, .ireturn]]
-- 105 Text.empty ()I
def zb_105 : List (List Instr) := [
  [.aload 0, .getfield 513, .istore 1, .aload 0, .iconst 0, .putfield 513, .iload 1, .ireturn]]
-- 106 Text.parse ()I
def zb_106 : List (List Instr) := [
  [.iconst 0, .istore 1, .iconst 0, .istore 2, .goto_w 1],
  [.iload 2, .aload 0, .getfield 513, .if_icmp .ge 3, .iload 1, .iconst 40, .if_icmp .ge 3, .aload 0, .iload 2, .iload 1, .invokeinterface 109 3, .istore 2, .iload 2, .ifCond .ge 2, .iconst (-10), .iload 2, .invokeinterface 108 1, .isub, .ireturn],
  [.iinc 1 1, .goto 1],
  [.iload 1, .ireturn]]
-- 107 Text.errorAt (I)I
def zb_107 : List (List Instr) := [
  [.iconst (-1), .iload 0, .isub, .ireturn]]
-- 108 Text.placeOf (I)I
def zb_108 : List (List Instr) := [
  [.iconst (-1), .iload 0, .isub, .ireturn]]
-- 109 Text.parseCommand (II)I
def zb_109 : List (List Instr) := [
  [.aload 0, .getfield 512, .iload 1, .iaload, .invokeinterface 110 1, .istore 3, .iload 3, .ifCond .ne 1, .iload 1, .invokeinterface 107 1, .ireturn],
  [.aload 0, .getfield 514, .iload 2, .aload 0, .getfield 512, .iload 1, .iaload, .iastore, .iload 1, .iconst 1, .iadd, .istore 4, .iconst 0, .istore 5, .goto_w 2],
  [.iload 5, .iload 3, .if_icmp .ge 7, .aload 0, .iload 4, .invokeinterface 111 2, .istore 6, .iload 6, .iload 4, .if_icmp .eq 5, .iload 6, .aload 0, .getfield 513, .if_icmp .ge 5, .aload 0, .getfield 512, .iload 6, .iaload, .iload 5, .iconst 1, .iadd, .iload 3, .if_icmp .ge 3, .iconst 44, .goto 4],
  [.iconst 59, .goto_w 4],
  [.if_icmp .eq 6, .goto_w 5],
  [.iload 6, .invokeinterface 107 1, .ireturn],
  [.aload 0, .getfield 515, .iload 5, .aaload, .iload 2, .aload 0, .iload 4, .iload 6, .invokeinterface 112 3, .iastore, .iload 6, .iconst 1, .iadd, .istore 4, .iinc 5 1, .goto 2],
  [.iload 4, .ireturn]]
-- 110 Text.numbersOf (I)I
def zb_110 : List (List Instr) := [
  [.iload 0, .lookupswitch 4 #[(97, 1), (98, 4), (99, 3), (100, 1), (101, 4), (102, 4), (103, 4), (104, 4), (105, 4), (106, 4), (107, 4), (108, 4), (109, 4), (110, 4), (111, 4), (112, 2), (113, 4), (114, 1), (115, 1)]],
  [.iconst 1, .ireturn],
  [.iconst 3, .ireturn],
  [.iconst 5, .ireturn],
  [.iconst 0, .ireturn]]
-- 111 Text.endOfDigits (I)I
def zb_111 : List (List Instr) := [
  [.iload 1, .istore 2, .goto_w 1],
  [.iload 2, .aload 0, .getfield 513, .if_icmp .ge 2, .iload 2, .iload 1, .iconst 3, .iadd, .if_icmp .ge 2, .aload 0, .getfield 512, .iload 2, .iaload, .iconst 48, .if_icmp .lt 2, .aload 0, .getfield 512, .iload 2, .iaload, .iconst 57, .if_icmp .gt 2, .iinc 2 1, .goto 1],
  [.iload 2, .ireturn]]
-- 112 Text.valueOf (II)I
def zb_112 : List (List Instr) := [
  [.iconst 0, .istore 3, .iload 1, .istore 4, .goto_w 1],
  [.iload 4, .iload 2, .if_icmp .ge 2, .iconst 10, .iload 3, .imul, .aload 0, .getfield 512, .iload 4, .iaload, .iadd, .iconst 48, .isub, .istore 3, .iinc 4 1, .goto 1],
  [.iload 3, .ireturn]]
-- 113 Text.whyNotCommand (LServiceBudgets$State;I)I
def zb_113 : List (List Instr) := [
  [.aload 0, .getfield 515, .iconst 0, .aaload, .iload 2, .iaload, .istore 3, .aload 0, .getfield 515, .iconst 1, .aaload, .iload 2, .iaload, .istore 4, .aload 0, .getfield 515, .iconst 2, .aaload, .iload 2, .iaload, .istore 5, .aload 0, .getfield 514, .iload 2, .iaload, .lookupswitch 6 #[(97, 1), (99, 2), (100, 3), (114, 4), (115, 5)]],
  [.aload 1, .iload 3, .invokeinterface 70 2, .ireturn],
  [.aload 1, .iload 3, .iload 4, .iload 5, .aload 0, .getfield 515, .iconst 3, .aaload, .iload 2, .iaload, .aload 0, .getfield 515, .iconst 4, .aaload, .iload 2, .iaload, .invokeinterface 72 6, .ireturn],
  [.aload 1, .iload 3, .invokeinterface 94 2, .ireturn],
  [.aload 1, .iload 3, .invokeinterface 96 2, .ireturn],
  [.iload 3, .iconst 1, .iconst 50, .invokeinterface 157 3, .ireturn],
  [.aload 1, .iload 3, .iload 4, .iload 5, .invokeinterface 76 4, .ireturn]]
-- 114 Text.carryOut (LServiceBudgets$State;I)V
def zb_114 : List (List Instr) := [
  [.aload 0, .getfield 515, .iconst 0, .aaload, .iload 2, .iaload, .istore 3, .aload 0, .getfield 515, .iconst 1, .aaload, .iload 2, .iaload, .istore 4, .aload 0, .getfield 515, .iconst 2, .aaload, .iload 2, .iaload, .istore 5, .aload 0, .getfield 514, .iload 2, .iaload, .lookupswitch 6 #[(97, 1), (99, 2), (100, 3), (114, 4), (115, 5)]],
  [.aload 1, .iload 3, .invokeinterface 71 2, .pop, .goto 7],
  [.aload 1, .iload 3, .iload 4, .iload 5, .aload 0, .getfield 515, .iconst 3, .aaload, .iload 2, .iaload, .aload 0, .getfield 515, .iconst 4, .aaload, .iload 2, .iaload, .invokeinterface 73 6, .pop, .goto 7],
  [.aload 1, .iload 3, .invokeinterface 95 2, .goto 7],
  [.aload 1, .iload 3, .invokeinterface 97 2, .pop, .goto 7],
  [.aload 1, .iload 3, .invokeinterface 98 2, .goto 7],
  [.aload 1, .iload 3, .iload 4, .iload 5, .invokeinterface 77 4, .pop, .goto_w 7],
  [.return_]]
-- 115 SB.init ()V
def zb_115 : List (List Instr) := [
  [.aload 0, .monitorexit, .aload 0, .new 7, .dup, .invokeinterface 65 1, .putfield 576, .aload 0, .new 7, .dup, .invokeinterface 65 1, .putfield 577, .aload 0, .new 3, .dup, .invokeinterface 31 1, .putfield 578, .aload 0, .new 2, .dup, .invokeinterface 17 1, .putfield 579, .aload 0, .new 5, .dup, .invokeinterface 46 1, .putfield 580, .aload 0, .new 0, .dup, .invokeinterface 0 1, .putfield 581, .aload 0, .new 4, .dup, .invokeinterface 36 1, .putfield 582, .aload 0, .new 1, .dup, .invokeinterface 6 1, .putfield 583, .aload 0, .new 8, .dup, .invokeinterface 102 1, .putfield 584, .return_]]
-- 116 SB.addService (I)I
def zb_116 : List (List Instr) := [
  [.aload 0, .getfield 576, .iload 1, .invokeinterface 70 2, .invokeinterface 156 1, .aload 0, .getfield 578, .aload 0, .getfield 576, .invokeinterface 32 2, .aload 0, .getfield 576, .iload 1, .invokeinterface 71 2, .ireturn]]
-- 117 SB.addCall (IIIII)I
def zb_117 : List (List Instr) := [
  [.aload 0, .getfield 576, .iload 1, .iload 2, .iload 3, .iload 4, .iload 5, .invokeinterface 72 6, .invokeinterface 156 1, .aload 0, .getfield 578, .aload 0, .getfield 576, .invokeinterface 32 2, .aload 0, .getfield 576, .iload 1, .iload 2, .iload 3, .iload 4, .iload 5, .invokeinterface 73 6, .ireturn]]
-- 118 SB.removeCall (I)I
def zb_118 : List (List Instr) := [
  [.aload 0, .getfield 576, .iload 1, .invokeinterface 74 2, .invokeinterface 156 1, .aload 0, .getfield 578, .aload 0, .getfield 576, .invokeinterface 32 2, .aload 0, .getfield 576, .iload 1, .invokeinterface 75 2, .ireturn]]
-- 119 SB.set (III)I
def zb_119 : List (List Instr) := [
  [.aload 0, .getfield 576, .iload 1, .iload 2, .iload 3, .invokeinterface 76 4, .invokeinterface 156 1, .aload 0, .getfield 578, .aload 0, .getfield 576, .invokeinterface 32 2, .aload 0, .getfield 576, .iload 1, .iload 2, .iload 3, .invokeinterface 77 4, .ireturn]]
-- 120 SB.setLimit (II)I
def zb_120 : List (List Instr) := [
  [.aload 0, .getfield 576, .iload 1, .iload 2, .invokeinterface 78 3, .invokeinterface 156 1, .aload 0, .getfield 578, .aload 0, .getfield 576, .invokeinterface 32 2, .aload 0, .getfield 576, .iload 1, .iload 2, .invokeinterface 79 3, .ireturn]]
-- 121 SB.services ()I
def zb_121 : List (List Instr) := [
  [.aload 0, .getfield 576, .getfield 448, .ireturn]]
-- 122 SB.calls ()I
def zb_122 : List (List Instr) := [
  [.aload 0, .getfield 576, .getfield 449, .ireturn]]
-- 123 SB.service (II)I
def zb_123 : List (List Instr) := [
  [.aload 0, .getfield 576, .iload 1, .invokeinterface 67 2, .invokeinterface 156 1, .iload 2, .iconst 0, .iconst 10, .invokeinterface 157 3, .invokeinterface 156 1, .aload 0, .getfield 576, .iload 1, .iload 2, .invokeinterface 80 3, .ireturn]]
-- 124 SB.call (II)I
def zb_124 : List (List Instr) := [
  [.aload 0, .getfield 576, .iload 1, .invokeinterface 68 2, .invokeinterface 156 1, .iload 2, .iconst 0, .iconst 5, .invokeinterface 157 3, .invokeinterface 156 1, .aload 0, .getfield 576, .getfield 451, .iload 2, .aaload, .iload 1, .iaload, .ireturn]]
-- 125 SB.depends (II)Z
def zb_125 : List (List Instr) := [
  [.aload 0, .getfield 576, .iload 1, .invokeinterface 67 2, .invokeinterface 156 1, .aload 0, .getfield 576, .iload 2, .invokeinterface 67 2, .invokeinterface 156 1, .aload 0, .getfield 576, .iload 1, .invokeinterface 87 2, .iload 2, .invokeinterface 158 2, .ireturn]]
-- 126 SB.order (I)I
def zb_126 : List (List Instr) := [
  [.aload 0, .getfield 579, .aload 0, .getfield 576, .invokeinterface 18 2, .aload 0, .getfield 579, .iload 1, .invokeinterface 21 2, .ireturn]]
-- 127 SB.level (I)I
def zb_127 : List (List Instr) := [
  [.aload 0, .getfield 576, .iload 1, .invokeinterface 67 2, .invokeinterface 156 1, .aload 0, .getfield 579, .aload 0, .getfield 576, .invokeinterface 23 2, .aload 0, .getfield 579, .getfield 131, .iload 1, .iaload, .ireturn]]
-- 128 SB.request (II)Z
def zb_128 : List (List Instr) := [
  [.aload 0, .getfield 576, .iload 1, .invokeinterface 67 2, .invokeinterface 156 1, .iload 2, .iconst 0, .iconst 1000, .invokeinterface 157 3, .invokeinterface 156 1, .aload 0, .getfield 580, .aload 0, .getfield 576, .iload 1, .iload 2, .invokeinterface 47 4, .ireturn]]
-- 129 SB.result (I)I
def zb_129 : List (List Instr) := [
  [.iload 1, .iconst 0, .iconst 5, .invokeinterface 157 3, .invokeinterface 156 1, .aload 0, .getfield 580, .invokeinterface 52 1, .invokeinterface 156 1, .aload 0, .getfield 580, .iload 1, .invokeinterface 53 2, .ireturn]]
-- 130 SB.failure (II)I
def zb_130 : List (List Instr) := [
  [.iload 2, .iconst 0, .iconst 3, .invokeinterface 157 3, .invokeinterface 156 1, .aload 0, .getfield 580, .iload 1, .iload 2, .invokeinterface 55 3, .ireturn]]
-- 131 SB.attempt (II)I
def zb_131 : List (List Instr) := [
  [.iload 2, .iconst 0, .iconst 3, .invokeinterface 157 3, .invokeinterface 156 1, .aload 0, .getfield 580, .iload 1, .iload 2, .invokeinterface 56 3, .ireturn]]
-- 132 SB.leastBudget (I)I
def zb_132 : List (List Instr) := [
  [.aload 0, .getfield 576, .iload 1, .invokeinterface 67 2, .invokeinterface 156 1, .aload 0, .getfield 581, .aload 0, .getfield 576, .iload 1, .invokeinterface 1 3, .ireturn]]
-- 133 SB.worst (I)I
def zb_133 : List (List Instr) := [
  [.aload 0, .getfield 576, .iload 1, .invokeinterface 67 2, .invokeinterface 156 1, .aload 0, .getfield 579, .aload 0, .getfield 576, .invokeinterface 25 2, .aload 0, .getfield 579, .getfield 132, .iload 1, .iaload, .ireturn]]
-- 134 SB.unsound ()I
def zb_134 : List (List Instr) := [
  [.aload 0, .getfield 579, .aload 0, .getfield 576, .invokeinterface 25 2, .aload 0, .getfield 579, .aload 0, .getfield 576, .invokeinterface 27 2, .ireturn]]
-- 135 SB.tighten ()I
def zb_135 : List (List Instr) := [
  [.aload 0, .getfield 578, .aload 0, .getfield 576, .invokeinterface 32 2, .aload 0, .getfield 579, .aload 0, .getfield 576, .invokeinterface 28 2, .ireturn]]
-- 136 SB.fail (I)I
def zb_136 : List (List Instr) := [
  [.aload 0, .getfield 576, .iload 1, .invokeinterface 94 2, .invokeinterface 156 1, .aload 0, .getfield 578, .aload 0, .getfield 576, .invokeinterface 32 2, .aload 0, .getfield 576, .iload 1, .invokeinterface 95 2, .aload 0, .getfield 576, .invokeinterface 93 1, .ireturn]]
-- 137 SB.repair (I)I
def zb_137 : List (List Instr) := [
  [.aload 0, .getfield 576, .iload 1, .invokeinterface 96 2, .invokeinterface 156 1, .aload 0, .getfield 578, .aload 0, .getfield 576, .invokeinterface 32 2, .aload 0, .getfield 576, .iload 1, .invokeinterface 97 2, .ireturn]]
-- 138 SB.steps (I)I
def zb_138 : List (List Instr) := [
  [.iload 1, .iconst 1, .iconst 50, .invokeinterface 157 3, .invokeinterface 156 1, .aload 0, .getfield 578, .aload 0, .getfield 576, .invokeinterface 32 2, .aload 0, .getfield 576, .iload 1, .invokeinterface 98 2, .aload 0, .getfield 576, .invokeinterface 93 1, .ireturn]]
-- 139 SB.down ()I
def zb_139 : List (List Instr) := [
  [.aload 0, .getfield 576, .invokeinterface 92 1, .ireturn]]
-- 140 SB.spread (I)I
def zb_140 : List (List Instr) := [
  [.aload 0, .getfield 576, .iload 1, .invokeinterface 94 2, .invokeinterface 156 1, .aload 0, .getfield 577, .aload 0, .getfield 576, .invokeinterface 66 2, .aload 0, .getfield 577, .iload 1, .invokeinterface 95 2, .aload 0, .getfield 577, .iconst 40, .invokeinterface 98 2, .aload 0, .getfield 577, .invokeinterface 92 1, .ireturn]]
-- 141 SB.calm (I)I
def zb_141 : List (List Instr) := [
  [.aload 0, .getfield 576, .iload 1, .invokeinterface 94 2, .invokeinterface 156 1, .aload 0, .getfield 577, .aload 0, .getfield 576, .invokeinterface 66 2, .aload 0, .getfield 577, .iload 1, .invokeinterface 95 2, .iconst 1, .istore 2, .goto_w 1],
  [.iload 2, .iconst 40, .if_icmp .gt 3, .aload 0, .getfield 577, .invokeinterface 99 1, .ifCond .eq 2, .iload 2, .ireturn],
  [.iinc 2 1, .goto 1],
  [.iconst (-1), .ireturn]]
-- 142 SB.recoveryTime (I)I
def zb_142 : List (List Instr) := [
  [.iload 1, .iconst 1, .iconst 4, .invokeinterface 157 3, .invokeinterface 156 1, .aload 0, .getfield 582, .aload 0, .getfield 576, .iload 1, .invokeinterface 38 3, .ireturn]]
-- 143 SB.recoveryStart (II)I
def zb_143 : List (List Instr) := [
  [.iload 1, .iconst 1, .iconst 4, .invokeinterface 157 3, .invokeinterface 156 1, .aload 0, .getfield 576, .iload 2, .invokeinterface 67 2, .invokeinterface 156 1, .aload 0, .getfield 576, .iload 2, .invokeinterface 91 2, .ifCond .eq 1, .iconst (-1), .ireturn],
  [.aload 0, .getfield 582, .aload 0, .getfield 576, .iload 1, .invokeinterface 38 3, .pop, .aload 0, .getfield 582, .getfield 257, .iload 2, .iaload, .ireturn]]
-- 144 SB.bestCost ()I
def zb_144 : List (List Instr) := [
  [.aload 0, .getfield 582, .aload 0, .getfield 576, .invokeinterface 42 2, .ireturn]]
-- 145 SB.bestOrder (I)I
def zb_145 : List (List Instr) := [
  [.aload 0, .getfield 582, .aload 0, .getfield 576, .iload 1, .invokeinterface 45 3, .ireturn]]
-- 146 SB.failsBy (II)Z
def zb_146 : List (List Instr) := [
  [.aload 0, .getfield 576, .iload 1, .invokeinterface 67 2, .invokeinterface 156 1, .aload 0, .getfield 576, .iload 2, .invokeinterface 69 2, .invokeinterface 156 1, .aload 0, .getfield 579, .aload 0, .getfield 576, .invokeinterface 18 2, .aload 0, .getfield 579, .aload 0, .getfield 576, .iload 2, .invokeinterface 30 3, .iload 1, .invokeinterface 158 2, .ireturn]]
-- 147 SB.cuts (II)I
def zb_147 : List (List Instr) := [
  [.aload 0, .getfield 576, .iload 1, .invokeinterface 67 2, .invokeinterface 156 1, .iload 2, .iconst 1, .iconst 12, .invokeinterface 157 3, .invokeinterface 156 1, .aload 0, .getfield 579, .aload 0, .getfield 576, .invokeinterface 18 2, .aload 0, .getfield 583, .aload 0, .getfield 576, .aload 0, .getfield 579, .invokeinterface 7 3, .aload 0, .getfield 583, .aload 0, .getfield 576, .iload 1, .iload 2, .invokeinterface 12 4, .ireturn]]
-- 148 SB.cut (III)I
def zb_148 : List (List Instr) := [
  [.aload 0, .getfield 576, .iload 1, .invokeinterface 67 2, .invokeinterface 156 1, .iload 2, .iconst 1, .iconst 12, .invokeinterface 157 3, .invokeinterface 156 1, .aload 0, .getfield 579, .aload 0, .getfield 576, .invokeinterface 18 2, .aload 0, .getfield 583, .aload 0, .getfield 576, .aload 0, .getfield 579, .invokeinterface 7 3, .aload 0, .getfield 583, .aload 0, .getfield 576, .iload 1, .iload 2, .iload 3, .invokeinterface 13 5, .ireturn]]
-- 149 SB.availability (I)I
def zb_149 : List (List Instr) := [
  [.aload 0, .getfield 576, .iload 1, .invokeinterface 67 2, .invokeinterface 156 1, .aload 0, .getfield 579, .aload 0, .getfield 576, .invokeinterface 18 2, .aload 0, .getfield 583, .aload 0, .getfield 576, .aload 0, .getfield 579, .invokeinterface 7 3, .aload 0, .getfield 583, .aload 0, .getfield 576, .iload 1, .iconst (-1), .invokeinterface 14 4, .d2f, .invokeinterface 159 1, .ireturn]]
-- 150 SB.weakest (I)I
def zb_150 : List (List Instr) := [
  [.aload 0, .getfield 576, .iload 1, .invokeinterface 67 2, .invokeinterface 156 1, .aload 0, .getfield 579, .aload 0, .getfield 576, .invokeinterface 18 2, .aload 0, .getfield 583, .aload 0, .getfield 576, .aload 0, .getfield 579, .invokeinterface 7 3, .aload 0, .getfield 583, .aload 0, .getfield 576, .iload 1, .invokeinterface 16 3, .ireturn]]
-- 151 SB.append (I)I
def zb_151 : List (List Instr) := [
  [.iload 1, .iconst 0, .iconst 127, .invokeinterface 157 3, .invokeinterface 156 1, .aload 0, .getfield 584, .invokeinterface 103 1, .invokeinterface 156 1, .aload 0, .getfield 584, .iload 1, .invokeinterface 104 2, .ireturn]]
-- 152 SB.clearText ()I
def zb_152 : List (List Instr) := [
  [.aload 0, .getfield 584, .invokeinterface 105 1, .ireturn]]
-- 153 SB.execute ()I
def zb_153 : List (List Instr) := [
  [.aload 0, .getfield 584, .invokeinterface 106 1, .istore 1, .iload 1, .ifCond .ge 1, .iload 1, .ireturn],
  [.aload 0, .getfield 577, .aload 0, .getfield 576, .invokeinterface 66 2, .iconst 0, .istore 2, .goto_w 2],
  [.iload 2, .iload 1, .if_icmp .ge 4, .aload 0, .getfield 584, .aload 0, .getfield 576, .iload 2, .invokeinterface 113 3, .ifCond .eq 3, .aload 0, .getfield 576, .aload 0, .getfield 577, .invokeinterface 66 2, .iconst (-1000), .iload 2, .isub, .ireturn],
  [.aload 0, .getfield 584, .aload 0, .getfield 576, .iload 2, .invokeinterface 114 3, .iinc 2 1, .goto 2],
  [.aload 0, .getfield 578, .aload 0, .getfield 577, .invokeinterface 32 2, .iload 1, .ireturn]]
-- 154 SB.undo ()I
def zb_154 : List (List Instr) := [
  [.aload 0, .getfield 578, .invokeinterface 34 1, .invokeinterface 156 1, .aload 0, .getfield 578, .aload 0, .getfield 576, .invokeinterface 35 2, .ireturn]]
-- 155 SB.digest ()J
def zb_155 : List (List Instr) := [
  [.aload 0, .getfield 579, .aload 0, .getfield 576, .invokeinterface 25 2, .jsr_w 57381, .aload 0, .getfield 576, .getfield 448, .i2l, .ladd, .lstore 1, .iconst 0, .istore 3, .goto_w 1],
  [.iload 3, .aload 0, .getfield 576, .getfield 448, .if_icmp .ge 4, .iconst 0, .istore 4, .goto_w 2],
  [.iload 4, .iconst 10, .if_icmp .gt 3, .jsr_w 31, .lload 1, .lmul, .aload 0, .getfield 576, .iload 3, .iload 4, .invokeinterface 80 3, .i2l, .ladd, .lstore 1, .iinc 4 1, .goto 2],
  [.jsr_w 31, .lload 1, .lmul, .aload 0, .getfield 579, .getfield 132, .iload 3, .iaload, .i2l, .ladd, .lstore 1, .iinc 3 1, .goto 1],
  [.jsr_w 31, .lload 1, .lmul, .aload 0, .getfield 576, .getfield 449, .i2l, .ladd, .lstore 1, .iconst 0, .istore 3, .goto_w 5],
  [.iload 3, .aload 0, .getfield 576, .getfield 449, .if_icmp .ge 8, .iconst 0, .istore 4, .goto_w 6],
  [.iload 4, .iconst 5, .if_icmp .gt 7, .jsr_w 31, .lload 1, .lmul, .aload 0, .getfield 576, .getfield 451, .iload 4, .aaload, .iload 3, .iaload, .i2l, .ladd, .lstore 1, .iinc 4 1, .goto 6],
  [.iinc 3 1, .goto 5],
  [.jsr_w 31, .lload 1, .lmul, .aload 0, .getfield 579, .aload 0, .getfield 576, .invokeinterface 27 2, .i2l, .ladd, .lstore 1, .jsr_w 31, .lload 1, .lmul, .aload 0, .getfield 576, .invokeinterface 92 1, .i2l, .ladd, .lstore 1, .jsr_w 31, .lload 1, .lmul, .aload 0, .getfield 582, .aload 0, .getfield 576, .iconst 2, .invokeinterface 38 3, .i2l, .ladd, .lstore 1, .jsr_w 31, .lload 1, .lmul, .aload 0, .getfield 582, .aload 0, .getfield 576, .invokeinterface 42 2, .i2l, .ladd, .lstore 1, .jsr_w 31, .lload 1, .lmul, .aload 0, .getfield 584, .getfield 513, .i2l, .ladd, .lstore 1, .jsr_w 31, .lload 1, .lmul, .aload 0, .getfield 578, .getfield 193, .i2l, .ladd, .lreturn]]
-- 156 SB.refuse (I)V
def zb_156 : List (List Instr) := []
-- 157 SB.whyNotWithin (III)I
def zb_157 : List (List Instr) := [
  [.iload 0, .iload 1, .if_icmp .lt 1, .iload 0, .iload 2, .if_icmp .le 2, .goto_w 1],
  [.iconst 2, .goto 3],
  [.iconst 0, .goto_w 3],
  [.ireturn]]
-- 158 SB.contains (II)Z
def zb_158 : List (List Instr) := [
  [.iload 0, .iload 1, .ishr, .iconst 1, .iand, .ifCond .eq 1, .iconst 1, .goto 2],
  [.iconst 0, .goto_w 2],
  [.ireturn]]
-- 159 SB.bitsOf (F)I
def zb_159 : List (List Instr) := [
  [.fload 0, .f2d, .dstore 1, .dload 1, .jsr 0, .dcmp .g, .ifCond .gt 1, .iconst 0, .ireturn],
  [.iconst 127, .istore 3, .goto_w 2],
  [.dload 1, .jsr 4607182418800017408, .dcmp .g, .ifCond .ge 3, .iload 3, .iconst 1, .if_icmp .le 3, .dload 1, .jsr 4611686018427387904, .dmul, .dstore 1, .iinc 3 (-1), .goto 2],
  [.dload 1, .jsr 4607182418800017408, .dcmp .g, .ifCond .ge 4, .dload 1, .jsr 4710765210229538816, .dmul, .d2i, .ireturn],
  [.iload 3, .iconst 23, .ishl, .dload 1, .jsr 4607182418800017408, .dsub, .jsr 4710765210229538816, .dmul, .d2i, .iadd, .ireturn]]
-- 160 M.init ()V
def zb_160 : List (List Instr) := [
  [.aload 0, .monitorexit, .aload 0, .iconst 230, .newarray .int, .putfield 640, .aload 0, .iconst 920, .newarray .int, .putfield 641, .aload 0, .iconst 230, .newarray .int, .putfield 642, .aload 0, .iconst 120, .newarray .int, .putfield 644, .aload 0, .iconst 12, .newarray .int, .putfield 647, .aload 0, .iconst 12, .newarray .int, .putfield 648, .aload 0, .iconst 12, .newarray .int, .putfield 650, .aload 0, .iconst 13, .newarray .int, .putfield 651, .aload 0, .iconst 13, .newarray .int, .putfield 652, .aload 0, .iconst 13, .newarray .int, .putfield 653, .aload 0, .iconst 13, .newarray .int, .putfield 654, .aload 0, .iconst 13, .newarray .int, .putfield 655, .aload 0, .iconst 13, .newarray .int, .putfield 656, .aload 0, .iconst 13, .newarray .int, .putfield 657, .aload 0, .iconst 13, .newarray .boolean, .putfield 658, .aload 0, .iconst 13, .newarray .int, .putfield 659, .aload 0, .iconst 240, .newarray .int, .putfield 668, .aload 0, .iconst 800, .newarray .int, .putfield 669, .aload 0, .iconst 6, .newarray .int, .putfield 670, .aload 0, .iconst 240, .newarray .int, .putfield 671, .aload 0, .iconst 800, .newarray .int, .putfield 672, .aload 0, .iconst 12, .newarray .int, .putfield 675, .aload 0, .iconst 12, .newarray .int, .putfield 677, .aload 0, .iconst 4096, .newarray .int, .putfield 678, .aload 0, .iconst 4096, .newarray .boolean, .putfield 679, .aload 0, .iconst 5, .newarray .int, .putfield 682, .aload 0, .getfield 640, .iconst 0, .iconst 0, .iastore, .return_]]
-- 161 M.thrown ()I
def zb_161 : List (List Instr) := [
  [.aload 0, .getfield 646, .ireturn]]
-- 162 M.in (III)Z
def zb_162 : List (List Instr) := [
  [.iload 0, .iload 1, .if_icmp .lt 1, .iload 0, .iload 2, .if_icmp .gt 1, .iconst 1, .goto 2],
  [.iconst 0, .goto_w 2],
  [.ireturn]]
-- 163 M.fails (I)I
def zb_163 : List (List Instr) := [
  [.aload 0, .iload 1, .putfield 646, .iconst 0, .ireturn]]
-- 164 M.tells (I)I
def zb_164 : List (List Instr) := [
  [.aload 0, .iconst 0, .putfield 646, .iload 1, .ireturn]]
-- 165 M.hold ()V
def zb_165 : List (List Instr) := [
  [.iconst 0, .istore 1, .goto_w 1],
  [.iload 1, .iconst 230, .if_icmp .ge 2, .aload 0, .getfield 642, .iload 1, .aload 0, .getfield 640, .iload 1, .iaload, .iastore, .iinc 1 1, .goto 1],
  [.return_]]
-- 166 M.restore ()V
def zb_166 : List (List Instr) := [
  [.iconst 0, .istore 1, .goto_w 1],
  [.iload 1, .iconst 230, .if_icmp .ge 2, .aload 0, .getfield 640, .iload 1, .aload 0, .getfield 642, .iload 1, .iaload, .iastore, .iinc 1 1, .goto 1],
  [.return_]]
-- 167 M.ends (I)I
def zb_167 : List (List Instr) := [
  [.aload 0, .getfield 643, .iconst 4, .if_icmp .ne 3, .iconst 0, .istore 2, .goto_w 1],
  [.iload 2, .iconst 690, .if_icmp .ge 2, .aload 0, .getfield 641, .iload 2, .aload 0, .getfield 641, .iload 2, .iconst 230, .iadd, .iaload, .iastore, .iinc 2 1, .goto 1],
  [.aload 0, .dup, .getfield 643, .iconst 1, .isub, .putfield 643, .goto_w 3],
  [.iconst 0, .istore 2, .goto_w 4],
  [.iload 2, .iconst 230, .if_icmp .ge 5, .aload 0, .getfield 641, .iconst 230, .aload 0, .getfield 643, .imul, .iload 2, .iadd, .aload 0, .getfield 642, .iload 2, .iaload, .iastore, .iinc 2 1, .goto 4],
  [.aload 0, .dup, .getfield 643, .iconst 1, .iadd, .putfield 643, .aload 0, .iload 1, .invokeinterface 164 2, .ireturn]]
-- 168 M.of (II)I
def zb_168 : List (List Instr) := [
  [.aload 0, .getfield 640, .iconst 2, .iconst 9, .iload 1, .imul, .iadd, .iload 2, .iadd, .iaload, .ireturn]]
-- 169 M.puts (III)V
def zb_169 : List (List Instr) := [
  [.aload 0, .getfield 640, .iconst 2, .iconst 9, .iload 1, .imul, .iadd, .iload 2, .iadd, .iload 3, .iastore, .return_]]
-- 170 M.callOf (II)I
def zb_170 : List (List Instr) := [
  [.aload 0, .getfield 640, .iconst 110, .iconst 5, .iload 1, .imul, .iadd, .iload 2, .iadd, .iaload, .ireturn]]
-- 171 M.caller (I)I
def zb_171 : List (List Instr) := [
  [.aload 0, .iload 1, .iconst 0, .invokeinterface 170 3, .ireturn]]
-- 172 M.callee (I)I
def zb_172 : List (List Instr) := [
  [.aload 0, .iload 1, .iconst 1, .invokeinterface 170 3, .ireturn]]
-- 173 M.isReplacement (I)Z
def zb_173 : List (List Instr) := [
  [.aload 0, .iload 1, .iconst 4, .invokeinterface 170 3, .iconst 2, .if_icmp .ne 1, .iconst 1, .goto 2],
  [.iconst 0, .goto_w 2],
  [.ireturn]]
-- 174 M.isService (I)Z
def zb_174 : List (List Instr) := [
  [.iload 1, .iconst 0, .aload 0, .getfield 640, .iconst 0, .iaload, .iconst 1, .isub, .invokeinterface 162 3, .ireturn]]
-- 175 M.isCall (I)Z
def zb_175 : List (List Instr) := [
  [.iload 1, .iconst 0, .aload 0, .getfield 640, .iconst 1, .iaload, .iconst 1, .isub, .invokeinterface 162 3, .ireturn]]
-- 176 M.isUp (I)Z
def zb_176 : List (List Instr) := [
  [.aload 0, .iload 1, .iconst 6, .invokeinterface 168 3, .iconst 1, .if_icmp .ne 1, .iconst 1, .goto 2],
  [.iconst 0, .goto_w 2],
  [.ireturn]]
-- 177 M.own (I)I
def zb_177 : List (List Instr) := [
  [.aload 0, .iload 1, .iconst 0, .invokeinterface 168 3, .aload 0, .iload 1, .iconst 1, .invokeinterface 168 3, .imul, .iconst 99, .iadd, .iconst 100, .idiv, .ireturn]]
-- 178 M.nextCall (II)I
def zb_178 : List (List Instr) := [
  [.iload 2, .iconst 1, .iadd, .istore 3, .goto_w 1],
  [.iload 3, .aload 0, .getfield 640, .iconst 1, .iaload, .if_icmp .ge 2, .aload 0, .iload 3, .invokeinterface 171 2, .iload 1, .if_icmp .eq 2, .iinc 3 1, .goto 1],
  [.iload 3, .ireturn]]
-- 179 M.callsOf (I)I
def zb_179 : List (List Instr) := [
  [.iconst 0, .istore 2, .iconst 0, .istore 3, .goto_w 1],
  [.iload 3, .aload 0, .getfield 640, .iconst 1, .iaload, .if_icmp .ge 4, .iload 2, .aload 0, .iload 3, .invokeinterface 171 2, .iload 1, .if_icmp .ne 2, .iconst 1, .goto 3],
  [.iconst 0, .goto_w 3],
  [.iadd, .istore 2, .iinc 3 1, .goto 1],
  [.iload 2, .ireturn]]
-- 180 M.laysNeeds ()V
def zb_180 : List (List Instr) := [
  [.iconst 0, .istore 1, .goto_w 1],
  [.iload 1, .iconst 12, .if_icmp .ge 2, .aload 0, .getfield 647, .iload 1, .iconst 0, .iastore, .iinc 1 1, .goto 1],
  [.iconst 1, .istore 1, .goto_w 3],
  [.iload 1, .ifCond .eq 9, .iconst 0, .istore 1, .iconst 0, .istore 2, .goto_w 4],
  [.iload 2, .aload 0, .getfield 640, .iconst 1, .iaload, .if_icmp .ge 8, .aload 0, .getfield 647, .aload 0, .iload 2, .invokeinterface 171 2, .iaload, .iconst 1, .aload 0, .iload 2, .invokeinterface 172 2, .ishl, .ior, .aload 0, .getfield 647, .aload 0, .iload 2, .invokeinterface 172 2, .iaload, .ior, .istore 3, .iload 1, .ifCond .ne 5, .iload 3, .aload 0, .getfield 647, .aload 0, .iload 2, .invokeinterface 171 2, .iaload, .if_icmp .eq 6, .goto_w 5],
  [.iconst 1, .goto 7],
  [.iconst 0, .goto_w 7],
  [.istore 1, .aload 0, .getfield 647, .aload 0, .iload 2, .invokeinterface 171 2, .iload 3, .iastore, .iinc 2 1, .goto 4],
  [.goto 3],
  [.return_]]
-- 181 M.laysOrder ()V
def zb_181 : List (List Instr) := [
  [.aload 0, .invokeinterface 180 1, .iconst 0, .istore 1, .iconst 0, .istore 2, .goto_w 1],
  [.iload 2, .aload 0, .getfield 640, .iconst 0, .iaload, .if_icmp .ge 5, .iconst 0, .istore 3, .goto_w 2],
  [.iload 1, .iload 3, .ishr, .iconst 1, .iand, .iconst 1, .if_icmp .eq 3, .aload 0, .getfield 647, .iload 3, .iaload, .iload 1, .iconst (-1), .ixor, .iand, .ifCond .eq 4, .goto_w 3],
  [.iinc 3 1, .goto 2],
  [.aload 0, .getfield 648, .iload 2, .iload 3, .iastore, .iload 1, .iconst 1, .iload 3, .ishl, .ior, .istore 1, .iinc 2 1, .goto 1],
  [.return_]]
-- 182 M.dependsOn (II)Z
def zb_182 : List (List Instr) := [
  [.aload 0, .invokeinterface 180 1, .aload 0, .getfield 647, .iload 1, .iaload, .iload 2, .ishr, .iconst 1, .iand, .iconst 1, .if_icmp .ne 1, .iconst 1, .goto 2],
  [.iconst 0, .goto_w 2],
  [.ireturn]]
-- 183 M.addsService (I)I
def zb_183 : List (List Instr) := [
  [.iload 1, .iconst 1, .iconst 100, .invokeinterface 162 3, .ifCond .ne 1, .iconst 1, .ireturn],
  [.aload 0, .getfield 640, .iconst 0, .iaload, .iconst 12, .if_icmp .ne 2, .iconst 2, .ireturn],
  [.aload 0, .getfield 640, .iconst 0, .iaload, .istore 2, .aload 0, .iload 2, .iconst 0, .iload 1, .invokeinterface 169 4, .aload 0, .iload 2, .iconst 1, .iconst 100, .invokeinterface 169 4, .aload 0, .iload 2, .iconst 2, .iconst 2, .invokeinterface 169 4, .aload 0, .iload 2, .iconst 3, .iconst 3, .invokeinterface 169 4, .aload 0, .iload 2, .iconst 4, .iconst 1, .invokeinterface 169 4, .aload 0, .iload 2, .iconst 5, .iconst 990, .invokeinterface 169 4, .aload 0, .iload 2, .iconst 6, .iconst 1, .invokeinterface 169 4, .aload 0, .iload 2, .iconst 7, .iconst 0, .invokeinterface 169 4, .aload 0, .iload 2, .iconst 8, .iconst (-1), .invokeinterface 169 4, .aload 0, .getfield 640, .iconst 0, .dup2, .iaload, .iconst 1, .iadd, .iastore, .aload 0, .iload 2, .putfield 649, .iconst 0, .ireturn]]
-- 184 M.addsCall (IIIII)I
def zb_184 : List (List Instr) := [
  [.aload 0, .iload 1, .invokeinterface 174 2, .ifCond .eq 1, .aload 0, .iload 2, .invokeinterface 174 2, .ifCond .ne 2, .goto_w 1],
  [.iconst 1, .ireturn],
  [.iload 3, .iconst 1, .iconst 500, .invokeinterface 162 3, .ifCond .eq 3, .iload 4, .iconst 1, .iconst 3, .invokeinterface 162 3, .ifCond .eq 3, .iload 5, .iconst 0, .iconst 2, .invokeinterface 162 3, .ifCond .ne 4, .goto_w 3],
  [.iconst 2, .ireturn],
  [.iload 1, .iload 2, .if_icmp .eq 6, .aload 0, .iload 2, .iload 1, .invokeinterface 182 3, .ifCond .ne 6, .iload 5, .iconst 2, .if_icmp .ne 5, .aload 0, .iload 1, .invokeinterface 179 2, .ifCond .eq 6, .goto_w 5],
  [.aload 0, .getfield 640, .iconst 1, .iaload, .iconst 24, .if_icmp .ne 7, .goto_w 6],
  [.iconst 3, .ireturn],
  [.iconst 110, .iconst 5, .aload 0, .getfield 640, .iconst 1, .iaload, .imul, .iadd, .istore 6, .aload 0, .getfield 640, .iload 6, .iload 1, .iastore, .aload 0, .getfield 640, .iload 6, .iconst 1, .iadd, .iload 2, .iastore, .aload 0, .getfield 640, .iload 6, .iconst 2, .iadd, .iload 3, .iastore, .aload 0, .getfield 640, .iload 6, .iconst 3, .iadd, .iload 4, .iastore, .aload 0, .getfield 640, .iload 6, .iconst 4, .iadd, .iload 5, .iastore, .aload 0, .aload 0, .getfield 640, .iconst 1, .iaload, .putfield 649, .aload 0, .getfield 640, .iconst 1, .dup2, .iaload, .iconst 1, .iadd, .iastore, .iconst 0, .ireturn]]
-- 185 M.isValue (II)Z
def zb_185 : List (List Instr) := [
  [.iload 0, .lookupswitch 6 #[(0, 1), (1, 2), (2, 3), (3, 4), (4, 3), (5, 5)]],
  [.iload 1, .iconst 1, .iconst 100, .invokeinterface 162 3, .ireturn],
  [.iload 1, .iconst 50, .iconst 400, .invokeinterface 162 3, .ireturn],
  [.iload 1, .iconst 1, .iconst 9, .invokeinterface 162 3, .ireturn],
  [.iload 1, .iconst 1, .iconst 20, .invokeinterface 162 3, .ireturn],
  [.iload 1, .iconst 0, .iconst 1000, .invokeinterface 162 3, .ireturn],
  [.iconst 0, .ireturn]]
-- 186 M.changes (III)I
def zb_186 : List (List Instr) := [
  [.aload 0, .iload 2, .invokeinterface 174 2, .ifCond .ne 1, .iconst 1, .ireturn],
  [.iload 1, .iload 3, .invokeinterface 185 2, .ifCond .ne 2, .iconst 2, .ireturn],
  [.aload 0, .aload 0, .iload 2, .iload 1, .invokeinterface 168 3, .putfield 649, .aload 0, .iload 2, .iload 1, .iload 3, .invokeinterface 169 4, .iconst 0, .ireturn]]
-- 187 M.ups ()I
def zb_187 : List (List Instr) := [
  [.iconst 0, .istore 1, .iconst 0, .istore 2, .goto_w 1],
  [.iload 2, .aload 0, .getfield 640, .iconst 0, .iaload, .if_icmp .ge 2, .iload 1, .aload 0, .iload 2, .iconst 6, .invokeinterface 168 3, .iadd, .istore 1, .iinc 2 1, .goto 1],
  [.iload 1, .ireturn]]
-- 188 M.drops (I)I
def zb_188 : List (List Instr) := [
  [.aload 0, .iload 1, .invokeinterface 174 2, .ifCond .ne 1, .iconst 1, .ireturn],
  [.aload 0, .iload 1, .invokeinterface 176 2, .ifCond .ne 2, .iconst 2, .ireturn],
  [.aload 0, .iload 1, .invokeinterface 189 2, .aload 0, .aload 0, .invokeinterface 187 1, .putfield 649, .iconst 0, .ireturn]]
-- 189 M.goesDown (I)V
def zb_189 : List (List Instr) := [
  [.aload 0, .iload 1, .iconst 6, .iconst 0, .invokeinterface 169 4, .aload 0, .iload 1, .iconst 7, .iconst 0, .invokeinterface 169 4, .aload 0, .iload 1, .iconst 8, .iconst (-1), .invokeinterface 169 4, .return_]]
-- 190 M.mends (I)I
def zb_190 : List (List Instr) := [
  [.aload 0, .iload 1, .invokeinterface 174 2, .ifCond .ne 1, .iconst 1, .ireturn],
  [.aload 0, .iload 1, .invokeinterface 176 2, .ifCond .ne 2, .aload 0, .iload 1, .iconst 8, .invokeinterface 168 3, .iconst (-1), .if_icmp .eq 3, .goto_w 2],
  [.iconst 2, .ireturn],
  [.aload 0, .iload 1, .iconst 8, .aload 0, .iload 1, .iconst 3, .invokeinterface 168 3, .invokeinterface 169 4, .aload 0, .aload 0, .iload 1, .iconst 8, .invokeinterface 168 3, .putfield 649, .iconst 0, .ireturn]]
-- 191 M.goes (I)I
def zb_191 : List (List Instr) := [
  [.iload 1, .iconst 1, .iconst 50, .invokeinterface 162 3, .ifCond .ne 1, .iconst 1, .ireturn],
  [.iconst 0, .istore 2, .goto_w 2],
  [.iload 2, .iload 1, .if_icmp .ge 3, .aload 0, .invokeinterface 231 1, .istore 3, .aload 0, .iload 3, .putfield 649, .iinc 2 1, .goto 2],
  [.aload 0, .aload 0, .invokeinterface 187 1, .putfield 649, .iconst 0, .ireturn]]
-- 192 M.done (I)I
def zb_192 : List (List Instr) := [
  [.iload 1, .ifCond .le 1, .aload 0, .iload 1, .invokeinterface 163 2, .goto 2],
  [.aload 0, .aload 0, .getfield 649, .invokeinterface 167 2, .goto_w 2],
  [.ireturn]]
-- 193 M.addService (I)I
def zb_193 : List (List Instr) := [
  [.aload 0, .invokeinterface 165 1, .aload 0, .aload 0, .iload 1, .invokeinterface 183 2, .invokeinterface 192 2, .ireturn]]
-- 194 M.addCall (IIIII)I
def zb_194 : List (List Instr) := [
  [.aload 0, .invokeinterface 165 1, .aload 0, .aload 0, .iload 1, .iload 2, .iload 3, .iload 4, .iload 5, .invokeinterface 184 6, .invokeinterface 192 2, .ireturn]]
-- 195 M.leader (I)I
def zb_195 : List (List Instr) := [
  [.iconst (-1), .istore 2, .iconst 0, .istore 3, .goto_w 1],
  [.iload 3, .iload 1, .if_icmp .ge 4, .aload 0, .iload 1, .invokeinterface 173 2, .ifCond .eq 4, .aload 0, .iload 3, .invokeinterface 171 2, .aload 0, .iload 1, .invokeinterface 171 2, .if_icmp .ne 2, .aload 0, .iload 3, .invokeinterface 173 2, .ifCond .ne 2, .iload 3, .goto 3],
  [.iload 2, .goto_w 3],
  [.istore 2, .iinc 3 1, .goto 1],
  [.iload 2, .ireturn]]
-- 196 M.removeCall (I)I
def zb_196 : List (List Instr) := [
  [.aload 0, .iload 1, .invokeinterface 175 2, .ifCond .ne 1, .aload 0, .iconst 1, .invokeinterface 163 2, .ireturn],
  [.iload 1, .iconst 1, .iadd, .istore 2, .goto_w 2],
  [.iload 2, .aload 0, .getfield 640, .iconst 1, .iaload, .if_icmp .ge 4, .aload 0, .iload 2, .invokeinterface 195 2, .iload 1, .if_icmp .ne 3, .aload 0, .iconst 2, .invokeinterface 163 2, .ireturn],
  [.iinc 2 1, .goto 2],
  [.aload 0, .invokeinterface 165 1, .aload 0, .getfield 640, .iconst 1, .dup2, .iaload, .iconst 1, .isub, .iastore, .iconst 110, .iconst 5, .iload 1, .imul, .iadd, .istore 2, .goto_w 5],
  [.iload 2, .iconst 110, .iconst 5, .aload 0, .getfield 640, .iconst 1, .iaload, .imul, .iadd, .if_icmp .ge 6, .aload 0, .getfield 640, .iload 2, .aload 0, .getfield 640, .iload 2, .iconst 5, .iadd, .iaload, .iastore, .iinc 2 1, .goto 5],
  [.aload 0, .aload 0, .getfield 640, .iconst 1, .iaload, .invokeinterface 167 2, .ireturn]]
-- 197 M.set (III)I
def zb_197 : List (List Instr) := [
  [.aload 0, .invokeinterface 165 1, .aload 0, .aload 0, .iload 1, .iload 2, .iload 3, .invokeinterface 186 4, .invokeinterface 192 2, .ireturn]]
-- 198 M.setLimit (II)I
def zb_198 : List (List Instr) := [
  [.aload 0, .iload 1, .invokeinterface 175 2, .ifCond .ne 1, .aload 0, .iconst 1, .invokeinterface 163 2, .ireturn],
  [.iload 2, .iconst 1, .iconst 500, .invokeinterface 162 3, .ifCond .ne 2, .aload 0, .iconst 2, .invokeinterface 163 2, .ireturn],
  [.aload 0, .invokeinterface 165 1, .aload 0, .iload 1, .iconst 2, .invokeinterface 170 3, .istore 3, .aload 0, .getfield 640, .iconst 110, .iconst 5, .iload 1, .imul, .iadd, .iconst 2, .iadd, .iload 2, .iastore, .aload 0, .iload 3, .invokeinterface 167 2, .ireturn]]
-- 199 M.services ()I
def zb_199 : List (List Instr) := [
  [.aload 0, .aload 0, .getfield 640, .iconst 0, .iaload, .invokeinterface 164 2, .ireturn]]
-- 200 M.calls ()I
def zb_200 : List (List Instr) := [
  [.aload 0, .aload 0, .getfield 640, .iconst 1, .iaload, .invokeinterface 164 2, .ireturn]]
-- 201 M.value (II)I
def zb_201 : List (List Instr) := [
  [.iload 2, .iconst 9, .if_icmp .ge 1, .aload 0, .iload 1, .iload 2, .invokeinterface 168 3, .goto 3],
  [.iload 2, .iconst 9, .if_icmp .ne 2, .aload 0, .iload 1, .invokeinterface 177 2, .goto 3],
  [.aload 0, .iload 1, .invokeinterface 179 2, .goto_w 3],
  [.ireturn]]
-- 202 M.service (II)I
def zb_202 : List (List Instr) := [
  [.aload 0, .iload 1, .invokeinterface 174 2, .ifCond .ne 1, .aload 0, .iconst 1, .invokeinterface 163 2, .ireturn],
  [.iload 2, .iconst 0, .iconst 10, .invokeinterface 162 3, .ifCond .eq 2, .aload 0, .aload 0, .iload 1, .iload 2, .invokeinterface 201 3, .invokeinterface 164 2, .goto 3],
  [.aload 0, .iconst 2, .invokeinterface 163 2, .goto_w 3],
  [.ireturn]]
-- 203 M.callValue (II)I
def zb_203 : List (List Instr) := [
  [.iload 2, .iconst 5, .if_icmp .ge 1, .aload 0, .iload 1, .iload 2, .invokeinterface 170 3, .goto 2],
  [.aload 0, .iload 1, .invokeinterface 195 2, .goto_w 2],
  [.ireturn]]
-- 204 M.call (II)I
def zb_204 : List (List Instr) := [
  [.aload 0, .iload 1, .invokeinterface 175 2, .ifCond .ne 1, .aload 0, .iconst 1, .invokeinterface 163 2, .ireturn],
  [.iload 2, .iconst 0, .iconst 5, .invokeinterface 162 3, .ifCond .eq 2, .aload 0, .aload 0, .iload 1, .iload 2, .invokeinterface 203 3, .invokeinterface 164 2, .goto 3],
  [.aload 0, .iconst 2, .invokeinterface 163 2, .goto_w 3],
  [.ireturn]]
-- 205 M.depends (II)Z
def zb_205 : List (List Instr) := [
  [.aload 0, .iload 1, .invokeinterface 174 2, .ifCond .eq 1, .aload 0, .iload 2, .invokeinterface 174 2, .ifCond .ne 4, .goto_w 1],
  [.aload 0, .iconst 1, .invokeinterface 163 2, .ifCond .eq 2, .iconst 1, .goto 3],
  [.iconst 0, .goto_w 3],
  [.ireturn],
  [.aload 0, .iconst 0, .putfield 646, .aload 0, .iload 1, .iload 2, .invokeinterface 182 3, .ireturn]]
-- 206 M.order (I)I
def zb_206 : List (List Instr) := [
  [.aload 0, .invokeinterface 181 1, .aload 0, .aload 0, .iload 1, .invokeinterface 174 2, .ifCond .eq 1, .aload 0, .getfield 648, .iload 1, .iaload, .goto 2],
  [.iconst (-1), .goto_w 2],
  [.invokeinterface 164 2, .ireturn]]
-- 207 M.laysLevels ()V
def zb_207 : List (List Instr) := [
  [.aload 0, .invokeinterface 181 1, .iconst 0, .istore 1, .goto_w 1],
  [.iload 1, .aload 0, .getfield 640, .iconst 0, .iaload, .if_icmp .ge 8, .aload 0, .getfield 648, .iload 1, .iaload, .istore 2, .aload 0, .getfield 650, .iload 2, .iconst 0, .iastore, .iconst 0, .istore 3, .goto_w 2],
  [.iload 3, .aload 0, .getfield 640, .iconst 1, .iaload, .if_icmp .ge 7, .aload 0, .iload 3, .invokeinterface 171 2, .iload 2, .if_icmp .ne 3, .aload 0, .getfield 650, .aload 0, .iload 3, .invokeinterface 172 2, .iaload, .iconst 1, .iadd, .goto 4],
  [.iconst 0, .goto_w 4],
  [.istore 4, .aload 0, .getfield 650, .iload 2, .iload 4, .aload 0, .getfield 650, .iload 2, .iaload, .if_icmp .le 5, .iload 4, .goto 6],
  [.aload 0, .getfield 650, .iload 2, .iaload, .goto_w 6],
  [.iastore, .iinc 3 1, .goto 2],
  [.iinc 1 1, .goto 1],
  [.return_]]
-- 208 M.level (I)I
def zb_208 : List (List Instr) := [
  [.aload 0, .iload 1, .invokeinterface 174 2, .ifCond .ne 1, .aload 0, .iconst 1, .invokeinterface 163 2, .ireturn],
  [.aload 0, .invokeinterface 207 1, .aload 0, .aload 0, .getfield 650, .iload 1, .iaload, .invokeinterface 164 2, .ireturn]]
-- 209 M.notesFailure (I)V
def zb_209 : List (List Instr) := [
  [.aload 0, .getfield 663, .iconst 60, .if_icmp .ge 1, .aload 0, .getfield 668, .iconst 4, .aload 0, .getfield 663, .imul, .aload 0, .getfield 651, .aload 0, .getfield 660, .iaload, .iastore, .aload 0, .getfield 668, .iconst 4, .aload 0, .getfield 663, .imul, .iconst 1, .iadd, .iload 1, .iastore, .aload 0, .getfield 668, .iconst 4, .aload 0, .getfield 663, .imul, .iconst 2, .iadd, .aload 0, .getfield 652, .aload 0, .getfield 660, .iaload, .aload 0, .getfield 654, .aload 0, .getfield 660, .iaload, .iadd, .iastore, .aload 0, .getfield 668, .iconst 4, .aload 0, .getfield 663, .imul, .iconst 3, .iadd, .aload 0, .getfield 653, .aload 0, .getfield 660, .iaload, .iastore, .aload 0, .dup, .getfield 663, .iconst 1, .iadd, .putfield 663, .goto_w 1],
  [.aload 0, .aload 0, .getfield 665, .iconst (-1), .if_icmp .ne 2, .iload 1, .iconst 3, .if_icmp .ge 2, .aload 0, .getfield 651, .aload 0, .getfield 660, .iaload, .goto 3],
  [.aload 0, .getfield 665, .goto_w 3],
  [.putfield 665, .aload 0, .aload 0, .getfield 666, .iconst (-1), .if_icmp .ne 4, .aload 0, .getfield 651, .aload 0, .getfield 660, .iaload, .goto 5],
  [.aload 0, .getfield 666, .goto_w 5],
  [.putfield 666, .return_]]
-- 210 M.enters (III)V
def zb_210 : List (List Instr) := [
  [.aload 0, .getfield 651, .aload 0, .getfield 660, .iload 1, .iastore, .aload 0, .getfield 652, .aload 0, .getfield 660, .iload 2, .iastore, .aload 0, .getfield 653, .aload 0, .getfield 660, .iload 3, .iastore, .aload 0, .getfield 654, .aload 0, .getfield 660, .iconst 0, .iastore, .aload 0, .dup, .getfield 667, .iconst 1, .iadd, .putfield 667, .return_]]
-- 211 M.begins ()Z
def zb_211 : List (List Instr) := [
  [.aload 0, .getfield 651, .aload 0, .getfield 660, .iaload, .istore 1, .aload 0, .iconst 0, .putfield 674, .aload 0, .iload 1, .invokeinterface 176 2, .ifCond .ne 1, .aload 0, .iconst 1, .invokeinterface 209 2, .iconst 0, .ireturn],
  [.aload 0, .iload 1, .invokeinterface 177 2, .aload 0, .getfield 653, .aload 0, .getfield 660, .iaload, .if_icmp .le 2, .aload 0, .getfield 654, .aload 0, .getfield 660, .aload 0, .getfield 653, .aload 0, .getfield 660, .iaload, .iastore, .aload 0, .iconst 2, .invokeinterface 209 2, .iconst 0, .ireturn],
  [.aload 0, .getfield 654, .aload 0, .getfield 660, .aload 0, .iload 1, .invokeinterface 177 2, .iastore, .aload 0, .aload 0, .iload 1, .iconst (-1), .invokeinterface 178 3, .invokeinterface 212 2, .iconst 1, .ireturn]]
-- 212 M.opens (I)V
def zb_212 : List (List Instr) := [
  [.aload 0, .getfield 655, .aload 0, .getfield 660, .iload 1, .iastore, .aload 0, .getfield 656, .aload 0, .getfield 660, .iload 1, .iastore, .aload 0, .getfield 657, .aload 0, .getfield 660, .iconst 0, .iastore, .aload 0, .getfield 658, .aload 0, .getfield 660, .iconst 0, .bastore, .return_]]
-- 213 M.acts ()I
def zb_213 : List (List Instr) := [
  [.aload 0, .getfield 651, .aload 0, .getfield 660, .iaload, .istore 1, .aload 0, .getfield 655, .aload 0, .getfield 660, .iaload, .istore 2, .iload 2, .aload 0, .getfield 640, .iconst 1, .iaload, .if_icmp .ne 1, .aload 0, .iconst 1, .putfield 674, .iconst 2, .ireturn],
  [.aload 0, .getfield 658, .aload 0, .getfield 660, .baload, .ifCond .ne 2, .aload 0, .getfield 657, .aload 0, .getfield 660, .iaload, .aload 0, .iload 2, .iconst 3, .invokeinterface 170 3, .if_icmp .ne 3, .goto_w 2],
  [.aload 0, .iload 1, .iload 2, .invokeinterface 214 3, .ireturn],
  [.aload 0, .getfield 653, .aload 0, .getfield 660, .iaload, .aload 0, .getfield 654, .aload 0, .getfield 660, .iaload, .isub, .ifCond .gt 4, .aload 0, .iconst 3, .invokeinterface 209 2, .aload 0, .getfield 657, .aload 0, .getfield 660, .aload 0, .iload 2, .iconst 3, .invokeinterface 170 3, .iastore, .iconst 0, .ireturn],
  [.iconst 1, .ireturn]]
-- 214 M.closes (II)I
def zb_214 : List (List Instr) := [
  [.aload 0, .iload 1, .iload 2, .invokeinterface 178 3, .istore 3, .goto_w 1],
  [.aload 0, .getfield 658, .aload 0, .getfield 660, .baload, .ifCond .eq 2, .iload 3, .aload 0, .getfield 640, .iconst 1, .iaload, .if_icmp .ge 2, .aload 0, .iload 3, .invokeinterface 173 2, .ifCond .eq 2, .aload 0, .iload 1, .iload 3, .invokeinterface 178 3, .istore 3, .goto 1],
  [.aload 0, .getfield 658, .aload 0, .getfield 660, .baload, .ifCond .ne 3, .iload 3, .aload 0, .getfield 640, .iconst 1, .iaload, .if_icmp .ge 3, .aload 0, .iload 3, .invokeinterface 173 2, .ifCond .eq 3, .aload 0, .getfield 655, .aload 0, .getfield 660, .iload 3, .iastore, .aload 0, .getfield 657, .aload 0, .getfield 660, .iconst 0, .iastore, .iconst 0, .ireturn],
  [.aload 0, .getfield 658, .aload 0, .getfield 660, .baload, .ifCond .ne 4, .aload 0, .aload 0, .getfield 656, .aload 0, .getfield 660, .iaload, .iconst 4, .invokeinterface 170 3, .ifCond .ne 4, .aload 0, .iconst 4, .invokeinterface 209 2, .aload 0, .iconst 0, .putfield 674, .iconst 2, .ireturn],
  [.aload 0, .dup, .getfield 662, .aload 0, .getfield 658, .aload 0, .getfield 660, .baload, .ifCond .eq 5, .iconst 0, .goto 6],
  [.iconst 1, .goto_w 6],
  [.iadd, .putfield 662, .aload 0, .iload 3, .invokeinterface 212 2, .iconst 0, .ireturn]]
-- 215 M.begunTry ()V
def zb_215 : List (List Instr) := [
  [.aload 0, .getfield 655, .aload 0, .getfield 660, .iaload, .istore 1, .aload 0, .getfield 653, .aload 0, .getfield 660, .iaload, .aload 0, .getfield 654, .aload 0, .getfield 660, .iaload, .isub, .istore 2, .aload 0, .iload 1, .iconst 2, .invokeinterface 170 3, .iload 2, .if_icmp .ge 1, .aload 0, .iload 1, .iconst 2, .invokeinterface 170 3, .goto 2],
  [.iload 2, .goto_w 2],
  [.istore 3, .aload 0, .getfield 652, .aload 0, .getfield 660, .iaload, .aload 0, .getfield 654, .aload 0, .getfield 660, .iaload, .iadd, .istore 4, .aload 0, .getfield 659, .aload 0, .getfield 660, .iconst (-1), .iastore, .aload 0, .getfield 664, .iconst 200, .if_icmp .ge 3, .aload 0, .getfield 669, .iconst 4, .aload 0, .getfield 664, .imul, .iload 1, .iastore, .aload 0, .getfield 669, .iconst 4, .aload 0, .getfield 664, .imul, .iconst 1, .iadd, .iload 4, .iastore, .aload 0, .getfield 669, .iconst 4, .aload 0, .getfield 664, .imul, .iconst 2, .iadd, .iload 3, .iastore, .aload 0, .getfield 669, .iconst 4, .aload 0, .getfield 664, .imul, .iconst 3, .iadd, .iconst 0, .iastore, .aload 0, .getfield 659, .aload 0, .getfield 660, .aload 0, .getfield 664, .iastore, .aload 0, .dup, .getfield 664, .iconst 1, .iadd, .putfield 664, .goto_w 3],
  [.aload 0, .dup, .getfield 660, .iconst 1, .iadd, .putfield 660, .aload 0, .aload 0, .iload 1, .invokeinterface 172 2, .iload 4, .iload 3, .invokeinterface 210 4, .return_]]
-- 216 M.returns ()V
def zb_216 : List (List Instr) := [
  [.aload 0, .getfield 654, .aload 0, .getfield 660, .iaload, .istore 1, .aload 0, .dup, .getfield 660, .iconst 1, .isub, .putfield 660, .aload 0, .getfield 654, .aload 0, .getfield 660, .dup2, .iaload, .iload 1, .iadd, .iastore, .aload 0, .getfield 657, .aload 0, .getfield 660, .dup2, .iaload, .iconst 1, .iadd, .iastore, .aload 0, .getfield 658, .aload 0, .getfield 660, .aload 0, .getfield 674, .bastore, .aload 0, .getfield 674, .ifCond .eq 1, .aload 0, .getfield 659, .aload 0, .getfield 660, .iaload, .iconst (-1), .if_icmp .eq 1, .aload 0, .getfield 669, .iconst 4, .aload 0, .getfield 659, .aload 0, .getfield 660, .iaload, .imul, .iconst 3, .iadd, .iconst 1, .iastore, .goto_w 1],
  [.return_]]
-- 217 M.serves (II)Z
def zb_217 : List (List Instr) := [
  [.aload 0, .iconst 0, .putfield 662, .aload 0, .iconst 0, .putfield 663, .aload 0, .iconst 0, .putfield 664, .aload 0, .iconst (-1), .putfield 665, .aload 0, .iconst (-1), .putfield 666, .aload 0, .iconst 0, .putfield 667, .aload 0, .iconst 0, .putfield 660, .aload 0, .iload 1, .iconst 0, .iload 2, .invokeinterface 210 4, .aload 0, .invokeinterface 211 1, .istore 3, .iconst 0, .istore 4, .goto_w 1],
  [.iload 4, .ifCond .ne 7, .iload 3, .ifCond .eq 2, .aload 0, .invokeinterface 213 1, .goto 3],
  [.iconst 2, .goto_w 3],
  [.istore 5, .iload 5, .iconst 1, .if_icmp .ne 4, .aload 0, .invokeinterface 215 1, .aload 0, .invokeinterface 211 1, .istore 3, .goto 6],
  [.iload 5, .iconst 2, .if_icmp .ne 5, .aload 0, .getfield 660, .ifCond .ne 5, .iconst 1, .istore 4, .goto 6],
  [.iload 5, .iconst 2, .if_icmp .ne 6, .aload 0, .invokeinterface 216 1, .iconst 1, .istore 3, .goto_w 6],
  [.goto 1],
  [.aload 0, .aload 0, .getfield 654, .iconst 0, .iaload, .putfield 661, .aload 0, .getfield 674, .ireturn]]
-- 218 M.request (II)Z
def zb_218 : List (List Instr) := [
  [.aload 0, .iload 1, .invokeinterface 174 2, .ifCond .ne 3, .aload 0, .iconst 1, .invokeinterface 163 2, .ifCond .eq 1, .iconst 1, .goto 2],
  [.iconst 0, .goto_w 2],
  [.ireturn],
  [.iload 2, .iconst 0, .iconst 1000, .invokeinterface 162 3, .ifCond .ne 6, .aload 0, .iconst 2, .invokeinterface 163 2, .ifCond .eq 4, .iconst 1, .goto 5],
  [.iconst 0, .goto_w 5],
  [.ireturn],
  [.aload 0, .iconst 0, .putfield 646, .aload 0, .iload 1, .iload 2, .invokeinterface 217 3, .istore 3, .aload 0, .getfield 670, .iconst 0, .aload 0, .getfield 661, .iastore, .aload 0, .getfield 670, .iconst 1, .aload 0, .getfield 662, .iastore, .aload 0, .getfield 670, .iconst 2, .aload 0, .getfield 663, .iastore, .aload 0, .getfield 670, .iconst 3, .aload 0, .getfield 664, .iastore, .aload 0, .getfield 670, .iconst 4, .iload 3, .ifCond .eq 7, .iconst (-1), .goto 9],
  [.aload 0, .getfield 665, .iconst (-1), .if_icmp .ne 8, .aload 0, .getfield 666, .goto 9],
  [.aload 0, .getfield 665, .goto_w 9],
  [.iastore, .aload 0, .getfield 670, .iconst 5, .aload 0, .getfield 667, .iastore, .iconst 0, .istore 4, .goto_w 10],
  [.iload 4, .iconst 240, .if_icmp .ge 11, .aload 0, .getfield 671, .iload 4, .aload 0, .getfield 668, .iload 4, .iaload, .iastore, .iinc 4 1, .goto 10],
  [.iconst 0, .istore 4, .goto_w 12],
  [.iload 4, .iconst 800, .if_icmp .ge 13, .aload 0, .getfield 672, .iload 4, .aload 0, .getfield 669, .iload 4, .iaload, .iastore, .iinc 4 1, .goto 12],
  [.aload 0, .iconst 1, .putfield 673, .iload 3, .ireturn]]
-- 219 M.result (I)I
def zb_219 : List (List Instr) := [
  [.iload 1, .iconst 0, .iconst 5, .invokeinterface 162 3, .ifCond .ne 1, .aload 0, .iconst 1, .invokeinterface 163 2, .ireturn],
  [.aload 0, .getfield 673, .ifCond .eq 2, .aload 0, .aload 0, .getfield 670, .iload 1, .iaload, .invokeinterface 164 2, .goto 3],
  [.aload 0, .iconst 2, .invokeinterface 163 2, .goto_w 3],
  [.ireturn]]
-- 220 M.failure (II)I
def zb_220 : List (List Instr) := [
  [.iload 2, .iconst 0, .iconst 3, .invokeinterface 162 3, .ifCond .ne 1, .aload 0, .iconst 1, .invokeinterface 163 2, .ireturn],
  [.aload 0, .aload 0, .getfield 673, .ifCond .eq 2, .iload 1, .iconst 0, .aload 0, .getfield 670, .iconst 2, .iaload, .iconst 1, .isub, .invokeinterface 162 3, .ifCond .eq 2, .aload 0, .getfield 671, .iconst 4, .iload 1, .imul, .iload 2, .iadd, .iaload, .goto 3],
  [.iconst (-1), .goto_w 3],
  [.invokeinterface 164 2, .ireturn]]
-- 221 M.attempt (II)I
def zb_221 : List (List Instr) := [
  [.iload 2, .iconst 0, .iconst 3, .invokeinterface 162 3, .ifCond .ne 1, .aload 0, .iconst 1, .invokeinterface 163 2, .ireturn],
  [.aload 0, .aload 0, .getfield 673, .ifCond .eq 2, .iload 1, .iconst 0, .aload 0, .getfield 670, .iconst 3, .iaload, .iconst 1, .isub, .invokeinterface 162 3, .ifCond .eq 2, .aload 0, .getfield 672, .iconst 4, .iload 1, .imul, .iload 2, .iadd, .iaload, .goto 3],
  [.iconst (-1), .goto_w 3],
  [.invokeinterface 164 2, .ireturn]]
-- 222 M.leastBudget (I)I
def zb_222 : List (List Instr) := [
  [.aload 0, .iload 1, .invokeinterface 174 2, .ifCond .ne 1, .aload 0, .iconst 1, .invokeinterface 163 2, .ireturn],
  [.iconst 0, .istore 2, .goto_w 2],
  [.iload 2, .iconst 1000, .if_icmp .gt 3, .aload 0, .iload 1, .iload 2, .invokeinterface 217 3, .ifCond .ne 3, .iinc 2 1, .goto 2],
  [.aload 0, .iload 2, .iconst 1000, .if_icmp .gt 4, .iload 2, .goto 5],
  [.iconst (-1), .goto_w 5],
  [.invokeinterface 164 2, .ireturn]]
-- 223 M.bounds (I)V
def zb_223 : List (List Instr) := [
  [.aload 0, .iload 1, .invokeinterface 177 2, .istore 2, .iconst 0, .istore 3, .goto_w 1],
  [.iload 3, .aload 0, .getfield 640, .iconst 1, .iaload, .if_icmp .ge 5, .aload 0, .iload 3, .invokeinterface 171 2, .iload 1, .if_icmp .ne 4, .aload 0, .iload 3, .iconst 2, .invokeinterface 170 3, .istore 4, .iload 2, .aload 0, .iload 3, .iconst 3, .invokeinterface 170 3, .iload 4, .aload 0, .getfield 675, .aload 0, .iload 3, .invokeinterface 172 2, .iaload, .if_icmp .ge 2, .iload 4, .goto 3],
  [.aload 0, .getfield 675, .aload 0, .iload 3, .invokeinterface 172 2, .iaload, .goto_w 3],
  [.imul, .iadd, .istore 2, .goto_w 4],
  [.iinc 3 1, .goto 1],
  [.aload 0, .getfield 675, .iload 1, .iload 2, .iconst 100000, .if_icmp .ge 6, .iload 2, .goto 7],
  [.iconst 100000, .goto_w 7],
  [.iastore, .return_]]
-- 224 M.laysBounds ()V
def zb_224 : List (List Instr) := [
  [.aload 0, .invokeinterface 181 1, .iconst 0, .istore 1, .goto_w 1],
  [.iload 1, .aload 0, .getfield 640, .iconst 0, .iaload, .if_icmp .ge 2, .aload 0, .aload 0, .getfield 648, .iload 1, .iaload, .invokeinterface 223 2, .iinc 1 1, .goto 1],
  [.return_]]
-- 225 M.worst (I)I
def zb_225 : List (List Instr) := [
  [.aload 0, .iload 1, .invokeinterface 174 2, .ifCond .ne 1, .aload 0, .iconst 1, .invokeinterface 163 2, .ireturn],
  [.aload 0, .invokeinterface 224 1, .aload 0, .aload 0, .getfield 675, .iload 1, .iaload, .invokeinterface 164 2, .ireturn]]
-- 226 M.unsoundMany ()I
def zb_226 : List (List Instr) := [
  [.aload 0, .invokeinterface 224 1, .iconst 0, .istore 1, .iconst 0, .istore 2, .goto_w 1],
  [.iload 2, .aload 0, .getfield 640, .iconst 1, .iaload, .if_icmp .ge 4, .iload 1, .aload 0, .iload 2, .iconst 2, .invokeinterface 170 3, .aload 0, .getfield 675, .aload 0, .iload 2, .invokeinterface 172 2, .iaload, .if_icmp .ge 2, .iconst 1, .goto 3],
  [.iconst 0, .goto_w 3],
  [.iadd, .istore 1, .iinc 2 1, .goto 1],
  [.iload 1, .ireturn]]
-- 227 M.unsound ()I
def zb_227 : List (List Instr) := [
  [.aload 0, .aload 0, .invokeinterface 226 1, .invokeinterface 164 2, .ireturn]]
-- 228 M.tighten ()I
def zb_228 : List (List Instr) := [
  [.aload 0, .invokeinterface 165 1, .aload 0, .invokeinterface 181 1, .iconst 0, .istore 1, .goto_w 1],
  [.iload 1, .aload 0, .getfield 640, .iconst 0, .iaload, .if_icmp .ge 7, .aload 0, .getfield 648, .iload 1, .iaload, .istore 2, .aload 0, .iload 2, .invokeinterface 223 2, .iconst 0, .istore 3, .goto_w 2],
  [.iload 3, .aload 0, .getfield 640, .iconst 1, .iaload, .if_icmp .ge 6, .aload 0, .iload 3, .invokeinterface 172 2, .iload 2, .if_icmp .ne 5, .aload 0, .getfield 640, .iconst 110, .iconst 5, .iload 3, .imul, .iadd, .iconst 2, .iadd, .aload 0, .getfield 675, .iload 2, .iaload, .iconst 500, .if_icmp .ge 3, .aload 0, .getfield 675, .iload 2, .iaload, .goto 4],
  [.iconst 500, .goto_w 4],
  [.iastore, .goto_w 5],
  [.iinc 3 1, .goto 2],
  [.iinc 1 1, .goto 1],
  [.iconst 0, .istore 1, .iconst 0, .istore 2, .goto_w 8],
  [.iload 2, .aload 0, .getfield 640, .iconst 1, .iaload, .if_icmp .ge 11, .iconst 110, .iconst 5, .iload 2, .imul, .iadd, .iconst 2, .iadd, .istore 3, .iload 1, .aload 0, .getfield 640, .iload 3, .iaload, .aload 0, .getfield 642, .iload 3, .iaload, .if_icmp .ne 9, .iconst 0, .goto 10],
  [.iconst 1, .goto_w 10],
  [.iadd, .istore 1, .iinc 2 1, .goto 8],
  [.aload 0, .iload 1, .invokeinterface 167 2, .ireturn]]
-- 229 M.downs ()I
def zb_229 : List (List Instr) := [
  [.iconst 0, .istore 1, .iconst 0, .istore 2, .goto_w 1],
  [.iload 2, .aload 0, .getfield 640, .iconst 0, .iaload, .if_icmp .ge 4, .iload 1, .aload 0, .iload 2, .invokeinterface 176 2, .ifCond .eq 2, .iconst 0, .goto 3],
  [.iconst 1, .iload 2, .ishl, .goto_w 3],
  [.ior, .istore 1, .iinc 2 1, .goto 1],
  [.iload 1, .ireturn]]
-- 230 M.isCutOff (II)Z
def zb_230 : List (List Instr) := [
  [.iconst 0, .istore 3, .aload 0, .iload 1, .iconst (-1), .invokeinterface 178 3, .istore 4, .goto_w 1],
  [.iload 4, .aload 0, .getfield 640, .iconst 1, .iaload, .if_icmp .ge 13, .iload 2, .aload 0, .iload 4, .invokeinterface 172 2, .ishr, .iconst 1, .iand, .iconst 1, .if_icmp .ne 2, .iconst 1, .goto 3],
  [.iconst 0, .goto_w 3],
  [.istore 5, .aload 0, .iload 4, .iconst 4, .invokeinterface 170 3, .ifCond .ne 4, .iconst 1, .goto 5],
  [.iconst 0, .goto_w 5],
  [.istore 6, .aload 0, .iload 1, .iload 4, .invokeinterface 178 3, .istore 4, .goto_w 6],
  [.iload 4, .aload 0, .getfield 640, .iconst 1, .iaload, .if_icmp .ge 9, .aload 0, .iload 4, .invokeinterface 173 2, .ifCond .eq 9, .iload 5, .ifCond .eq 7, .iload 2, .aload 0, .iload 4, .invokeinterface 172 2, .ishr, .iconst 1, .iand, .iconst 1, .if_icmp .ne 7, .iconst 1, .goto 8],
  [.iconst 0, .goto_w 8],
  [.istore 5, .aload 0, .iload 1, .iload 4, .invokeinterface 178 3, .istore 4, .goto 6],
  [.iload 3, .ifCond .ne 10, .iload 6, .ifCond .eq 11, .iload 5, .ifCond .eq 11, .goto_w 10],
  [.iconst 1, .goto 12],
  [.iconst 0, .goto_w 12],
  [.istore 3, .goto 1],
  [.iload 3, .ireturn]]
-- 231 M.step ()I
def zb_231 : List (List Instr) := [
  [.aload 0, .invokeinterface 229 1, .istore 1, .iconst 0, .istore 2, .iconst 0, .istore 3, .goto_w 1],
  [.iload 3, .aload 0, .getfield 640, .iconst 0, .iaload, .if_icmp .ge 10, .aload 0, .iload 3, .iload 1, .invokeinterface 230 3, .istore 4, .iload 1, .iload 3, .ishr, .iconst 1, .iand, .ifCond .ne 6, .aload 0, .iload 3, .iconst 7, .invokeinterface 168 3, .istore 5, .aload 0, .iload 3, .iconst 7, .iload 4, .ifCond .eq 2, .iload 5, .iconst 1, .iadd, .goto 4],
  [.iload 5, .ifCond .le 3, .iload 5, .iconst 1, .isub, .goto 4],
  [.iconst 0, .goto_w 4],
  [.invokeinterface 169 4, .aload 0, .iload 3, .iconst 7, .invokeinterface 168 3, .aload 0, .iload 3, .iconst 2, .invokeinterface 168 3, .if_icmp .lt 5, .aload 0, .iload 3, .invokeinterface 189 2, .iload 2, .iconst 1, .iload 3, .ishl, .ior, .istore 2, .goto_w 5],
  [.goto 9],
  [.aload 0, .iload 3, .iconst 8, .invokeinterface 168 3, .iconst (-1), .if_icmp .eq 9, .aload 0, .iload 3, .iconst 8, .aload 0, .iload 3, .iconst 8, .invokeinterface 168 3, .ifCond .le 7, .aload 0, .iload 3, .iconst 8, .invokeinterface 168 3, .iconst 1, .isub, .goto 8],
  [.iconst 0, .goto_w 8],
  [.invokeinterface 169 4, .aload 0, .iload 3, .iconst 8, .invokeinterface 168 3, .ifCond .ne 9, .iload 4, .ifCond .ne 9, .aload 0, .iload 3, .iconst 6, .iconst 1, .invokeinterface 169 4, .aload 0, .iload 3, .iconst 7, .iconst 0, .invokeinterface 169 4, .aload 0, .iload 3, .iconst 8, .iconst (-1), .invokeinterface 169 4, .goto_w 9],
  [.iinc 3 1, .goto 1],
  [.iload 2, .ireturn]]
-- 232 M.fail (I)I
def zb_232 : List (List Instr) := [
  [.aload 0, .invokeinterface 165 1, .aload 0, .aload 0, .iload 1, .invokeinterface 188 2, .invokeinterface 192 2, .ireturn]]
-- 233 M.repair (I)I
def zb_233 : List (List Instr) := [
  [.aload 0, .invokeinterface 165 1, .aload 0, .aload 0, .iload 1, .invokeinterface 190 2, .invokeinterface 192 2, .ireturn]]
-- 234 M.steps (I)I
def zb_234 : List (List Instr) := [
  [.aload 0, .invokeinterface 165 1, .aload 0, .aload 0, .iload 1, .invokeinterface 191 2, .invokeinterface 192 2, .ireturn]]
-- 235 M.down ()I
def zb_235 : List (List Instr) := [
  [.aload 0, .aload 0, .invokeinterface 229 1, .invokeinterface 164 2, .ireturn]]
-- 236 M.spreads (I)I
def zb_236 : List (List Instr) := [
  [.aload 0, .invokeinterface 165 1, .aload 0, .iload 1, .invokeinterface 189 2, .aload 0, .iconst (-1), .putfield 676, .iconst 1, .istore 2, .goto_w 1],
  [.iload 2, .iconst 40, .if_icmp .gt 4, .aload 0, .invokeinterface 231 1, .iconst 1, .iload 1, .ishl, .iconst (-1), .ixor, .iand, .istore 3, .aload 0, .aload 0, .getfield 676, .iconst (-1), .if_icmp .ne 2, .iload 3, .ifCond .eq 2, .iload 2, .goto 3],
  [.aload 0, .getfield 676, .goto_w 3],
  [.putfield 676, .iinc 2 1, .goto 1],
  [.aload 0, .invokeinterface 229 1, .istore 2, .aload 0, .invokeinterface 166 1, .iload 2, .ireturn]]
-- 237 M.spread (I)I
def zb_237 : List (List Instr) := [
  [.aload 0, .iload 1, .invokeinterface 174 2, .ifCond .ne 1, .aload 0, .iconst 1, .invokeinterface 163 2, .ireturn],
  [.aload 0, .iload 1, .invokeinterface 176 2, .ifCond .eq 2, .aload 0, .aload 0, .iload 1, .invokeinterface 236 2, .invokeinterface 164 2, .goto 3],
  [.aload 0, .iconst 2, .invokeinterface 163 2, .goto_w 3],
  [.ireturn]]
-- 238 M.calm (I)I
def zb_238 : List (List Instr) := [
  [.aload 0, .iload 1, .invokeinterface 174 2, .ifCond .ne 1, .aload 0, .iconst 1, .invokeinterface 163 2, .ireturn],
  [.aload 0, .iload 1, .invokeinterface 176 2, .ifCond .ne 2, .aload 0, .iconst 2, .invokeinterface 163 2, .ireturn],
  [.aload 0, .iload 1, .invokeinterface 236 2, .istore 2, .aload 0, .iload 2, .ifCond .ne 3, .iconst (-1), .goto 4],
  [.aload 0, .getfield 676, .goto_w 4],
  [.invokeinterface 164 2, .ireturn]]
-- 239 M.nextBegun (II)I
def zb_239 : List (List Instr) := [
  [.iconst (-1), .istore 3, .iconst 0, .istore 4, .goto_w 1],
  [.iload 4, .aload 0, .getfield 640, .iconst 0, .iaload, .if_icmp .ge 7, .iload 1, .iload 4, .ishr, .iconst 1, .iand, .iconst 1, .if_icmp .ne 2, .aload 0, .getfield 677, .iload 4, .iaload, .iconst (-1), .if_icmp .ne 2, .aload 0, .getfield 647, .iload 4, .iaload, .iload 1, .iand, .iload 2, .iconst (-1), .ixor, .iand, .ifCond .ne 2, .iconst 1, .goto 3],
  [.iconst 0, .goto_w 3],
  [.istore 5, .iload 5, .ifCond .eq 5, .iload 3, .iconst (-1), .if_icmp .eq 4, .aload 0, .iload 4, .iconst 4, .invokeinterface 168 3, .aload 0, .iload 3, .iconst 4, .invokeinterface 168 3, .if_icmp .le 5, .goto_w 4],
  [.iload 4, .goto 6],
  [.iload 3, .goto_w 6],
  [.istore 3, .iinc 4 1, .goto 1],
  [.iload 3, .ireturn]]
-- 240 M.recovers (I)I
def zb_240 : List (List Instr) := [
  [.aload 0, .invokeinterface 180 1, .aload 0, .invokeinterface 229 1, .istore 2, .iconst 0, .istore 3, .iconst 0, .istore 4, .goto_w 1],
  [.iload 4, .iconst 12, .if_icmp .ge 2, .aload 0, .getfield 677, .iload 4, .iconst (-1), .iastore, .iinc 4 1, .goto 1],
  [.iconst 0, .istore 4, .goto_w 3],
  [.iload 3, .iload 2, .if_icmp .eq 17, .iload 1, .istore 5, .iconst 0, .istore 6, .goto_w 4],
  [.iload 6, .aload 0, .getfield 640, .iconst 0, .iaload, .if_icmp .ge 12, .aload 0, .getfield 677, .iload 6, .iaload, .iconst (-1), .if_icmp .eq 11, .iload 3, .iload 6, .ishr, .iconst 1, .iand, .ifCond .ne 11, .aload 0, .getfield 677, .iload 6, .iaload, .aload 0, .iload 6, .iconst 3, .invokeinterface 168 3, .iadd, .iload 4, .if_icmp .gt 5, .iconst 1, .goto 6],
  [.iconst 0, .goto_w 6],
  [.istore 7, .iload 3, .iload 7, .ifCond .eq 7, .iconst 1, .iload 6, .ishl, .goto 8],
  [.iconst 0, .goto_w 8],
  [.ior, .istore 3, .iload 5, .iload 7, .ifCond .eq 9, .iconst 0, .goto 10],
  [.iconst 1, .goto_w 10],
  [.isub, .istore 5, .goto_w 11],
  [.iinc 6 1, .goto 4],
  [.aload 0, .iload 2, .iload 3, .invokeinterface 239 3, .istore 6, .goto_w 13],
  [.iload 5, .ifCond .le 14, .iload 6, .iconst (-1), .if_icmp .eq 14, .aload 0, .getfield 677, .iload 6, .iload 4, .iastore, .iinc 5 (-1), .aload 0, .iload 2, .iload 3, .invokeinterface 239 3, .istore 6, .goto 13],
  [.iload 4, .iload 3, .iload 2, .if_icmp .ne 15, .iconst 0, .goto 16],
  [.iconst 1, .goto_w 16],
  [.iadd, .istore 4, .goto 3],
  [.iload 4, .ireturn]]
-- 241 M.recoveryTime (I)I
def zb_241 : List (List Instr) := [
  [.iload 1, .iconst 1, .iconst 4, .invokeinterface 162 3, .ifCond .eq 1, .aload 0, .aload 0, .iload 1, .invokeinterface 240 2, .invokeinterface 164 2, .goto 2],
  [.aload 0, .iconst 1, .invokeinterface 163 2, .goto_w 2],
  [.ireturn]]
-- 242 M.recoveryStart (II)I
def zb_242 : List (List Instr) := [
  [.iload 1, .iconst 1, .iconst 4, .invokeinterface 162 3, .ifCond .ne 1, .aload 0, .iconst 1, .invokeinterface 163 2, .ireturn],
  [.aload 0, .iload 2, .invokeinterface 174 2, .ifCond .ne 2, .aload 0, .iconst 2, .invokeinterface 163 2, .ireturn],
  [.aload 0, .iload 1, .invokeinterface 240 2, .istore 3, .aload 0, .iload 3, .ifCond .ge 3, .iconst (-1), .goto 4],
  [.aload 0, .getfield 677, .iload 2, .iaload, .goto_w 4],
  [.invokeinterface 164 2, .ireturn]]
-- 243 M.timeOf (I)I
def zb_243 : List (List Instr) := [
  [.iconst 0, .istore 2, .iconst 0, .istore 3, .goto_w 1],
  [.iload 3, .aload 0, .getfield 640, .iconst 0, .iaload, .if_icmp .ge 4, .iload 2, .iload 1, .iload 3, .ishr, .iconst 1, .iand, .iconst 1, .if_icmp .ne 2, .aload 0, .iload 3, .iconst 3, .invokeinterface 168 3, .goto 3],
  [.iconst 0, .goto_w 3],
  [.iadd, .istore 2, .iinc 3 1, .goto 1],
  [.iload 2, .ireturn]]
-- 244 M.costWith (III)I
def zb_244 : List (List Instr) := [
  [.iload 2, .iload 3, .iconst (-1), .ixor, .iand, .iload 1, .ishr, .iconst 1, .iand, .iconst 1, .if_icmp .ne 1, .aload 0, .getfield 647, .iload 1, .iaload, .iload 2, .iand, .iload 3, .iconst (-1), .ixor, .iand, .ifCond .ne 1, .iconst 1, .goto 2],
  [.iconst 0, .goto_w 2],
  [.istore 4, .iload 4, .ifCond .eq 3, .aload 0, .iload 1, .iconst 4, .invokeinterface 168 3, .aload 0, .iload 3, .invokeinterface 243 2, .aload 0, .iload 1, .iconst 3, .invokeinterface 168 3, .iadd, .imul, .aload 0, .getfield 678, .iload 3, .iconst 1, .iload 1, .ishl, .ior, .iaload, .iadd, .goto 4],
  [.iconst 100000000, .goto_w 4],
  [.ireturn]]
-- 245 M.laysBest ()I
def zb_245 : List (List Instr) := [
  [.aload 0, .invokeinterface 180 1, .aload 0, .invokeinterface 229 1, .istore 1, .iload 1, .istore 2, .goto_w 1],
  [.iload 2, .ifCond .lt 9, .iload 2, .iload 1, .iconst (-1), .ixor, .iand, .ifCond .ne 8, .iload 2, .iload 1, .if_icmp .ne 2, .iconst 0, .goto 3],
  [.iconst 100000000, .goto_w 3],
  [.istore 3, .iconst 0, .istore 4, .goto_w 4],
  [.iload 4, .aload 0, .getfield 640, .iconst 0, .iaload, .if_icmp .ge 7, .aload 0, .iload 4, .iload 1, .iload 2, .invokeinterface 244 4, .istore 5, .iload 5, .iload 3, .if_icmp .ge 5, .iload 5, .goto 6],
  [.iload 3, .goto_w 6],
  [.istore 3, .iinc 4 1, .goto 4],
  [.aload 0, .getfield 678, .iload 2, .iload 3, .iastore, .goto_w 8],
  [.iinc 2 (-1), .goto 1],
  [.aload 0, .getfield 678, .iconst 0, .iaload, .ireturn]]
-- 246 M.bestCost ()I
def zb_246 : List (List Instr) := [
  [.aload 0, .aload 0, .invokeinterface 245 1, .invokeinterface 164 2, .ireturn]]
-- 247 M.bestOrder (I)I
def zb_247 : List (List Instr) := [
  [.aload 0, .invokeinterface 245 1, .istore 2, .aload 0, .invokeinterface 229 1, .istore 3, .iconst 0, .istore 4, .iload 1, .istore 5, .iconst (-1), .istore 6, .goto_w 1],
  [.iload 4, .iload 3, .if_icmp .eq 6, .iload 5, .ifCond .lt 6, .iload 2, .ifCond .lt 6, .iconst 0, .istore 7, .goto_w 2],
  [.aload 0, .iload 7, .iload 3, .iload 4, .invokeinterface 244 4, .aload 0, .getfield 678, .iload 4, .iaload, .if_icmp .eq 3, .iinc 7 1, .goto 2],
  [.iload 5, .ifCond .ne 4, .iload 7, .goto 5],
  [.iload 6, .goto_w 5],
  [.istore 6, .iinc 5 (-1), .iload 4, .iconst 1, .iload 7, .ishl, .ior, .istore 4, .goto 1],
  [.aload 0, .iload 6, .invokeinterface 164 2, .ireturn]]
-- 248 M.failing (I)I
def zb_248 : List (List Instr) := [
  [.iload 1, .istore 2, .iconst 0, .istore 3, .goto_w 1],
  [.iload 3, .aload 0, .getfield 640, .iconst 0, .iaload, .if_icmp .ge 4, .iload 2, .aload 0, .aload 0, .getfield 648, .iload 3, .iaload, .iload 2, .invokeinterface 230 3, .ifCond .eq 2, .iconst 1, .aload 0, .getfield 648, .iload 3, .iaload, .ishl, .goto 3],
  [.iconst 0, .goto_w 3],
  [.ior, .istore 2, .iinc 3 1, .goto 1],
  [.iload 2, .ireturn]]
-- 249 M.failsBy (II)Z
def zb_249 : List (List Instr) := [
  [.aload 0, .iload 1, .invokeinterface 174 2, .ifCond .ne 3, .aload 0, .iconst 1, .invokeinterface 163 2, .ifCond .eq 1, .iconst 1, .goto 2],
  [.iconst 0, .goto_w 2],
  [.ireturn],
  [.iload 2, .ifCond .lt 4, .iload 2, .iconst 1, .aload 0, .getfield 640, .iconst 0, .iaload, .ishl, .if_icmp .lt 7, .goto_w 4],
  [.aload 0, .iconst 2, .invokeinterface 163 2, .ifCond .eq 5, .iconst 1, .goto 6],
  [.iconst 0, .goto_w 6],
  [.ireturn],
  [.aload 0, .iconst 0, .putfield 646, .aload 0, .invokeinterface 181 1, .aload 0, .iload 2, .invokeinterface 248 2, .iload 1, .ishr, .iconst 1, .iand, .iconst 1, .if_icmp .ne 8, .iconst 1, .goto 9],
  [.iconst 0, .goto_w 9],
  [.ireturn]]
-- 250 M.laysFailing (I)V
def zb_250 : List (List Instr) := [
  [.aload 0, .invokeinterface 181 1, .iconst 0, .istore 2, .goto_w 1],
  [.iload 2, .iconst 1, .aload 0, .getfield 640, .iconst 0, .iaload, .ishl, .if_icmp .ge 4, .aload 0, .getfield 679, .iload 2, .aload 0, .iload 2, .invokeinterface 248 2, .iload 1, .ishr, .iconst 1, .iand, .iconst 1, .if_icmp .ne 2, .iconst 1, .goto 3],
  [.iconst 0, .goto_w 3],
  [.bastore, .iinc 2 1, .goto 1],
  [.return_]]
-- 251 M.size (I)I
def zb_251 : List (List Instr) := [
  [.iconst 0, .istore 1, .iconst 0, .istore 2, .goto_w 1],
  [.iload 2, .iconst 12, .if_icmp .ge 2, .iload 1, .iload 0, .iload 2, .ishr, .iconst 1, .iand, .iadd, .istore 1, .iinc 2 1, .goto 1],
  [.iload 1, .ireturn]]
-- 252 M.isCut (I)Z
def zb_252 : List (List Instr) := [
  [.aload 0, .getfield 679, .iload 1, .baload, .istore 2, .iconst 0, .istore 3, .goto_w 1],
  [.iload 3, .iconst 12, .if_icmp .ge 5, .iload 2, .ifCond .eq 5, .iload 1, .iload 3, .ishr, .iconst 1, .iand, .ifCond .eq 2, .aload 0, .getfield 679, .iload 1, .iconst 1, .iload 3, .ishl, .iconst (-1), .ixor, .iand, .baload, .ifCond .ne 3, .goto_w 2],
  [.iconst 1, .goto 4],
  [.iconst 0, .goto_w 4],
  [.istore 2, .iinc 3 1, .goto 1],
  [.iload 2, .ireturn]]
-- 253 M.cutAt (III)I
def zb_253 : List (List Instr) := [
  [.aload 0, .iload 1, .invokeinterface 250 2, .iconst 0, .istore 4, .iconst (-1), .istore 5, .iconst 0, .istore 6, .goto_w 1],
  [.iload 6, .iconst 1, .aload 0, .getfield 640, .iconst 0, .iaload, .ishl, .if_icmp .ge 5, .iload 6, .invokeinterface 251 1, .iload 2, .if_icmp .ne 4, .aload 0, .iload 6, .invokeinterface 252 2, .ifCond .eq 4, .iload 4, .iload 3, .if_icmp .ne 2, .iload 6, .goto 3],
  [.iload 5, .goto_w 3],
  [.istore 5, .iinc 4 1, .goto_w 4],
  [.iinc 6 1, .goto 1],
  [.iload 3, .ifCond .ge 6, .iload 4, .goto 7],
  [.iload 5, .goto_w 7],
  [.ireturn]]
-- 254 M.cuts (II)I
def zb_254 : List (List Instr) := [
  [.aload 0, .iload 1, .invokeinterface 174 2, .ifCond .ne 1, .aload 0, .iconst 1, .invokeinterface 163 2, .ireturn],
  [.iload 2, .iconst 1, .iconst 12, .invokeinterface 162 3, .ifCond .eq 2, .aload 0, .aload 0, .iload 1, .iload 2, .iconst (-1), .invokeinterface 253 4, .invokeinterface 164 2, .goto 3],
  [.aload 0, .iconst 2, .invokeinterface 163 2, .goto_w 3],
  [.ireturn]]
-- 255 M.cut (III)I
def zb_255 : List (List Instr) := [
  [.aload 0, .iload 1, .invokeinterface 174 2, .ifCond .ne 1, .aload 0, .iconst 1, .invokeinterface 163 2, .ireturn],
  [.iload 2, .iconst 1, .iconst 12, .invokeinterface 162 3, .ifCond .ne 2, .aload 0, .iconst 2, .invokeinterface 163 2, .ireturn],
  [.aload 0, .iload 3, .ifCond .ge 3, .iconst (-1), .goto 4],
  [.aload 0, .iload 1, .iload 2, .iload 3, .invokeinterface 253 4, .goto_w 4],
  [.invokeinterface 164 2, .ireturn]]
-- 256 M.available (I)D
def zb_256 : List (List Instr) := [
  [.jsr 0, .dstore 2, .iconst 0, .istore 4, .goto_w 1],
  [.iload 4, .iconst 1, .aload 0, .getfield 640, .iconst 0, .iaload, .ishl, .if_icmp .ge 9, .aload 0, .getfield 679, .iload 4, .baload, .ifCond .ne 8, .jsr 4607182418800017408, .dstore 5, .iconst 0, .istore 7, .goto_w 2],
  [.iload 7, .aload 0, .getfield 640, .iconst 0, .iaload, .if_icmp .ge 7, .iload 7, .iload 1, .if_icmp .ne 3, .iconst 1000, .goto 4],
  [.aload 0, .iload 7, .iconst 5, .invokeinterface 168 3, .goto_w 4],
  [.istore 8, .dload 5, .iload 4, .iload 7, .ishr, .iconst 1, .iand, .ifCond .ne 5, .iload 8, .i2d, .jsr 4652007308841189376, .ddiv, .goto 6],
  [.iconst 1000, .iload 8, .isub, .i2d, .jsr 4652007308841189376, .ddiv, .goto_w 6],
  [.dmul, .dstore 5, .iinc 7 1, .goto 2],
  [.dload 2, .dload 5, .dadd, .dstore 2, .goto_w 8],
  [.iinc 4 1, .goto 1],
  [.dload 2, .dreturn]]
-- 257 M.availability (I)I
def zb_257 : List (List Instr) := [
  [.aload 0, .iload 1, .invokeinterface 174 2, .ifCond .ne 1, .aload 0, .iconst 1, .invokeinterface 163 2, .ireturn],
  [.aload 0, .iload 1, .invokeinterface 250 2, .aload 0, .aload 0, .iconst (-1), .invokeinterface 256 2, .d2f, .invokeinterface 303 1, .invokeinterface 164 2, .ireturn]]
-- 258 M.weakest (I)I
def zb_258 : List (List Instr) := [
  [.aload 0, .iload 1, .invokeinterface 174 2, .ifCond .ne 1, .aload 0, .iconst 1, .invokeinterface 163 2, .ireturn],
  [.aload 0, .iload 1, .invokeinterface 250 2, .iconst (-1), .istore 2, .jsr 0, .dstore 3, .iconst 0, .istore 5, .goto_w 2],
  [.iload 5, .aload 0, .getfield 640, .iconst 0, .iaload, .if_icmp .ge 5, .aload 0, .iload 5, .invokeinterface 256 2, .dstore 6, .iload 2, .iconst (-1), .if_icmp .eq 3, .dload 6, .dload 3, .dcmp .l, .ifCond .le 4, .goto_w 3],
  [.iload 5, .istore 2, .dload 6, .dstore 3, .goto_w 4],
  [.iinc 5 1, .goto 2],
  [.aload 0, .iload 2, .invokeinterface 164 2, .ireturn]]
-- 259 M.append (I)I
def zb_259 : List (List Instr) := [
  [.iload 1, .iconst 0, .iconst 127, .invokeinterface 162 3, .ifCond .ne 1, .aload 0, .iconst 1, .invokeinterface 163 2, .ireturn],
  [.aload 0, .getfield 645, .iconst 120, .if_icmp .ne 2, .aload 0, .iconst 2, .invokeinterface 163 2, .ireturn],
  [.aload 0, .getfield 644, .aload 0, .getfield 645, .iload 1, .iastore, .aload 0, .dup, .getfield 645, .iconst 1, .iadd, .putfield 645, .aload 0, .aload 0, .getfield 645, .invokeinterface 164 2, .ireturn]]
-- 260 M.clearText ()I
def zb_260 : List (List Instr) := [
  [.aload 0, .getfield 645, .istore 1, .aload 0, .iconst 0, .putfield 645, .aload 0, .iload 1, .invokeinterface 164 2, .ireturn]]
-- 261 M.isAt (II)Z
def zb_261 : List (List Instr) := [
  [.aload 0, .getfield 680, .aload 0, .getfield 645, .if_icmp .ge 1, .aload 0, .getfield 644, .aload 0, .getfield 680, .iaload, .iload 1, .iload 2, .invokeinterface 162 3, .ifCond .eq 1, .iconst 1, .goto 2],
  [.iconst 0, .goto_w 2],
  [.ireturn]]
-- 262 M.numbersOf (I)I
def zb_262 : List (List Instr) := [
  [.iload 0, .lookupswitch 4 #[(97, 1), (98, 4), (99, 2), (100, 1), (101, 4), (102, 4), (103, 4), (104, 4), (105, 4), (106, 4), (107, 4), (108, 4), (109, 4), (110, 4), (111, 4), (112, 3), (113, 4), (114, 1), (115, 1)]],
  [.iconst 1, .ireturn],
  [.iconst 5, .ireturn],
  [.iconst 3, .ireturn],
  [.iconst 0, .ireturn]]
-- 263 M.isNumber (I)Z
def zb_263 : List (List Instr) := [
  [.aload 0, .getfield 680, .istore 2, .aload 0, .getfield 682, .iload 1, .iconst 0, .iastore, .goto_w 1],
  [.aload 0, .iconst 48, .iconst 57, .invokeinterface 261 3, .ifCond .eq 2, .aload 0, .getfield 680, .iload 2, .isub, .iconst 3, .if_icmp .ge 2, .aload 0, .getfield 682, .iload 1, .iconst 10, .aload 0, .getfield 682, .iload 1, .iaload, .imul, .aload 0, .getfield 644, .aload 0, .getfield 680, .iaload, .iadd, .iconst 48, .isub, .iastore, .aload 0, .dup, .getfield 680, .iconst 1, .iadd, .putfield 680, .goto 1],
  [.aload 0, .getfield 680, .iload 2, .if_icmp .le 3, .iconst 1, .goto 4],
  [.iconst 0, .goto_w 4],
  [.ireturn]]
-- 264 M.isCommand ()Z
def zb_264 : List (List Instr) := [
  [.aload 0, .aload 0, .getfield 644, .aload 0, .getfield 680, .iaload, .putfield 681, .aload 0, .getfield 681, .invokeinterface 262 1, .istore 1, .iload 1, .ifCond .ne 1, .iconst 0, .ireturn],
  [.aload 0, .dup, .getfield 680, .iconst 1, .iadd, .putfield 680, .iconst 0, .istore 2, .goto_w 2],
  [.iload 2, .iload 1, .if_icmp .ge 9, .aload 0, .iload 2, .invokeinterface 263 2, .ifCond .eq 7, .aload 0, .iload 2, .iload 1, .iconst 1, .isub, .if_icmp .ge 3, .iconst 44, .goto 4],
  [.iconst 59, .goto_w 4],
  [.iload 2, .iload 1, .iconst 1, .isub, .if_icmp .ge 5, .iconst 44, .goto 6],
  [.iconst 59, .goto_w 6],
  [.invokeinterface 261 3, .ifCond .ne 8, .goto_w 7],
  [.iconst 0, .ireturn],
  [.aload 0, .dup, .getfield 680, .iconst 1, .iadd, .putfield 680, .iinc 2 1, .goto 2],
  [.iconst 1, .ireturn]]
-- 265 M.does ()I
def zb_265 : List (List Instr) := [
  [.aload 0, .getfield 681, .lookupswitch 6 #[(97, 1), (99, 2), (100, 3), (114, 4), (115, 5)]],
  [.aload 0, .aload 0, .getfield 682, .iconst 0, .iaload, .invokeinterface 183 2, .ireturn],
  [.aload 0, .aload 0, .getfield 682, .iconst 0, .iaload, .aload 0, .getfield 682, .iconst 1, .iaload, .aload 0, .getfield 682, .iconst 2, .iaload, .aload 0, .getfield 682, .iconst 3, .iaload, .aload 0, .getfield 682, .iconst 4, .iaload, .invokeinterface 184 6, .ireturn],
  [.aload 0, .aload 0, .getfield 682, .iconst 0, .iaload, .invokeinterface 188 2, .ireturn],
  [.aload 0, .aload 0, .getfield 682, .iconst 0, .iaload, .invokeinterface 190 2, .ireturn],
  [.aload 0, .aload 0, .getfield 682, .iconst 0, .iaload, .invokeinterface 191 2, .ireturn],
  [.aload 0, .aload 0, .getfield 682, .iconst 0, .iaload, .aload 0, .getfield 682, .iconst 1, .iaload, .aload 0, .getfield 682, .iconst 2, .iaload, .invokeinterface 186 4, .ireturn]]
-- 266 M.execute ()I
def zb_266 : List (List Instr) := [
  [.aload 0, .iconst 0, .putfield 646, .aload 0, .iconst 0, .putfield 680, .goto_w 1],
  [.aload 0, .getfield 680, .aload 0, .getfield 645, .if_icmp .ge 2, .aload 0, .invokeinterface 264 1, .ifCond .ne 1, .iconst (-10), .aload 0, .getfield 680, .isub, .ireturn],
  [.aload 0, .invokeinterface 165 1, .aload 0, .iconst 0, .putfield 680, .iconst 0, .istore 1, .goto_w 3],
  [.aload 0, .getfield 680, .aload 0, .getfield 645, .if_icmp .ge 7, .aload 0, .invokeinterface 264 1, .ifCond .eq 4, .aload 0, .invokeinterface 265 1, .ifCond .ne 4, .iconst 1, .goto 5],
  [.iconst 0, .goto_w 5],
  [.istore 2, .iload 2, .ifCond .ne 6, .aload 0, .invokeinterface 166 1, .iconst (-1000), .iload 1, .isub, .ireturn],
  [.iinc 1 1, .goto 3],
  [.aload 0, .iload 1, .invokeinterface 167 2, .ireturn]]
-- 267 M.undo ()I
def zb_267 : List (List Instr) := [
  [.aload 0, .getfield 643, .ifCond .ne 1, .aload 0, .iconst 1, .invokeinterface 163 2, .ireturn],
  [.aload 0, .dup, .getfield 643, .iconst 1, .isub, .putfield 643, .iconst 0, .istore 1, .goto_w 2],
  [.iload 1, .iconst 230, .if_icmp .ge 3, .aload 0, .getfield 640, .iload 1, .aload 0, .getfield 641, .iconst 230, .aload 0, .getfield 643, .imul, .iload 1, .iadd, .iaload, .iastore, .iinc 1 1, .goto 2],
  [.aload 0, .aload 0, .getfield 643, .invokeinterface 164 2, .ireturn]]
-- 268 M.mix (I)V
def zb_268 : List (List Instr) := [
  [.aload 0, .jsr_w 31, .aload 0, .getfield 683, .lmul, .iload 1, .i2l, .ladd, .putfield 683, .return_]]
-- 269 M.digest ()J
def zb_269 : List (List Instr) := [
  [.aload 0, .iconst 0, .putfield 646, .aload 0, .jsr_w 1851, .putfield 683, .aload 0, .aload 0, .getfield 640, .iconst 0, .iaload, .invokeinterface 268 2, .aload 0, .invokeinterface 224 1, .iconst 0, .istore 1, .goto_w 1],
  [.iload 1, .aload 0, .getfield 640, .iconst 0, .iaload, .if_icmp .ge 4, .iconst 0, .istore 2, .goto_w 2],
  [.iload 2, .iconst 11, .if_icmp .ge 3, .aload 0, .aload 0, .iload 1, .iload 2, .invokeinterface 201 3, .invokeinterface 268 2, .iinc 2 1, .goto 2],
  [.aload 0, .aload 0, .getfield 675, .iload 1, .iaload, .invokeinterface 268 2, .iinc 1 1, .goto 1],
  [.aload 0, .aload 0, .getfield 640, .iconst 1, .iaload, .invokeinterface 268 2, .iconst 0, .istore 1, .goto_w 5],
  [.iload 1, .aload 0, .getfield 640, .iconst 1, .iaload, .if_icmp .ge 8, .iconst 0, .istore 2, .goto_w 6],
  [.iload 2, .iconst 6, .if_icmp .ge 7, .aload 0, .aload 0, .iload 1, .iload 2, .invokeinterface 203 3, .invokeinterface 268 2, .iinc 2 1, .goto 6],
  [.iinc 1 1, .goto 5],
  [.aload 0, .aload 0, .invokeinterface 226 1, .invokeinterface 268 2, .aload 0, .aload 0, .invokeinterface 229 1, .invokeinterface 268 2, .aload 0, .aload 0, .iconst 2, .invokeinterface 240 2, .invokeinterface 268 2, .aload 0, .aload 0, .invokeinterface 245 1, .invokeinterface 268 2, .aload 0, .aload 0, .getfield 645, .invokeinterface 268 2, .aload 0, .aload 0, .getfield 643, .invokeinterface 268 2, .aload 0, .getfield 683, .lreturn]]
-- 270 Law.addService (LServiceBudgets;I[J)I
def zb_270 : List (List Instr) := [
  [.aload 2, .iconst 0, .aload 0, .iload 1, .invokeinterface 116 2, .i2l, .lastore, .goto 3],
  [.astore 3, .iconst 1, .ireturn],
  [.astore 3, .iconst 2, .ireturn],
  [.iconst 0, .ireturn]]
-- 271 Law.addCall (LServiceBudgets;IIIII[J)I
def zb_271 : List (List Instr) := [
  [.aload 6, .iconst 0, .aload 0, .iload 1, .iload 2, .iload 3, .iload 4, .iload 5, .invokeinterface 117 6, .i2l, .lastore, .goto 4],
  [.astore 7, .iconst 1, .ireturn],
  [.astore 7, .iconst 2, .ireturn],
  [.astore 7, .iconst 3, .ireturn],
  [.iconst 0, .ireturn]]
-- 272 Law.removeCall (LServiceBudgets;I[J)I
def zb_272 : List (List Instr) := [
  [.aload 2, .iconst 0, .aload 0, .iload 1, .invokeinterface 118 2, .i2l, .lastore, .goto 3],
  [.astore 3, .iconst 1, .ireturn],
  [.astore 3, .iconst 2, .ireturn],
  [.iconst 0, .ireturn]]
-- 273 Law.set (LServiceBudgets;III[J)I
def zb_273 : List (List Instr) := [
  [.aload 4, .iconst 0, .aload 0, .iload 1, .iload 2, .iload 3, .invokeinterface 119 4, .i2l, .lastore, .goto 3],
  [.astore 5, .iconst 1, .ireturn],
  [.astore 5, .iconst 2, .ireturn],
  [.iconst 0, .ireturn]]
-- 274 Law.setLimit (LServiceBudgets;II[J)I
def zb_274 : List (List Instr) := [
  [.aload 3, .iconst 0, .aload 0, .iload 1, .iload 2, .invokeinterface 120 3, .i2l, .lastore, .goto 3],
  [.astore 4, .iconst 1, .ireturn],
  [.astore 4, .iconst 2, .ireturn],
  [.iconst 0, .ireturn]]
-- 275 Law.service (LServiceBudgets;II[J)I
def zb_275 : List (List Instr) := [
  [.aload 3, .iconst 0, .aload 0, .iload 1, .iload 2, .invokeinterface 123 3, .i2l, .lastore, .goto 3],
  [.astore 4, .iconst 1, .ireturn],
  [.astore 4, .iconst 2, .ireturn],
  [.iconst 0, .ireturn]]
-- 276 Law.call (LServiceBudgets;II[J)I
def zb_276 : List (List Instr) := [
  [.aload 3, .iconst 0, .aload 0, .iload 1, .iload 2, .invokeinterface 124 3, .i2l, .lastore, .goto 3],
  [.astore 4, .iconst 1, .ireturn],
  [.astore 4, .iconst 2, .ireturn],
  [.iconst 0, .ireturn]]
-- 277 Law.depends (LServiceBudgets;II[J)I
def zb_277 : List (List Instr) := [
  [.aload 3, .iconst 0, .aload 0, .iload 1, .iload 2, .invokeinterface 125 3, .ifCond .eq 1, .jsr_w 1, .goto 2],
  [.jsr_w 0, .goto_w 2],
  [.lastore, .goto 4],
  [.astore 4, .iconst 1, .ireturn],
  [.iconst 0, .ireturn]]
-- 278 Law.level (LServiceBudgets;I[J)I
def zb_278 : List (List Instr) := [
  [.aload 2, .iconst 0, .aload 0, .iload 1, .invokeinterface 127 2, .i2l, .lastore, .goto 2],
  [.astore 3, .iconst 1, .ireturn],
  [.iconst 0, .ireturn]]
-- 279 Law.request (LServiceBudgets;II[J)I
def zb_279 : List (List Instr) := [
  [.aload 3, .iconst 0, .aload 0, .iload 1, .iload 2, .invokeinterface 128 3, .ifCond .eq 1, .jsr_w 1, .goto 2],
  [.jsr_w 0, .goto_w 2],
  [.lastore, .goto 5],
  [.astore 4, .iconst 1, .ireturn],
  [.astore 4, .iconst 2, .ireturn],
  [.iconst 0, .ireturn]]
-- 280 Law.result (LServiceBudgets;I[J)I
def zb_280 : List (List Instr) := [
  [.aload 2, .iconst 0, .aload 0, .iload 1, .invokeinterface 129 2, .i2l, .lastore, .goto 3],
  [.astore 3, .iconst 1, .ireturn],
  [.astore 3, .iconst 2, .ireturn],
  [.iconst 0, .ireturn]]
-- 281 Law.failure (LServiceBudgets;II[J)I
def zb_281 : List (List Instr) := [
  [.aload 3, .iconst 0, .aload 0, .iload 1, .iload 2, .invokeinterface 130 3, .i2l, .lastore, .goto 2],
  [.astore 4, .iconst 1, .ireturn],
  [.iconst 0, .ireturn]]
-- 282 Law.attempt (LServiceBudgets;II[J)I
def zb_282 : List (List Instr) := [
  [.aload 3, .iconst 0, .aload 0, .iload 1, .iload 2, .invokeinterface 131 3, .i2l, .lastore, .goto 2],
  [.astore 4, .iconst 1, .ireturn],
  [.iconst 0, .ireturn]]
-- 283 Law.leastBudget (LServiceBudgets;I[J)I
def zb_283 : List (List Instr) := [
  [.aload 2, .iconst 0, .aload 0, .iload 1, .invokeinterface 132 2, .i2l, .lastore, .goto 2],
  [.astore 3, .iconst 1, .ireturn],
  [.iconst 0, .ireturn]]
-- 284 Law.worst (LServiceBudgets;I[J)I
def zb_284 : List (List Instr) := [
  [.aload 2, .iconst 0, .aload 0, .iload 1, .invokeinterface 133 2, .i2l, .lastore, .goto 2],
  [.astore 3, .iconst 1, .ireturn],
  [.iconst 0, .ireturn]]
-- 285 Law.fail (LServiceBudgets;I[J)I
def zb_285 : List (List Instr) := [
  [.aload 2, .iconst 0, .aload 0, .iload 1, .invokeinterface 136 2, .i2l, .lastore, .goto 3],
  [.astore 3, .iconst 1, .ireturn],
  [.astore 3, .iconst 2, .ireturn],
  [.iconst 0, .ireturn]]
-- 286 Law.repair (LServiceBudgets;I[J)I
def zb_286 : List (List Instr) := [
  [.aload 2, .iconst 0, .aload 0, .iload 1, .invokeinterface 137 2, .i2l, .lastore, .goto 3],
  [.astore 3, .iconst 1, .ireturn],
  [.astore 3, .iconst 2, .ireturn],
  [.iconst 0, .ireturn]]
-- 287 Law.steps (LServiceBudgets;I[J)I
def zb_287 : List (List Instr) := [
  [.aload 2, .iconst 0, .aload 0, .iload 1, .invokeinterface 138 2, .i2l, .lastore, .goto 2],
  [.astore 3, .iconst 1, .ireturn],
  [.iconst 0, .ireturn]]
-- 288 Law.spread (LServiceBudgets;I[J)I
def zb_288 : List (List Instr) := [
  [.aload 2, .iconst 0, .aload 0, .iload 1, .invokeinterface 140 2, .i2l, .lastore, .goto 3],
  [.astore 3, .iconst 1, .ireturn],
  [.astore 3, .iconst 2, .ireturn],
  [.iconst 0, .ireturn]]
-- 289 Law.calm (LServiceBudgets;I[J)I
def zb_289 : List (List Instr) := [
  [.aload 2, .iconst 0, .aload 0, .iload 1, .invokeinterface 141 2, .i2l, .lastore, .goto 3],
  [.astore 3, .iconst 1, .ireturn],
  [.astore 3, .iconst 2, .ireturn],
  [.iconst 0, .ireturn]]
-- 290 Law.recoveryTime (LServiceBudgets;I[J)I
def zb_290 : List (List Instr) := [
  [.aload 2, .iconst 0, .aload 0, .iload 1, .invokeinterface 142 2, .i2l, .lastore, .goto 2],
  [.astore 3, .iconst 1, .ireturn],
  [.iconst 0, .ireturn]]
-- 291 Law.recoveryStart (LServiceBudgets;II[J)I
def zb_291 : List (List Instr) := [
  [.aload 3, .iconst 0, .aload 0, .iload 1, .iload 2, .invokeinterface 143 3, .i2l, .lastore, .goto 3],
  [.astore 4, .iconst 1, .ireturn],
  [.astore 4, .iconst 2, .ireturn],
  [.iconst 0, .ireturn]]
-- 292 Law.failsBy (LServiceBudgets;II[J)I
def zb_292 : List (List Instr) := [
  [.aload 3, .iconst 0, .aload 0, .iload 1, .iload 2, .invokeinterface 146 3, .ifCond .eq 1, .jsr_w 1, .goto 2],
  [.jsr_w 0, .goto_w 2],
  [.lastore, .goto 5],
  [.astore 4, .iconst 1, .ireturn],
  [.astore 4, .iconst 2, .ireturn],
  [.iconst 0, .ireturn]]
-- 293 Law.cuts (LServiceBudgets;II[J)I
def zb_293 : List (List Instr) := [
  [.aload 3, .iconst 0, .aload 0, .iload 1, .iload 2, .invokeinterface 147 3, .i2l, .lastore, .goto 3],
  [.astore 4, .iconst 1, .ireturn],
  [.astore 4, .iconst 2, .ireturn],
  [.iconst 0, .ireturn]]
-- 294 Law.cut (LServiceBudgets;III[J)I
def zb_294 : List (List Instr) := [
  [.aload 4, .iconst 0, .aload 0, .iload 1, .iload 2, .iload 3, .invokeinterface 148 4, .i2l, .lastore, .goto 3],
  [.astore 5, .iconst 1, .ireturn],
  [.astore 5, .iconst 2, .ireturn],
  [.iconst 0, .ireturn]]
-- 295 Law.availability (LServiceBudgets;I[J)I
def zb_295 : List (List Instr) := [
  [.aload 2, .iconst 0, .aload 0, .iload 1, .invokeinterface 149 2, .i2l, .lastore, .goto 2],
  [.astore 3, .iconst 1, .ireturn],
  [.iconst 0, .ireturn]]
-- 296 Law.weakest (LServiceBudgets;I[J)I
def zb_296 : List (List Instr) := [
  [.aload 2, .iconst 0, .aload 0, .iload 1, .invokeinterface 150 2, .i2l, .lastore, .goto 2],
  [.astore 3, .iconst 1, .ireturn],
  [.iconst 0, .ireturn]]
-- 297 Law.append (LServiceBudgets;I[J)I
def zb_297 : List (List Instr) := [
  [.aload 2, .iconst 0, .aload 0, .iload 1, .invokeinterface 151 2, .i2l, .lastore, .goto 3],
  [.astore 3, .iconst 1, .ireturn],
  [.astore 3, .iconst 2, .ireturn],
  [.iconst 0, .ireturn]]
-- 298 Law.undo (LServiceBudgets;[J)I
def zb_298 : List (List Instr) := [
  [.aload 1, .iconst 0, .aload 0, .invokeinterface 154 1, .i2l, .lastore, .goto 2],
  [.astore 2, .iconst 1, .ireturn],
  [.iconst 0, .ireturn]]
-- 299 Law.law ([I)Z
def zb_299 : List (List Instr) := [
  [.new 9, .dup, .invokeinterface 115 1, .astore 1, .new 10, .dup, .invokeinterface 160 1, .astore 2, .iconst 1, .newarray .long, .astore 3, .iconst 0, .istore 4, .goto_w 1],
  [.iload 4, .aload 0, .arraylength, .iconst 6, .isub, .if_icmp .gt 107, .aload 0, .iload 4, .iaload, .iconst 63, .iand, .lookupswitch 106 #[(0, 2), (1, 5), (2, 8), (3, 11), (4, 14), (5, 17), (6, 18), (7, 19), (8, 22), (9, 25), (10, 30), (11, 31), (12, 34), (13, 39), (14, 42), (15, 45), (16, 48), (17, 51), (18, 54), (19, 55), (20, 56), (21, 59), (22, 62), (23, 65), (24, 66), (25, 69), (26, 72), (27, 75), (28, 78), (29, 79), (30, 80), (31, 85), (32, 88), (33, 91), (34, 94), (35, 97), (36, 100), (37, 101), (38, 102), (39, 105)]],
  [.aload 1, .aload 0, .iload 4, .iconst 1, .iadd, .iaload, .aload 3, .invokeinterface 270 3, .istore 5, .aload 2, .aload 0, .iload 4, .iconst 1, .iadd, .iaload, .invokeinterface 193 2, .istore 6, .aload 2, .invokeinterface 161 1, .iload 5, .if_icmp .eq 3, .iconst 0, .ireturn],
  [.iload 5, .ifCond .ne 4, .aload 3, .iconst 0, .laload, .iload 6, .i2l, .lcmp, .ifCond .eq 4, .iconst 0, .ireturn],
  [.goto 106],
  [.aload 1, .aload 0, .iload 4, .iconst 1, .iadd, .iaload, .aload 0, .iload 4, .iconst 2, .iadd, .iaload, .aload 0, .iload 4, .iconst 3, .iadd, .iaload, .aload 0, .iload 4, .iconst 4, .iadd, .iaload, .aload 0, .iload 4, .iconst 5, .iadd, .iaload, .aload 3, .invokeinterface 271 7, .istore 5, .aload 2, .aload 0, .iload 4, .iconst 1, .iadd, .iaload, .aload 0, .iload 4, .iconst 2, .iadd, .iaload, .aload 0, .iload 4, .iconst 3, .iadd, .iaload, .aload 0, .iload 4, .iconst 4, .iadd, .iaload, .aload 0, .iload 4, .iconst 5, .iadd, .iaload, .invokeinterface 194 6, .istore 6, .aload 2, .invokeinterface 161 1, .iload 5, .if_icmp .eq 6, .iconst 0, .ireturn],
  [.iload 5, .ifCond .ne 7, .aload 3, .iconst 0, .laload, .iload 6, .i2l, .lcmp, .ifCond .eq 7, .iconst 0, .ireturn],
  [.goto 106],
  [.aload 1, .aload 0, .iload 4, .iconst 1, .iadd, .iaload, .aload 3, .invokeinterface 272 3, .istore 5, .aload 2, .aload 0, .iload 4, .iconst 1, .iadd, .iaload, .invokeinterface 196 2, .istore 6, .aload 2, .invokeinterface 161 1, .iload 5, .if_icmp .eq 9, .iconst 0, .ireturn],
  [.iload 5, .ifCond .ne 10, .aload 3, .iconst 0, .laload, .iload 6, .i2l, .lcmp, .ifCond .eq 10, .iconst 0, .ireturn],
  [.goto 106],
  [.aload 1, .aload 0, .iload 4, .iconst 1, .iadd, .iaload, .aload 0, .iload 4, .iconst 2, .iadd, .iaload, .aload 0, .iload 4, .iconst 3, .iadd, .iaload, .aload 3, .invokeinterface 273 5, .istore 5, .aload 2, .aload 0, .iload 4, .iconst 1, .iadd, .iaload, .aload 0, .iload 4, .iconst 2, .iadd, .iaload, .aload 0, .iload 4, .iconst 3, .iadd, .iaload, .invokeinterface 197 4, .istore 6, .aload 2, .invokeinterface 161 1, .iload 5, .if_icmp .eq 12, .iconst 0, .ireturn],
  [.iload 5, .ifCond .ne 13, .aload 3, .iconst 0, .laload, .iload 6, .i2l, .lcmp, .ifCond .eq 13, .iconst 0, .ireturn],
  [.goto 106],
  [.aload 1, .aload 0, .iload 4, .iconst 1, .iadd, .iaload, .aload 0, .iload 4, .iconst 2, .iadd, .iaload, .aload 3, .invokeinterface 274 4, .istore 5, .aload 2, .aload 0, .iload 4, .iconst 1, .iadd, .iaload, .aload 0, .iload 4, .iconst 2, .iadd, .iaload, .invokeinterface 198 3, .istore 6, .aload 2, .invokeinterface 161 1, .iload 5, .if_icmp .eq 15, .iconst 0, .ireturn],
  [.iload 5, .ifCond .ne 16, .aload 3, .iconst 0, .laload, .iload 6, .i2l, .lcmp, .ifCond .eq 16, .iconst 0, .ireturn],
  [.goto 106],
  [.aload 1, .invokeinterface 121 1, .aload 2, .invokeinterface 199 1, .if_icmp .eq 106, .iconst 0, .ireturn],
  [.aload 1, .invokeinterface 122 1, .aload 2, .invokeinterface 200 1, .if_icmp .eq 106, .iconst 0, .ireturn],
  [.aload 1, .aload 0, .iload 4, .iconst 1, .iadd, .iaload, .aload 0, .iload 4, .iconst 2, .iadd, .iaload, .aload 3, .invokeinterface 275 4, .istore 5, .aload 2, .aload 0, .iload 4, .iconst 1, .iadd, .iaload, .aload 0, .iload 4, .iconst 2, .iadd, .iaload, .invokeinterface 202 3, .istore 6, .aload 2, .invokeinterface 161 1, .iload 5, .if_icmp .eq 20, .iconst 0, .ireturn],
  [.iload 5, .ifCond .ne 21, .aload 3, .iconst 0, .laload, .iload 6, .i2l, .lcmp, .ifCond .eq 21, .iconst 0, .ireturn],
  [.goto 106],
  [.aload 1, .aload 0, .iload 4, .iconst 1, .iadd, .iaload, .aload 0, .iload 4, .iconst 2, .iadd, .iaload, .aload 3, .invokeinterface 276 4, .istore 5, .aload 2, .aload 0, .iload 4, .iconst 1, .iadd, .iaload, .aload 0, .iload 4, .iconst 2, .iadd, .iaload, .invokeinterface 204 3, .istore 6, .aload 2, .invokeinterface 161 1, .iload 5, .if_icmp .eq 23, .iconst 0, .ireturn],
  [.iload 5, .ifCond .ne 24, .aload 3, .iconst 0, .laload, .iload 6, .i2l, .lcmp, .ifCond .eq 24, .iconst 0, .ireturn],
  [.goto 106],
  [.aload 1, .aload 0, .iload 4, .iconst 1, .iadd, .iaload, .aload 0, .iload 4, .iconst 2, .iadd, .iaload, .aload 3, .invokeinterface 277 4, .istore 5, .aload 2, .aload 0, .iload 4, .iconst 1, .iadd, .iaload, .aload 0, .iload 4, .iconst 2, .iadd, .iaload, .invokeinterface 205 3, .istore 6, .aload 2, .invokeinterface 161 1, .iload 5, .if_icmp .eq 26, .iconst 0, .ireturn],
  [.iload 5, .ifCond .ne 29, .aload 3, .iconst 0, .laload, .iload 6, .ifCond .eq 27, .jsr_w 1, .goto 28],
  [.jsr_w 0, .goto_w 28],
  [.lcmp, .ifCond .eq 29, .iconst 0, .ireturn],
  [.goto 106],
  [.aload 1, .aload 0, .iload 4, .iconst 1, .iadd, .iaload, .invokeinterface 126 2, .aload 2, .aload 0, .iload 4, .iconst 1, .iadd, .iaload, .invokeinterface 206 2, .if_icmp .eq 106, .iconst 0, .ireturn],
  [.aload 1, .aload 0, .iload 4, .iconst 1, .iadd, .iaload, .aload 3, .invokeinterface 278 3, .istore 5, .aload 2, .aload 0, .iload 4, .iconst 1, .iadd, .iaload, .invokeinterface 208 2, .istore 6, .aload 2, .invokeinterface 161 1, .iload 5, .if_icmp .eq 32, .iconst 0, .ireturn],
  [.iload 5, .ifCond .ne 33, .aload 3, .iconst 0, .laload, .iload 6, .i2l, .lcmp, .ifCond .eq 33, .iconst 0, .ireturn],
  [.goto 106],
  [.aload 1, .aload 0, .iload 4, .iconst 1, .iadd, .iaload, .aload 0, .iload 4, .iconst 2, .iadd, .iaload, .aload 3, .invokeinterface 279 4, .istore 5, .aload 2, .aload 0, .iload 4, .iconst 1, .iadd, .iaload, .aload 0, .iload 4, .iconst 2, .iadd, .iaload, .invokeinterface 218 3, .istore 6, .aload 2, .invokeinterface 161 1, .iload 5, .if_icmp .eq 35, .iconst 0, .ireturn],
  [.iload 5, .ifCond .ne 38, .aload 3, .iconst 0, .laload, .iload 6, .ifCond .eq 36, .jsr_w 1, .goto 37],
  [.jsr_w 0, .goto_w 37],
  [.lcmp, .ifCond .eq 38, .iconst 0, .ireturn],
  [.goto 106],
  [.aload 1, .aload 0, .iload 4, .iconst 1, .iadd, .iaload, .aload 3, .invokeinterface 280 3, .istore 5, .aload 2, .aload 0, .iload 4, .iconst 1, .iadd, .iaload, .invokeinterface 219 2, .istore 6, .aload 2, .invokeinterface 161 1, .iload 5, .if_icmp .eq 40, .iconst 0, .ireturn],
  [.iload 5, .ifCond .ne 41, .aload 3, .iconst 0, .laload, .iload 6, .i2l, .lcmp, .ifCond .eq 41, .iconst 0, .ireturn],
  [.goto 106],
  [.aload 1, .aload 0, .iload 4, .iconst 1, .iadd, .iaload, .aload 0, .iload 4, .iconst 2, .iadd, .iaload, .aload 3, .invokeinterface 281 4, .istore 5, .aload 2, .aload 0, .iload 4, .iconst 1, .iadd, .iaload, .aload 0, .iload 4, .iconst 2, .iadd, .iaload, .invokeinterface 220 3, .istore 6, .aload 2, .invokeinterface 161 1, .iload 5, .if_icmp .eq 43, .iconst 0, .ireturn],
  [.iload 5, .ifCond .ne 44, .aload 3, .iconst 0, .laload, .iload 6, .i2l, .lcmp, .ifCond .eq 44, .iconst 0, .ireturn],
  [.goto 106],
  [.aload 1, .aload 0, .iload 4, .iconst 1, .iadd, .iaload, .aload 0, .iload 4, .iconst 2, .iadd, .iaload, .aload 3, .invokeinterface 282 4, .istore 5, .aload 2, .aload 0, .iload 4, .iconst 1, .iadd, .iaload, .aload 0, .iload 4, .iconst 2, .iadd, .iaload, .invokeinterface 221 3, .istore 6, .aload 2, .invokeinterface 161 1, .iload 5, .if_icmp .eq 46, .iconst 0, .ireturn],
  [.iload 5, .ifCond .ne 47, .aload 3, .iconst 0, .laload, .iload 6, .i2l, .lcmp, .ifCond .eq 47, .iconst 0, .ireturn],
  [.goto 106],
  [.aload 1, .aload 0, .iload 4, .iconst 1, .iadd, .iaload, .aload 3, .invokeinterface 283 3, .istore 5, .aload 2, .aload 0, .iload 4, .iconst 1, .iadd, .iaload, .invokeinterface 222 2, .istore 6, .aload 2, .invokeinterface 161 1, .iload 5, .if_icmp .eq 49, .iconst 0, .ireturn],
  [.iload 5, .ifCond .ne 50, .aload 3, .iconst 0, .laload, .iload 6, .i2l, .lcmp, .ifCond .eq 50, .iconst 0, .ireturn],
  [.goto 106],
  [.aload 1, .aload 0, .iload 4, .iconst 1, .iadd, .iaload, .aload 3, .invokeinterface 284 3, .istore 5, .aload 2, .aload 0, .iload 4, .iconst 1, .iadd, .iaload, .invokeinterface 225 2, .istore 6, .aload 2, .invokeinterface 161 1, .iload 5, .if_icmp .eq 52, .iconst 0, .ireturn],
  [.iload 5, .ifCond .ne 53, .aload 3, .iconst 0, .laload, .iload 6, .i2l, .lcmp, .ifCond .eq 53, .iconst 0, .ireturn],
  [.goto 106],
  [.aload 1, .invokeinterface 134 1, .aload 2, .invokeinterface 227 1, .if_icmp .eq 106, .iconst 0, .ireturn],
  [.aload 1, .invokeinterface 135 1, .aload 2, .invokeinterface 228 1, .if_icmp .eq 106, .iconst 0, .ireturn],
  [.aload 1, .aload 0, .iload 4, .iconst 1, .iadd, .iaload, .aload 3, .invokeinterface 285 3, .istore 5, .aload 2, .aload 0, .iload 4, .iconst 1, .iadd, .iaload, .invokeinterface 232 2, .istore 6, .aload 2, .invokeinterface 161 1, .iload 5, .if_icmp .eq 57, .iconst 0, .ireturn],
  [.iload 5, .ifCond .ne 58, .aload 3, .iconst 0, .laload, .iload 6, .i2l, .lcmp, .ifCond .eq 58, .iconst 0, .ireturn],
  [.goto 106],
  [.aload 1, .aload 0, .iload 4, .iconst 1, .iadd, .iaload, .aload 3, .invokeinterface 286 3, .istore 5, .aload 2, .aload 0, .iload 4, .iconst 1, .iadd, .iaload, .invokeinterface 233 2, .istore 6, .aload 2, .invokeinterface 161 1, .iload 5, .if_icmp .eq 60, .iconst 0, .ireturn],
  [.iload 5, .ifCond .ne 61, .aload 3, .iconst 0, .laload, .iload 6, .i2l, .lcmp, .ifCond .eq 61, .iconst 0, .ireturn],
  [.goto 106],
  [.aload 1, .aload 0, .iload 4, .iconst 1, .iadd, .iaload, .aload 3, .invokeinterface 287 3, .istore 5, .aload 2, .aload 0, .iload 4, .iconst 1, .iadd, .iaload, .invokeinterface 234 2, .istore 6, .aload 2, .invokeinterface 161 1, .iload 5, .if_icmp .eq 63, .iconst 0, .ireturn],
  [.iload 5, .ifCond .ne 64, .aload 3, .iconst 0, .laload, .iload 6, .i2l, .lcmp, .ifCond .eq 64, .iconst 0, .ireturn],
  [.goto 106],
  [.aload 1, .invokeinterface 139 1, .aload 2, .invokeinterface 235 1, .if_icmp .eq 106, .iconst 0, .ireturn],
  [.aload 1, .aload 0, .iload 4, .iconst 1, .iadd, .iaload, .aload 3, .invokeinterface 288 3, .istore 5, .aload 2, .aload 0, .iload 4, .iconst 1, .iadd, .iaload, .invokeinterface 237 2, .istore 6, .aload 2, .invokeinterface 161 1, .iload 5, .if_icmp .eq 67, .iconst 0, .ireturn],
  [.iload 5, .ifCond .ne 68, .aload 3, .iconst 0, .laload, .iload 6, .i2l, .lcmp, .ifCond .eq 68, .iconst 0, .ireturn],
  [.goto 106],
  [.aload 1, .aload 0, .iload 4, .iconst 1, .iadd, .iaload, .aload 3, .invokeinterface 289 3, .istore 5, .aload 2, .aload 0, .iload 4, .iconst 1, .iadd, .iaload, .invokeinterface 238 2, .istore 6, .aload 2, .invokeinterface 161 1, .iload 5, .if_icmp .eq 70, .iconst 0, .ireturn],
  [.iload 5, .ifCond .ne 71, .aload 3, .iconst 0, .laload, .iload 6, .i2l, .lcmp, .ifCond .eq 71, .iconst 0, .ireturn],
  [.goto 106],
  [.aload 1, .aload 0, .iload 4, .iconst 1, .iadd, .iaload, .aload 3, .invokeinterface 290 3, .istore 5, .aload 2, .aload 0, .iload 4, .iconst 1, .iadd, .iaload, .invokeinterface 241 2, .istore 6, .aload 2, .invokeinterface 161 1, .iload 5, .if_icmp .eq 73, .iconst 0, .ireturn],
  [.iload 5, .ifCond .ne 74, .aload 3, .iconst 0, .laload, .iload 6, .i2l, .lcmp, .ifCond .eq 74, .iconst 0, .ireturn],
  [.goto 106],
  [.aload 1, .aload 0, .iload 4, .iconst 1, .iadd, .iaload, .aload 0, .iload 4, .iconst 2, .iadd, .iaload, .aload 3, .invokeinterface 291 4, .istore 5, .aload 2, .aload 0, .iload 4, .iconst 1, .iadd, .iaload, .aload 0, .iload 4, .iconst 2, .iadd, .iaload, .invokeinterface 242 3, .istore 6, .aload 2, .invokeinterface 161 1, .iload 5, .if_icmp .eq 76, .iconst 0, .ireturn],
  [.iload 5, .ifCond .ne 77, .aload 3, .iconst 0, .laload, .iload 6, .i2l, .lcmp, .ifCond .eq 77, .iconst 0, .ireturn],
  [.goto 106],
  [.aload 1, .invokeinterface 144 1, .aload 2, .invokeinterface 246 1, .if_icmp .eq 106, .iconst 0, .ireturn],
  [.aload 1, .aload 0, .iload 4, .iconst 1, .iadd, .iaload, .invokeinterface 145 2, .aload 2, .aload 0, .iload 4, .iconst 1, .iadd, .iaload, .invokeinterface 247 2, .if_icmp .eq 106, .iconst 0, .ireturn],
  [.aload 1, .aload 0, .iload 4, .iconst 1, .iadd, .iaload, .aload 0, .iload 4, .iconst 2, .iadd, .iaload, .aload 3, .invokeinterface 292 4, .istore 5, .aload 2, .aload 0, .iload 4, .iconst 1, .iadd, .iaload, .aload 0, .iload 4, .iconst 2, .iadd, .iaload, .invokeinterface 249 3, .istore 6, .aload 2, .invokeinterface 161 1, .iload 5, .if_icmp .eq 81, .iconst 0, .ireturn],
  [.iload 5, .ifCond .ne 84, .aload 3, .iconst 0, .laload, .iload 6, .ifCond .eq 82, .jsr_w 1, .goto 83],
  [.jsr_w 0, .goto_w 83],
  [.lcmp, .ifCond .eq 84, .iconst 0, .ireturn],
  [.goto 106],
  [.aload 1, .aload 0, .iload 4, .iconst 1, .iadd, .iaload, .aload 0, .iload 4, .iconst 2, .iadd, .iaload, .aload 3, .invokeinterface 293 4, .istore 5, .aload 2, .aload 0, .iload 4, .iconst 1, .iadd, .iaload, .aload 0, .iload 4, .iconst 2, .iadd, .iaload, .invokeinterface 254 3, .istore 6, .aload 2, .invokeinterface 161 1, .iload 5, .if_icmp .eq 86, .iconst 0, .ireturn],
  [.iload 5, .ifCond .ne 87, .aload 3, .iconst 0, .laload, .iload 6, .i2l, .lcmp, .ifCond .eq 87, .iconst 0, .ireturn],
  [.goto 106],
  [.aload 1, .aload 0, .iload 4, .iconst 1, .iadd, .iaload, .aload 0, .iload 4, .iconst 2, .iadd, .iaload, .aload 0, .iload 4, .iconst 3, .iadd, .iaload, .aload 3, .invokeinterface 294 5, .istore 5, .aload 2, .aload 0, .iload 4, .iconst 1, .iadd, .iaload, .aload 0, .iload 4, .iconst 2, .iadd, .iaload, .aload 0, .iload 4, .iconst 3, .iadd, .iaload, .invokeinterface 255 4, .istore 6, .aload 2, .invokeinterface 161 1, .iload 5, .if_icmp .eq 89, .iconst 0, .ireturn],
  [.iload 5, .ifCond .ne 90, .aload 3, .iconst 0, .laload, .iload 6, .i2l, .lcmp, .ifCond .eq 90, .iconst 0, .ireturn],
  [.goto 106],
  [.aload 1, .aload 0, .iload 4, .iconst 1, .iadd, .iaload, .aload 3, .invokeinterface 295 3, .istore 5, .aload 2, .aload 0, .iload 4, .iconst 1, .iadd, .iaload, .invokeinterface 257 2, .istore 6, .aload 2, .invokeinterface 161 1, .iload 5, .if_icmp .eq 92, .iconst 0, .ireturn],
  [.iload 5, .ifCond .ne 93, .aload 3, .iconst 0, .laload, .iload 6, .i2l, .lcmp, .ifCond .eq 93, .iconst 0, .ireturn],
  [.goto 106],
  [.aload 1, .aload 0, .iload 4, .iconst 1, .iadd, .iaload, .aload 3, .invokeinterface 296 3, .istore 5, .aload 2, .aload 0, .iload 4, .iconst 1, .iadd, .iaload, .invokeinterface 258 2, .istore 6, .aload 2, .invokeinterface 161 1, .iload 5, .if_icmp .eq 95, .iconst 0, .ireturn],
  [.iload 5, .ifCond .ne 96, .aload 3, .iconst 0, .laload, .iload 6, .i2l, .lcmp, .ifCond .eq 96, .iconst 0, .ireturn],
  [.goto 106],
  [.aload 1, .aload 0, .iload 4, .iconst 1, .iadd, .iaload, .aload 3, .invokeinterface 297 3, .istore 5, .aload 2, .aload 0, .iload 4, .iconst 1, .iadd, .iaload, .invokeinterface 259 2, .istore 6, .aload 2, .invokeinterface 161 1, .iload 5, .if_icmp .eq 98, .iconst 0, .ireturn],
  [.iload 5, .ifCond .ne 99, .aload 3, .iconst 0, .laload, .iload 6, .i2l, .lcmp, .ifCond .eq 99, .iconst 0, .ireturn],
  [.goto 106],
  [.aload 1, .invokeinterface 152 1, .aload 2, .invokeinterface 260 1, .if_icmp .eq 106, .iconst 0, .ireturn],
  [.aload 1, .invokeinterface 153 1, .aload 2, .invokeinterface 266 1, .if_icmp .eq 106, .iconst 0, .ireturn],
  [.aload 1, .aload 3, .invokeinterface 298 2, .istore 5, .aload 2, .invokeinterface 267 1, .istore 6, .aload 2, .invokeinterface 161 1, .iload 5, .if_icmp .eq 103, .iconst 0, .ireturn],
  [.iload 5, .ifCond .ne 104, .aload 3, .iconst 0, .laload, .iload 6, .i2l, .lcmp, .ifCond .eq 104, .iconst 0, .ireturn],
  [.goto 106],
  [.aload 1, .invokeinterface 155 1, .aload 2, .invokeinterface 269 1, .lcmp, .ifCond .eq 106, .iconst 0, .ireturn],
  [.iinc 4 6, .goto 1],
  [.iconst 1, .ireturn]]
-- 300 Math.max (II)I
def zb_300 : List (List Instr) := [
  [.iload 0, .iload 1, .if_icmp .lt 1, .iload 0, .goto 2],
  [.iload 1, .goto_w 2],
  [.ireturn]]
-- 301 Math.min (II)I
def zb_301 : List (List Instr) := [
  [.iload 0, .iload 1, .if_icmp .gt 1, .iload 0, .goto 2],
  [.iload 1, .goto_w 2],
  [.ireturn]]
-- 302 Integer.bitCount (I)I
def zb_302 : List (List Instr) := [
  [.iload 0, .iload 0, .iconst 1, .iushr, .iconst 1431655765, .iand, .isub, .istore 0, .iload 0, .iconst 858993459, .iand, .iload 0, .iconst 2, .iushr, .iconst 858993459, .iand, .iadd, .istore 0, .iload 0, .iload 0, .iconst 4, .iushr, .iadd, .iconst 252645135, .iand, .istore 0, .iload 0, .iload 0, .iconst 8, .iushr, .iadd, .istore 0, .iload 0, .iload 0, .iconst 16, .iushr, .iadd, .istore 0, .iload 0, .iconst 63, .iand, .ireturn]]
-- 303 Float.floatToIntBits (F)I
def zb_303 : List (List Instr) := [
  [.fload 0, .invokeinterface 304 1, .ifCond .ne 1, .fload 0, .f2i, .ireturn],
  [.iconst 2143289344, .ireturn]]
-- 304 Float.isNaN (F)Z
def zb_304 : List (List Instr) := [
  [.fload 0, .fload 0, .fcmp .l, .ifCond .eq 1, .iconst 1, .goto 2],
  [.iconst 0, .goto_w 2],
  [.ireturn]]
-- 305 Serving.serve0 (LServiceBudgets$State;IIII)I
def zb_305 : List (List Instr) := [
  [.aload 1, .iload 2, .invokeinterface 91 2, .ifCond .ne 1, .aload 0, .iload 2, .iconst 1, .iload 3, .iload 4, .invokevirtual 1, .iconst 0, .invokeinterface 59 1, .ireturn],
  [.aload 1, .iload 2, .invokeinterface 81 2, .istore 6, .iload 6, .iload 4, .if_icmp .le 2, .aload 0, .iload 2, .iconst 2, .iload 3, .iload 4, .iadd, .iload 4, .invokevirtual 1, .iload 4, .invokeinterface 59 1, .ireturn],
  [.iconst 0, .istore 7, .goto_w 3],
  [.iload 7, .aload 1, .getfield 449, .if_icmp .ge 7, .aload 1, .iload 7, .iload 2, .invokeinterface 84 3, .ifCond .ne 4, .goto 6],
  [.aload 0, .aload 1, .iload 7, .iload 3, .iload 4, .iload 6, .iload 5, .invokeinterface 63 7, .istore 8, .iload 8, .invokeinterface 61 1, .istore 6, .iload 8, .invokeinterface 60 1, .ifCond .ne 5, .aload 1, .iload 7, .invokeinterface 86 2, .ifCond .eq 5, .aload 0, .iload 2, .iconst 4, .iload 3, .iload 6, .iadd, .iload 4, .invokevirtual 1, .iload 6, .invokeinterface 59 1, .ireturn],
  [.iload 8, .invokeinterface 60 1, .ifCond .ne 6, .aload 0, .invokevirtual 2, .goto_w 6],
  [.iinc 7 1, .goto 3],
  [.iload 6, .invokeinterface 58 1, .ireturn]]
-- 306 Serving.serve5 (LServiceBudgets$State;IIII)I
def zb_306 : List (List Instr) := [
  [.aload 1, .iload 2, .invokeinterface 91 2, .ifCond .ne 1, .aload 0, .iload 2, .iconst 1, .iload 3, .iload 4, .invokevirtual 1, .iconst 0, .invokeinterface 59 1, .ireturn],
  [.aload 1, .iload 2, .invokeinterface 81 2, .istore 6, .iload 6, .iload 4, .if_icmp .le 2, .aload 0, .iload 2, .iconst 2, .iload 3, .iload 4, .iadd, .iload 4, .invokevirtual 1, .iload 4, .invokeinterface 59 1, .ireturn],
  [.iconst 0, .istore 7, .goto_w 3],
  [.iload 7, .aload 1, .getfield 449, .if_icmp .ge 7, .aload 1, .iload 7, .iload 2, .invokeinterface 84 3, .ifCond .ne 4, .goto 6],
  [.aload 0, .aload 1, .iload 7, .iload 3, .iload 4, .iload 6, .iload 5, .invokeinterface 63 7, .istore 8, .iload 8, .invokeinterface 61 1, .istore 6, .iload 8, .invokeinterface 60 1, .ifCond .ne 5, .aload 1, .iload 7, .invokeinterface 86 2, .ifCond .eq 5, .aload 0, .iload 2, .iconst 4, .iload 3, .iload 6, .iadd, .iload 4, .invokevirtual 1, .iload 6, .invokeinterface 59 1, .ireturn],
  [.iload 8, .invokeinterface 60 1, .ifCond .ne 6, .aload 0, .invokevirtual 2, .goto_w 6],
  [.iinc 7 1, .goto 3],
  [.iload 6, .invokeinterface 58 1, .ireturn]]
def zTab : List (List (List Instr)) := [zb_0, zb_1, zb_2, zb_3, zb_4, zb_5, zb_6, zb_7, zb_8, zb_9, zb_10, zb_11, zb_12, zb_13, zb_14, zb_15, zb_16, zb_17, zb_18, zb_19, zb_20, zb_21, zb_22, zb_23, zb_24, zb_25, zb_26, zb_27, zb_28, zb_29, zb_30, zb_31, zb_32, zb_33, zb_34, zb_35, zb_36, zb_37, zb_38, zb_39, zb_40, zb_41, zb_42, zb_43, zb_44, zb_45, zb_46, zb_47, zb_48, zb_49, zb_50, zb_51, zb_52, zb_53, zb_54, zb_55, zb_56, zb_57, zb_58, zb_59, zb_60, zb_61, zb_62, zb_63, zb_64, zb_65, zb_66, zb_67, zb_68, zb_69, zb_70, zb_71, zb_72, zb_73, zb_74, zb_75, zb_76, zb_77, zb_78, zb_79, zb_80, zb_81, zb_82, zb_83, zb_84, zb_85, zb_86, zb_87, zb_88, zb_89, zb_90, zb_91, zb_92, zb_93, zb_94, zb_95, zb_96, zb_97, zb_98, zb_99, zb_100, zb_101, zb_102, zb_103, zb_104, zb_105, zb_106, zb_107, zb_108, zb_109, zb_110, zb_111, zb_112, zb_113, zb_114, zb_115, zb_116, zb_117, zb_118, zb_119, zb_120, zb_121, zb_122, zb_123, zb_124, zb_125, zb_126, zb_127, zb_128, zb_129, zb_130, zb_131, zb_132, zb_133, zb_134, zb_135, zb_136, zb_137, zb_138, zb_139, zb_140, zb_141, zb_142, zb_143, zb_144, zb_145, zb_146, zb_147, zb_148, zb_149, zb_150, zb_151, zb_152, zb_153, zb_154, zb_155, zb_156, zb_157, zb_158, zb_159, zb_160, zb_161, zb_162, zb_163, zb_164, zb_165, zb_166, zb_167, zb_168, zb_169, zb_170, zb_171, zb_172, zb_173, zb_174, zb_175, zb_176, zb_177, zb_178, zb_179, zb_180, zb_181, zb_182, zb_183, zb_184, zb_185, zb_186, zb_187, zb_188, zb_189, zb_190, zb_191, zb_192, zb_193, zb_194, zb_195, zb_196, zb_197, zb_198, zb_199, zb_200, zb_201, zb_202, zb_203, zb_204, zb_205, zb_206, zb_207, zb_208, zb_209, zb_210, zb_211, zb_212, zb_213, zb_214, zb_215, zb_216, zb_217, zb_218, zb_219, zb_220, zb_221, zb_222, zb_223, zb_224, zb_225, zb_226, zb_227, zb_228, zb_229, zb_230, zb_231, zb_232, zb_233, zb_234, zb_235, zb_236, zb_237, zb_238, zb_239, zb_240, zb_241, zb_242, zb_243, zb_244, zb_245, zb_246, zb_247, zb_248, zb_249, zb_250, zb_251, zb_252, zb_253, zb_254, zb_255, zb_256, zb_257, zb_258, zb_259, zb_260, zb_261, zb_262, zb_263, zb_264, zb_265, zb_266, zb_267, zb_268, zb_269, zb_270, zb_271, zb_272, zb_273, zb_274, zb_275, zb_276, zb_277, zb_278, zb_279, zb_280, zb_281, zb_282, zb_283, zb_284, zb_285, zb_286, zb_287, zb_288, zb_289, zb_290, zb_291, zb_292, zb_293, zb_294, zb_295, zb_296, zb_297, zb_298, zb_299, zb_300, zb_301, zb_302, zb_303, zb_304, zb_305, zb_306]
def zB (m : Nat) (l : Int) : List Instr := (zTab.getD m []).getD l.toNat []
/-- what a method answers: 0 nothing, 1 int, 2 boolean, 3 long, 4 double -/
def zRkT : List Nat := [0, 1, 0, 1, 0, 0, 0, 0, 3, 0, 2, 2, 1, 1, 4, 0, 1, 0, 0, 0, 1, 1, 1, 0, 1, 0, 1, 1, 1, 1, 1, 0, 0, 0, 1, 1, 0, 1, 1, 1, 1, 1, 1, 1, 1, 1, 0, 2, 1, 1, 0, 0, 1, 1, 1, 1, 1, 0, 1, 1, 2, 1, 1, 1, 1, 0, 0, 1, 1, 1, 1, 1, 1, 1, 1, 1, 1, 1, 1, 1, 1, 1, 1, 1, 2, 2, 2, 1, 1, 2, 2, 2, 1, 1, 1, 0, 1, 1, 0, 1, 0, 0, 0, 1, 1, 1, 1, 1, 1, 1, 1, 1, 1, 1, 0, 0, 1, 1, 1, 1, 1, 1, 1, 1, 1, 2, 1, 1, 2, 1, 1, 1, 1, 1, 1, 1, 1, 1, 1, 1, 1, 1, 1, 1, 1, 1, 2, 1, 1, 1, 1, 1, 1, 1, 1, 3, 0, 1, 2, 1, 0, 1, 2, 1, 1, 0, 0, 1, 1, 0, 1, 1, 1, 2, 2, 2, 2, 1, 1, 1, 0, 0, 2, 1, 1, 2, 1, 1, 1, 0, 1, 1, 1, 1, 1, 1, 1, 1, 1, 1, 1, 1, 1, 1, 1, 2, 1, 0, 1, 0, 0, 2, 0, 1, 1, 0, 0, 2, 2, 1, 1, 1, 1, 0, 0, 1, 1, 1, 1, 1, 2, 1, 1, 1, 1, 1, 1, 1, 1, 1, 1, 1, 1, 1, 1, 1, 1, 1, 1, 2, 0, 1, 2, 1, 1, 1, 4, 1, 1, 1, 1, 2, 1, 2, 2, 1, 1, 1, 0, 3, 1, 1, 1, 1, 1, 1, 1, 1, 1, 1, 1, 1, 1, 1, 1, 1, 1, 1, 1, 1, 1, 1, 1, 1, 1, 1, 1, 1, 1, 2, 1, 1, 1, 1, 2, 1, 1]
def zRk (m : Nat) : Nat := zRkT.getD m 0
/-- handlers: method, exception (1 IndexOutOfBounds, 2 IllegalArgument, 3 IllegalState), label -/
def zEx : List (Nat × Nat × Int) := [(270, 2, 1), (270, 3, 2), (271, 1, 1), (271, 2, 2), (271, 3, 3), (272, 1, 1), (272, 3, 2), (273, 1, 1), (273, 2, 2), (274, 1, 1), (274, 2, 2), (275, 1, 1), (275, 2, 2), (276, 1, 1), (276, 2, 2), (277, 1, 3), (278, 1, 1), (279, 1, 3), (279, 2, 4), (280, 2, 1), (280, 3, 2), (281, 2, 1), (282, 2, 1), (283, 1, 1), (284, 1, 1), (285, 1, 1), (285, 3, 2), (286, 1, 1), (286, 3, 2), (287, 2, 1), (288, 1, 1), (288, 3, 2), (289, 1, 1), (289, 3, 2), (290, 2, 1), (291, 2, 1), (291, 1, 2), (292, 1, 3), (292, 2, 4), (293, 1, 1), (293, 2, 2), (294, 1, 1), (294, 2, 2), (295, 1, 1), (296, 1, 1), (297, 2, 1), (297, 3, 2), (298, 3, 1)]
def zE (m k : Nat) : Option Int := (zEx.find? (fun q => q.1 == m && q.2.1 == k)).map (fun q => q.2.2)
/-- the type of a field: 1 int, 2 boolean, 3 long, 5 a reference -/
def zTyT : List (List Nat) := [[5], [5, 5, 5], [5, 5, 1, 5, 5], [5, 1], [5, 5, 5, 5], [2, 1, 1, 1, 1, 1, 1, 1, 5, 5], [], [1, 1, 5, 5], [5, 1, 5, 5], [5, 5, 5, 5, 5, 5, 5, 5, 5], [5, 5, 5, 1, 5, 1, 1, 5, 5, 1, 5, 5, 5, 5, 5, 5, 5, 5, 5, 5, 1, 1, 1, 1, 1, 1, 1, 1, 5, 5, 5, 5, 5, 2, 2, 5, 1, 5, 5, 5, 1, 1, 5, 3]]
def zTy (n : Nat) : Nat := (zTyT.getD (n / 64) []).getD (n % 64) 0
def zNf (t : Nat) : Nat := (zTyT.getD t []).length
def zDv (ty : Nat) : Value := if ty = 5 then .null else if ty = 3 then .long 0 else .int 0
/-- the fields of a new object -/
def zDf (t : Nat) (k : Int) : Value := zDv ((zTyT.getD t []).getD k.toNat 0)
def zAt : ArrayType → Nat
  | .int => 20 | .long => 21 | .double => 22 | .boolean => 23 | _ => 99
/-- arguments, locals -/
def zNaT : List Nat := [1, 3, 4, 6, 5, 1, 1, 3, 2, 4, 3, 4, 4, 5, 4, 3, 3, 1, 2, 2, 3, 2, 1, 2, 3, 2, 3, 2, 2, 4, 3, 1, 2, 1, 1, 2, 1, 2, 3, 4, 3, 4, 2, 4, 2, 3, 1, 4, 6, 4, 5, 1, 1, 2, 1, 3, 3, 1, 1, 1, 1, 1, 6, 7, 7, 1, 2, 2, 2, 2, 2, 2, 6, 6, 2, 2, 4, 4, 3, 3, 3, 2, 2, 2, 3, 3, 2, 2, 2, 3, 3, 2, 1, 1, 2, 2, 2, 2, 2, 1, 3, 3, 1, 1, 2, 1, 1, 1, 1, 3, 1, 2, 3, 3, 3, 1, 2, 6, 2, 4, 3, 1, 1, 3, 3, 3, 2, 2, 3, 2, 3, 3, 2, 2, 1, 1, 2, 2, 2, 1, 2, 2, 2, 3, 1, 2, 3, 3, 4, 2, 2, 2, 1, 1, 1, 1, 1, 3, 2, 1, 1, 1, 3, 2, 2, 1, 1, 2, 3, 4, 3, 2, 2, 2, 2, 2, 2, 2, 3, 2, 1, 1, 3, 2, 6, 2, 4, 1, 2, 2, 2, 2, 2, 2, 6, 2, 2, 4, 3, 1, 1, 3, 3, 3, 3, 3, 2, 1, 2, 2, 4, 1, 2, 1, 3, 1, 1, 3, 3, 2, 3, 3, 2, 2, 1, 2, 1, 1, 1, 1, 3, 1, 2, 2, 2, 1, 2, 2, 2, 3, 2, 2, 3, 2, 4, 1, 1, 2, 2, 3, 2, 1, 2, 4, 3, 4, 2, 2, 2, 2, 1, 3, 1, 2, 1, 1, 1, 1, 2, 1, 3, 7, 3, 5, 4, 4, 4, 4, 3, 4, 3, 4, 4, 3, 3, 3, 3, 3, 3, 3, 3, 4, 4, 4, 5, 3, 3, 3, 2, 1, 2, 2, 1, 1, 1, 6, 6]
def zNa (m : Nat) : Nat := zNaT.getD m 0
def zMlT : List Nat := [1, 5, 5, 6, 5, 1, 1, 7, 2, 7, 3, 5, 6, 7, 7, 11, 9, 1, 5, 3, 4, 2, 1, 3, 5, 3, 7, 4, 5, 6, 5, 2, 2, 3, 1, 2, 1, 4, 11, 6, 5, 7, 4, 10, 4, 7, 1, 4, 8, 5, 5, 1, 1, 2, 1, 3, 3, 1, 1, 1, 1, 1, 9, 10, 12, 1, 3, 2, 2, 2, 2, 4, 6, 7, 3, 3, 4, 5, 3, 4, 3, 2, 4, 3, 3, 3, 2, 6, 4, 4, 4, 2, 3, 1, 2, 2, 2, 2, 3, 5, 4, 3, 1, 1, 2, 2, 3, 1, 1, 7, 1, 3, 5, 6, 6, 1, 2, 6, 2, 4, 3, 1, 1, 3, 3, 3, 2, 2, 3, 2, 3, 3, 2, 2, 1, 1, 2, 2, 2, 1, 2, 3, 2, 3, 1, 2, 3, 3, 4, 2, 2, 2, 1, 3, 1, 5, 1, 3, 2, 4, 1, 1, 3, 2, 2, 2, 2, 3, 3, 4, 3, 2, 2, 2, 2, 2, 2, 2, 4, 4, 4, 4, 3, 3, 7, 2, 4, 3, 2, 2, 2, 4, 2, 2, 6, 4, 3, 4, 4, 1, 1, 3, 3, 3, 3, 3, 2, 5, 2, 2, 4, 2, 2, 3, 4, 5, 2, 6, 5, 2, 3, 3, 3, 5, 2, 2, 3, 1, 4, 3, 7, 6, 2, 2, 2, 1, 4, 2, 3, 6, 8, 2, 4, 4, 5, 6, 1, 8, 4, 3, 3, 3, 4, 7, 3, 4, 9, 2, 8, 2, 2, 3, 1, 3, 3, 1, 3, 2, 2, 3, 4, 8, 4, 6, 5, 5, 5, 5, 4, 5, 4, 5, 5, 4, 4, 4, 4, 4, 4, 4, 4, 5, 5, 5, 6, 4, 4, 4, 3, 7, 2, 2, 1, 1, 1, 9, 9]
def zMl (m : Nat) : Nat := zMlT.getD m 0
/-- the receiver: its tag (6: one that serves, 0 or 5); 99: none is looked at -/
def zRcT : List Nat := [99, 0, 0, 0, 0, 0, 99, 1, 99, 1, 1, 1, 1, 1, 1, 1, 1, 99, 2, 2, 2, 2, 2, 2, 2, 2, 2, 2, 2, 2, 2, 99, 3, 3, 3, 3, 99, 4, 4, 4, 4, 4, 4, 4, 99, 4, 99, 5, 5, 5, 5, 5, 5, 5, 5, 5, 5, 99, 99, 99, 99, 99, 6, 6, 6, 99, 7, 7, 7, 7, 7, 7, 7, 7, 7, 7, 7, 7, 7, 7, 7, 7, 7, 7, 7, 7, 7, 7, 7, 7, 7, 7, 7, 7, 7, 7, 7, 7, 7, 7, 7, 7, 99, 8, 8, 8, 8, 99, 99, 8, 99, 8, 8, 8, 8, 99, 9, 9, 9, 9, 9, 9, 9, 9, 9, 9, 9, 9, 9, 9, 9, 9, 9, 9, 9, 9, 9, 9, 9, 9, 9, 9, 9, 9, 9, 9, 9, 9, 9, 9, 9, 9, 9, 9, 9, 9, 99, 99, 99, 99, 99, 10, 99, 10, 10, 10, 10, 10, 10, 10, 10, 10, 10, 10, 10, 10, 10, 10, 10, 10, 10, 10, 10, 10, 10, 99, 10, 10, 10, 10, 10, 10, 10, 10, 10, 10, 10, 10, 10, 10, 10, 10, 10, 10, 10, 10, 10, 10, 10, 10, 10, 10, 10, 10, 10, 10, 10, 10, 10, 10, 10, 10, 10, 10, 10, 10, 10, 10, 10, 10, 10, 10, 10, 10, 10, 10, 10, 10, 10, 10, 10, 10, 10, 10, 10, 10, 10, 10, 10, 10, 10, 99, 10, 10, 10, 10, 10, 10, 10, 10, 10, 10, 99, 10, 10, 10, 10, 10, 10, 10, 99, 99, 99, 99, 99, 99, 99, 99, 99, 99, 99, 99, 99, 99, 99, 99, 99, 99, 99, 99, 99, 99, 99, 99, 99, 99, 99, 99, 99, 99, 99, 99, 99, 99, 99, 0, 5]
abbrev zRef : Nat := 156
def zDispT : List (Nat × Nat × Nat) := [(0, 0, 3), (0, 5, 48), (1, 0, 4), (1, 5, 50), (2, 0, 5), (2, 5, 51)]
