/-! rows of blocks, of entries; written by wip/whole/gen_code.py -/
theorem zb_0_0 : zB 0 0 = [.aload 0, .invokeinterface 57 1, .aload 0, .iconst 0, .newarray .int, .putfield 0, .return_] := rfl
theorem zb_1_0 : zB 1 0 = [.aload 1, .iload 2, .invokeinterface 91 2, .ifCond .ne 1, .iconst (-1), .ireturn] := rfl
theorem zb_1_1 : zB 1 1 = [.aload 0, .getfield 0, .arraylength, .ifCond .ne 2, .aload 0, .iconst 6012, .newarray .int, .putfield 0, .goto_w 2] := rfl
theorem zb_1_2 : zB 1 2 = [.aload 1, .iload 2, .invokeinterface 87 2, .istore 3, .iconst 0, .istore 4, .goto_w 3] := rfl
theorem zb_1_3 : zB 1 3 = [.iload 4, .iconst 1000, .if_icmp .gt 6, .aload 0, .aload 1, .iload 2, .iconst 0, .iload 4, .iconst 1, .invokeinterface 305 6, .invokeinterface 60 1, .ifCond .eq 4, .iload 4, .ireturn] := rfl
theorem zb_1_4 : zB 1 4 = [.iload 4, .iconst 500, .if_icmp .gt 5, .aload 0, .aload 1, .iload 3, .iload 4, .invokeinterface 2 4, .goto_w 5] := rfl
theorem zb_1_5 : zB 1 5 = [.iinc 4 1, .goto 3] := rfl
theorem zb_1_6 : zB 1 6 = [.iconst (-1), .ireturn] := rfl
theorem zb_2_0 : zB 2 0 = [.iconst 0, .istore 4, .goto_w 1] := rfl
theorem zb_2_1 : zB 2 1 = [.iload 4, .aload 1, .getfield 448, .if_icmp .ge 3, .iload 2, .iload 4, .invokeinterface 158 2, .ifCond .eq 2, .aload 0, .getfield 0, .iload 3, .iconst 12, .imul, .iload 4, .iadd, .aload 0, .aload 1, .iload 4, .iconst 0, .iload 3, .iconst 1, .invokeinterface 305 6, .iastore, .goto_w 2] := rfl
theorem zb_2_2 : zB 2 2 = [.iinc 4 1, .goto 1] := rfl
theorem zb_2_3 : zB 2 3 = [.return_] := rfl
theorem zb_3_0 : zB 3 0 = [.aload 0, .getfield 0, .iload 4, .iconst 12, .imul, .aload 1, .getfield 451, .iconst 1, .aaload, .iload 2, .iaload, .iadd, .iaload, .ireturn] := rfl
theorem zb_4_0 : zB 4 0 = [.return_] := rfl
theorem zb_5_0 : zB 5 0 = [.return_] := rfl
theorem zb_6_0 : zB 6 0 = [.aload 0, .monitorexit, .aload 0, .iconst 12, .iconst 64, .multianewarray 1 2, .putfield 64, .aload 0, .iconst 64, .newarray .long, .putfield 65, .aload 0, .iconst 0, .newarray .double, .putfield 66, .return_] := rfl
theorem zb_7_0 : zB 7 0 = [.iconst 1, .iconst 1, .aload 1, .getfield 448, .ishl, .iconst 6, .ishr, .invokeinterface 300 2, .istore 3, .iconst 0, .istore 4, .goto_w 1] := rfl
theorem zb_7_1 : zB 7 1 = [.iload 4, .aload 2, .invokeinterface 22 1, .if_icmp .ge 7, .aload 2, .iload 4, .invokeinterface 21 2, .istore 5, .iconst 0, .istore 6, .goto_w 2] := rfl
theorem zb_7_2 : zB 7 2 = [.iload 6, .iload 3, .if_icmp .ge 3, .aload 0, .getfield 64, .iload 5, .aaload, .iload 6, .iload 5, .iload 6, .invokeinterface 8 2, .lastore, .iinc 6 1, .goto 2] := rfl
theorem zb_7_3 : zB 7 3 = [.iconst 0, .istore 6, .goto_w 4] := rfl
theorem zb_7_4 : zB 7 4 = [.iload 6, .aload 1, .getfield 449, .if_icmp .ge 6, .aload 1, .iload 6, .iload 5, .invokeinterface 84 3, .ifCond .eq 5, .aload 1, .iload 6, .invokeinterface 86 2, .ifCond .eq 5, .aload 0, .aload 1, .iload 6, .iload 3, .invokeinterface 9 4, .goto_w 5] := rfl
theorem zb_7_5 : zB 7 5 = [.iinc 6 1, .goto 4] := rfl
theorem zb_7_6 : zB 7 6 = [.iinc 4 1, .goto 1] := rfl
theorem zb_7_7 : zB 7 7 = [.return_] := rfl
theorem zb_8_0 : zB 8 0 = [.iload 0, .iconst 6, .if_icmp .ge 1, .getstatic 3, .iload 0, .laload, .lreturn] := rfl
theorem zb_8_1 : zB 8 1 = [.iload 1, .iload 0, .iconst 6, .isub, .invokeinterface 158 2, .ifCond .eq 2, .jsr_w (-1), .goto 3] := rfl
theorem zb_8_2 : zB 8 2 = [.jsr_w 0, .goto_w 3] := rfl
theorem zb_8_3 : zB 8 3 = [.lreturn] := rfl
theorem zb_9_0 : zB 9 0 = [.iconst 0, .istore 4, .goto_w 1] := rfl
theorem zb_9_1 : zB 9 1 = [.iload 4, .iload 3, .if_icmp .ge 2, .aload 0, .getfield 65, .iload 4, .jsr_w (-1), .lastore, .iinc 4 1, .goto 1] := rfl
theorem zb_9_2 : zB 9 2 = [.iload 2, .istore 4, .goto_w 3] := rfl
theorem zb_9_3 : zB 9 3 = [.iload 4, .aload 1, .getfield 449, .if_icmp .ge 6, .aload 1, .iload 4, .iload 2, .invokeinterface 85 3, .ifCond .eq 5, .aload 0, .getfield 64, .aload 1, .getfield 451, .iconst 1, .aaload, .iload 4, .iaload, .aaload, .astore 5, .iconst 0, .istore 6, .goto_w 4] := rfl
theorem zb_9_4 : zB 9 4 = [.iload 6, .iload 3, .if_icmp .ge 5, .aload 0, .getfield 65, .iload 6, .dup2, .laload, .aload 5, .iload 6, .laload, .land, .lastore, .iinc 6 1, .goto 4] := rfl
theorem zb_9_5 : zB 9 5 = [.iinc 4 1, .goto 3] := rfl
theorem zb_9_6 : zB 9 6 = [.aload 0, .getfield 64, .aload 1, .getfield 451, .iconst 0, .aaload, .iload 2, .iaload, .aaload, .astore 4, .iconst 0, .istore 5, .goto_w 7] := rfl
theorem zb_9_7 : zB 9 7 = [.iload 5, .iload 3, .if_icmp .ge 8, .aload 4, .iload 5, .dup2, .laload, .aload 0, .getfield 65, .iload 5, .laload, .lor, .lastore, .iinc 5 1, .goto 7] := rfl
theorem zb_9_8 : zB 9 8 = [.return_] := rfl
theorem zb_10_0 : zB 10 0 = [.aload 0, .getfield 64, .iload 1, .aaload, .iload 2, .iconst 6, .ishr, .laload, .iload 2, .iconst 63, .iand, .lushr, .jsr_w 1, .land, .jsr_w 0, .lcmp, .ifCond .eq 1, .iconst 1, .goto 2] := rfl
theorem zb_10_1 : zB 10 1 = [.iconst 0, .goto_w 2] := rfl
theorem zb_10_2 : zB 10 2 = [.ireturn] := rfl
theorem zb_11_0 : zB 11 0 = [.aload 0, .iload 2, .iload 3, .invokeinterface 10 3, .ifCond .ne 1, .iconst 0, .ireturn] := rfl
theorem zb_11_1 : zB 11 1 = [.iconst 0, .istore 4, .goto_w 2] := rfl
theorem zb_11_2 : zB 11 2 = [.iload 4, .aload 1, .getfield 448, .if_icmp .ge 4, .iload 3, .iload 4, .invokeinterface 158 2, .ifCond .eq 3, .aload 0, .iload 2, .iload 3, .iconst 1, .iload 4, .ishl, .iconst (-1), .ixor, .iand, .invokeinterface 10 3, .ifCond .eq 3, .iconst 0, .ireturn] := rfl
theorem zb_11_3 : zB 11 3 = [.iinc 4 1, .goto 2] := rfl
theorem zb_11_4 : zB 11 4 = [.iconst 1, .ireturn] := rfl
theorem zb_12_0 : zB 12 0 = [.iconst 0, .istore 4, .iconst 0, .istore 5, .goto_w 1] := rfl
theorem zb_12_1 : zB 12 1 = [.iload 5, .iconst 1, .aload 1, .getfield 448, .ishl, .if_icmp .ge 3, .iload 5, .invokeinterface 302 1, .iload 3, .if_icmp .ne 2, .aload 0, .aload 1, .iload 2, .iload 5, .invokeinterface 11 4, .ifCond .eq 2, .iinc 4 1, .goto_w 2] := rfl
theorem zb_12_2 : zB 12 2 = [.iinc 5 1, .goto 1] := rfl
theorem zb_12_3 : zB 12 3 = [.iload 4, .ireturn] := rfl
theorem zb_13_0 : zB 13 0 = [.iconst 0, .istore 5, .iconst 0, .istore 6, .goto_w 1] := rfl
theorem zb_13_1 : zB 13 1 = [.iload 6, .iconst 1, .aload 1, .getfield 448, .ishl, .if_icmp .ge 4, .iload 6, .invokeinterface 302 1, .iload 3, .if_icmp .ne 3, .aload 0, .aload 1, .iload 2, .iload 6, .invokeinterface 11 4, .ifCond .eq 3, .iload 5, .iload 4, .if_icmp .ne 2, .iload 6, .ireturn] := rfl
theorem zb_13_2 : zB 13 2 = [.iinc 5 1, .goto_w 3] := rfl
theorem zb_13_3 : zB 13 3 = [.iinc 6 1, .goto 1] := rfl
theorem zb_13_4 : zB 13 4 = [.iconst (-1), .ireturn] := rfl
theorem zb_14_0 : zB 14 0 = [.aload 0, .aload 1, .iload 3, .invokeinterface 15 3, .jsr 0, .dstore 4, .iconst 0, .istore 6, .goto_w 1] := rfl
theorem zb_14_1 : zB 14 1 = [.iload 6, .iconst 1, .aload 1, .getfield 448, .ishl, .if_icmp .ge 3, .aload 0, .iload 2, .iload 6, .invokeinterface 10 3, .ifCond .ne 2, .dload 4, .aload 0, .getfield 66, .iload 6, .daload, .dadd, .dstore 4, .goto_w 2] := rfl
theorem zb_14_2 : zB 14 2 = [.iinc 6 1, .goto 1] := rfl
theorem zb_14_3 : zB 14 3 = [.dload 4, .dreturn] := rfl
theorem zb_15_0 : zB 15 0 = [.aload 0, .getfield 66, .arraylength, .ifCond .ne 1, .aload 0, .iconst 4096, .newarray .double, .putfield 66, .goto_w 1] := rfl
theorem zb_15_1 : zB 15 1 = [.aload 0, .getfield 66, .iconst 0, .jsr 4607182418800017408, .dastore, .iconst 0, .istore 3, .goto_w 2] := rfl
theorem zb_15_2 : zB 15 2 = [.iload 3, .aload 1, .getfield 448, .if_icmp .ge 7, .iload 3, .iload 2, .if_icmp .ne 3, .iconst 1000, .goto 4] := rfl
theorem zb_15_3 : zB 15 3 = [.aload 1, .getfield 450, .iconst 5, .aaload, .iload 3, .iaload, .goto_w 4] := rfl
theorem zb_15_4 : zB 15 4 = [.istore 4, .iload 4, .i2d, .jsr 4652007308841189376, .ddiv, .dstore 5, .iconst 1000, .iload 4, .isub, .i2d, .jsr 4652007308841189376, .ddiv, .dstore 7, .iconst 1, .iload 3, .ishl, .istore 9, .iconst 0, .istore 10, .goto_w 5] := rfl
theorem zb_15_5 : zB 15 5 = [.iload 10, .iload 9, .if_icmp .ge 6, .aload 0, .getfield 66, .iload 9, .iload 10, .iadd, .aload 0, .getfield 66, .iload 10, .daload, .dload 7, .dmul, .dastore, .aload 0, .getfield 66, .iload 10, .aload 0, .getfield 66, .iload 10, .daload, .dload 5, .dmul, .dastore, .iinc 10 1, .goto 5] := rfl
theorem zb_15_6 : zB 15 6 = [.iinc 3 1, .goto 2] := rfl
theorem zb_15_7 : zB 15 7 = [.return_] := rfl
theorem zb_16_0 : zB 16 0 = [.iconst 0, .istore 3, .aload 0, .aload 1, .iload 2, .iconst 0, .invokeinterface 14 4, .dstore 4, .iconst 1, .istore 6, .goto_w 1] := rfl
theorem zb_16_1 : zB 16 1 = [.iload 6, .aload 1, .getfield 448, .if_icmp .ge 3, .aload 0, .aload 1, .iload 2, .iload 6, .invokeinterface 14 4, .dstore 7, .dload 7, .dload 4, .dcmp .l, .ifCond .le 2, .iload 6, .istore 3, .dload 7, .dstore 4, .goto_w 2] := rfl
theorem zb_16_2 : zB 16 2 = [.iinc 6 1, .goto 1] := rfl
theorem zb_16_3 : zB 16 3 = [.iload 3, .ireturn] := rfl
theorem zb_17_0 : zB 17 0 = [.aload 0, .monitorexit, .aload 0, .iconst 12, .newarray .int, .putfield 128, .aload 0, .iconst 12, .newarray .int, .putfield 129, .aload 0, .iconst 0, .putfield 130, .aload 0, .iconst 12, .newarray .int, .putfield 131, .aload 0, .iconst 12, .newarray .int, .putfield 132, .return_] := rfl
theorem zb_18_0 : zB 18 0 = [.aload 0, .aload 1, .invokeinterface 19 2, .aload 0, .iconst 0, .putfield 130, .iconst 0, .istore 2, .iconst 0, .istore 3, .goto_w 1] := rfl
theorem zb_18_1 : zB 18 1 = [.iload 3, .aload 1, .getfield 448, .if_icmp .ge 3, .aload 0, .aload 1, .iload 2, .invokeinterface 20 3, .istore 4, .iload 4, .iconst (-1), .if_icmp .ne 2, .return_] := rfl
theorem zb_18_2 : zB 18 2 = [.aload 0, .getfield 129, .iload 3, .iload 4, .iastore, .iload 2, .iconst 1, .iload 4, .ishl, .ior, .istore 2, .aload 0, .dup, .getfield 130, .iconst 1, .iadd, .putfield 130, .iinc 3 1, .goto 1] := rfl
theorem zb_18_3 : zB 18 3 = [.return_] := rfl
theorem zb_19_0 : zB 19 0 = [.iconst 0, .istore 2, .goto_w 1] := rfl
theorem zb_19_1 : zB 19 1 = [.iload 2, .aload 1, .getfield 448, .if_icmp .ge 2, .aload 0, .getfield 128, .iload 2, .iconst 0, .iastore, .iinc 2 1, .goto 1] := rfl
theorem zb_19_2 : zB 19 2 = [.iconst 0, .istore 2, .goto_w 3] := rfl
theorem zb_19_3 : zB 19 3 = [.iload 2, .aload 1, .getfield 449, .if_icmp .ge 4, .aload 0, .getfield 128, .aload 1, .getfield 451, .iconst 0, .aaload, .iload 2, .iaload, .dup2, .iaload, .iconst 1, .aload 1, .getfield 451, .iconst 1, .aaload, .iload 2, .iaload, .ishl, .ior, .iastore, .iinc 2 1, .goto 3] := rfl
theorem zb_19_4 : zB 19 4 = [.return_] := rfl
theorem zb_20_0 : zB 20 0 = [.iconst 0, .istore 3, .goto_w 1] := rfl
theorem zb_20_1 : zB 20 1 = [.iload 3, .aload 1, .getfield 448, .if_icmp .ge 3, .iload 2, .iload 3, .invokeinterface 158 2, .ifCond .ne 2, .aload 0, .getfield 128, .iload 3, .iaload, .iload 2, .iconst (-1), .ixor, .iand, .ifCond .ne 2, .iload 3, .ireturn] := rfl
theorem zb_20_2 : zB 20 2 = [.iinc 3 1, .goto 1] := rfl
theorem zb_20_3 : zB 20 3 = [.iconst (-1), .ireturn] := rfl
theorem zb_21_0 : zB 21 0 = [.iload 1, .ifCond .lt 1, .iload 1, .aload 0, .getfield 130, .if_icmp .lt 2, .goto_w 1] := rfl
theorem zb_21_1 : zB 21 1 = [.iconst (-1), .goto 3] := rfl
theorem zb_21_2 : zB 21 2 = [.aload 0, .getfield 129, .iload 1, .iaload, .goto_w 3] := rfl
theorem zb_21_3 : zB 21 3 = [.ireturn] := rfl
theorem zb_22_0 : zB 22 0 = [.aload 0, .getfield 130, .ireturn] := rfl
theorem zb_23_0 : zB 23 0 = [.aload 0, .aload 1, .invokeinterface 18 2, .iconst 0, .istore 2, .goto_w 1] := rfl
theorem zb_23_1 : zB 23 1 = [.iload 2, .aload 0, .getfield 130, .if_icmp .ge 2, .aload 0, .getfield 131, .aload 0, .getfield 129, .iload 2, .iaload, .aload 0, .aload 1, .aload 0, .getfield 129, .iload 2, .iaload, .invokeinterface 24 3, .iastore, .iinc 2 1, .goto 1] := rfl
theorem zb_23_2 : zB 23 2 = [.return_] := rfl
theorem zb_24_0 : zB 24 0 = [.iconst 0, .istore 3, .iconst 0, .istore 4, .goto_w 1] := rfl
theorem zb_24_1 : zB 24 1 = [.iload 4, .aload 1, .getfield 449, .if_icmp .ge 3, .aload 1, .getfield 451, .iconst 0, .aaload, .iload 4, .iaload, .iload 2, .if_icmp .ne 2, .iload 3, .iconst 1, .aload 0, .getfield 131, .aload 1, .getfield 451, .iconst 1, .aaload, .iload 4, .iaload, .iaload, .iadd, .invokeinterface 300 2, .istore 3, .goto_w 2] := rfl
theorem zb_24_2 : zB 24 2 = [.iinc 4 1, .goto 1] := rfl
theorem zb_24_3 : zB 24 3 = [.iload 3, .ireturn] := rfl
theorem zb_25_0 : zB 25 0 = [.aload 0, .aload 1, .invokeinterface 18 2, .iconst 0, .istore 2, .goto_w 1] := rfl
theorem zb_25_1 : zB 25 1 = [.iload 2, .aload 0, .getfield 130, .if_icmp .ge 2, .aload 0, .getfield 132, .aload 0, .getfield 129, .iload 2, .iaload, .aload 0, .aload 1, .aload 0, .getfield 129, .iload 2, .iaload, .invokeinterface 26 3, .iastore, .iinc 2 1, .goto 1] := rfl
theorem zb_25_2 : zB 25 2 = [.return_] := rfl
theorem zb_26_0 : zB 26 0 = [.aload 1, .iload 2, .invokeinterface 81 2, .istore 3, .iconst 0, .istore 4, .goto_w 1] := rfl
theorem zb_26_1 : zB 26 1 = [.iload 4, .aload 1, .getfield 449, .if_icmp .ge 3, .aload 1, .getfield 451, .iconst 0, .aaload, .iload 4, .iaload, .iload 2, .if_icmp .ne 2, .aload 1, .getfield 451, .iconst 2, .aaload, .iload 4, .iaload, .istore 5, .iload 5, .aload 0, .getfield 132, .aload 1, .getfield 451, .iconst 1, .aaload, .iload 4, .iaload, .iaload, .invokeinterface 301 2, .istore 6, .iload 3, .aload 1, .getfield 451, .iconst 3, .aaload, .iload 4, .iaload, .iload 6, .imul, .iadd, .istore 3, .goto_w 2] := rfl
theorem zb_26_2 : zB 26 2 = [.iinc 4 1, .goto 1] := rfl
theorem zb_26_3 : zB 26 3 = [.iload 3, .iconst 100000, .invokeinterface 301 2, .ireturn] := rfl
theorem zb_27_0 : zB 27 0 = [.iconst 0, .istore 2, .iconst 0, .istore 3, .goto_w 1] := rfl
theorem zb_27_1 : zB 27 1 = [.iload 3, .aload 1, .getfield 449, .if_icmp .ge 3, .aload 1, .getfield 451, .iconst 2, .aaload, .iload 3, .iaload, .aload 0, .getfield 132, .aload 1, .getfield 451, .iconst 1, .aaload, .iload 3, .iaload, .iaload, .if_icmp .ge 2, .iinc 2 1, .goto_w 2] := rfl
theorem zb_27_2 : zB 27 2 = [.iinc 3 1, .goto 1] := rfl
theorem zb_27_3 : zB 27 3 = [.iload 2, .ireturn] := rfl
theorem zb_28_0 : zB 28 0 = [.aload 0, .aload 1, .invokeinterface 18 2, .iconst 0, .istore 2, .iconst 0, .istore 3, .goto_w 1] := rfl
theorem zb_28_1 : zB 28 1 = [.iload 3, .aload 0, .getfield 130, .if_icmp .ge 2, .aload 0, .getfield 129, .iload 3, .iaload, .istore 4, .aload 0, .getfield 132, .iload 4, .aload 0, .aload 1, .iload 4, .invokeinterface 26 3, .iastore, .iload 2, .aload 0, .aload 1, .iload 4, .aload 0, .getfield 132, .iload 4, .iaload, .iconst 500, .invokeinterface 301 2, .invokeinterface 29 4, .iadd, .istore 2, .iinc 3 1, .goto 1] := rfl
theorem zb_28_2 : zB 28 2 = [.iload 2, .ireturn] := rfl
theorem zb_29_0 : zB 29 0 = [.iconst 0, .istore 4, .iconst 0, .istore 5, .goto_w 1] := rfl
theorem zb_29_1 : zB 29 1 = [.iload 5, .aload 1, .getfield 449, .if_icmp .ge 3, .aload 1, .getfield 451, .iconst 1, .aaload, .iload 5, .iaload, .iload 2, .if_icmp .ne 2, .aload 1, .iload 5, .iload 3, .invokeinterface 79 3, .iload 3, .if_icmp .eq 2, .iinc 4 1, .goto_w 2] := rfl
theorem zb_29_2 : zB 29 2 = [.iinc 5 1, .goto 1] := rfl
theorem zb_29_3 : zB 29 3 = [.iload 4, .ireturn] := rfl
theorem zb_30_0 : zB 30 0 = [.iload 2, .istore 3, .iconst 0, .istore 4, .goto_w 1] := rfl
theorem zb_30_1 : zB 30 1 = [.iload 4, .aload 0, .getfield 130, .if_icmp .ge 3, .aload 1, .aload 0, .getfield 129, .iload 4, .iaload, .iload 3, .invokeinterface 89 3, .ifCond .eq 2, .iload 3, .iconst 1, .aload 0, .getfield 129, .iload 4, .iaload, .ishl, .ior, .istore 3, .goto_w 2] := rfl
theorem zb_30_2 : zB 30 2 = [.iinc 4 1, .goto 1] := rfl
theorem zb_30_3 : zB 30 3 = [.iload 3, .ireturn] := rfl
theorem zb_31_0 : zB 31 0 = [.aload 0, .monitorexit, .aload 0, .iconst 4, .anewarray 0, .putfield 192, .aload 0, .iconst 0, .putfield 193, .iconst 0, .istore 1, .goto_w 1] := rfl
theorem zb_31_1 : zB 31 1 = [.iload 1, .iconst 4, .if_icmp .ge 2, .aload 0, .getfield 192, .iload 1, .new 7, .dup, .invokeinterface 65 1, .aastore, .iinc 1 1, .goto 1] := rfl
theorem zb_31_2 : zB 31 2 = [.return_] := rfl
theorem zb_32_0 : zB 32 0 = [.aload 0, .getfield 193, .iconst 4, .if_icmp .ne 1, .aload 0, .invokeinterface 33 1, .goto_w 1] := rfl
theorem zb_32_1 : zB 32 1 = [.aload 0, .getfield 192, .aload 0, .getfield 193, .aaload, .aload 1, .invokeinterface 66 2, .aload 0, .dup, .getfield 193, .iconst 1, .iadd, .putfield 193, .return_] := rfl
theorem zb_33_0 : zB 33 0 = [.aload 0, .getfield 192, .iconst 0, .aaload, .astore 1, .iconst 1, .istore 2, .goto_w 1] := rfl
theorem zb_33_1 : zB 33 1 = [.iload 2, .iconst 4, .if_icmp .ge 2, .aload 0, .getfield 192, .iload 2, .iconst 1, .isub, .aload 0, .getfield 192, .iload 2, .aaload, .aastore, .iinc 2 1, .goto 1] := rfl
theorem zb_33_2 : zB 33 2 = [.aload 0, .getfield 192, .iconst 3, .aload 1, .aastore, .aload 0, .dup, .getfield 193, .iconst 1, .isub, .putfield 193, .return_] := rfl
theorem zb_34_0 : zB 34 0 = [.aload 0, .getfield 193, .ifCond .ne 1, .iconst 3, .goto 2] := rfl
theorem zb_34_1 : zB 34 1 = [.iconst 0, .goto_w 2] := rfl
theorem zb_34_2 : zB 34 2 = [.ireturn] := rfl
theorem zb_35_0 : zB 35 0 = [.aload 0, .dup, .getfield 193, .iconst 1, .isub, .putfield 193, .aload 1, .aload 0, .getfield 192, .aload 0, .getfield 193, .aaload, .invokeinterface 66 2, .aload 0, .getfield 193, .ireturn] := rfl
theorem zb_36_0 : zB 36 0 = [.aload 0, .monitorexit, .aload 0, .iconst 12, .newarray .int, .putfield 256, .aload 0, .iconst 12, .newarray .int, .putfield 257, .aload 0, .iconst 12, .newarray .int, .putfield 258, .aload 0, .iconst 0, .newarray .int, .putfield 259, .return_] := rfl
theorem zb_37_0 : zB 37 0 = [.aload 1, .invokeinterface 92 1, .istore 2, .iconst 0, .istore 3, .goto_w 1] := rfl
theorem zb_37_1 : zB 37 1 = [.iload 3, .aload 1, .getfield 448, .if_icmp .ge 3, .iload 2, .iload 3, .invokeinterface 158 2, .ifCond .eq 2, .aload 0, .getfield 256, .iload 3, .aload 1, .iload 3, .invokeinterface 87 2, .iload 2, .iand, .iastore, .goto_w 2] := rfl
theorem zb_37_2 : zB 37 2 = [.iinc 3 1, .goto 1] := rfl
theorem zb_37_3 : zB 37 3 = [.iload 2, .ireturn] := rfl
theorem zb_38_0 : zB 38 0 = [.aload 0, .aload 1, .invokeinterface 37 2, .istore 3, .iconst 0, .istore 4, .iconst 0, .istore 5, .iconst 0, .istore 6, .iconst 0, .istore 7, .goto_w 1] := rfl
theorem zb_38_1 : zB 38 1 = [.iload 7, .aload 1, .getfield 448, .if_icmp .gt 6, .aload 0, .aload 1, .iload 4, .iload 6, .invokeinterface 39 4, .istore 8, .iload 4, .iload 8, .iconst (-1), .ixor, .iand, .istore 4, .iload 5, .iload 8, .ior, .istore 5, .iload 2, .iload 4, .invokeinterface 302 1, .isub, .istore 9, .goto_w 2] := rfl
theorem zb_38_2 : zB 38 2 = [.iload 9, .ifCond .le 4, .aload 0, .aload 1, .iload 3, .iload 5, .invokeinterface 41 4, .istore 10, .iload 10, .iconst (-1), .if_icmp .ne 3, .goto 4] := rfl
theorem zb_38_3 : zB 38 3 = [.aload 0, .getfield 257, .iload 10, .iload 6, .iastore, .aload 0, .getfield 258, .iload 10, .iload 6, .aload 1, .getfield 450, .iconst 3, .aaload, .iload 10, .iaload, .iadd, .iastore, .iload 3, .iconst 1, .iload 10, .ishl, .iconst (-1), .ixor, .iand, .istore 3, .iload 4, .iconst 1, .iload 10, .ishl, .ior, .istore 4, .iinc 9 (-1), .goto 2] := rfl
theorem zb_38_4 : zB 38 4 = [.iload 4, .ifCond .ne 5, .iload 6, .ireturn] := rfl
theorem zb_38_5 : zB 38 5 = [.aload 0, .aload 1, .iload 4, .invokeinterface 40 3, .istore 6, .iinc 7 1, .goto 1] := rfl
theorem zb_38_6 : zB 38 6 = [.iload 6, .ireturn] := rfl
theorem zb_39_0 : zB 39 0 = [.iconst 0, .istore 4, .iconst 0, .istore 5, .goto_w 1] := rfl
theorem zb_39_1 : zB 39 1 = [.iload 5, .aload 1, .getfield 448, .if_icmp .ge 3, .iload 2, .iload 5, .invokeinterface 158 2, .ifCond .eq 2, .aload 0, .getfield 258, .iload 5, .iaload, .iload 3, .if_icmp .gt 2, .iload 4, .iconst 1, .iload 5, .ishl, .ior, .istore 4, .goto_w 2] := rfl
theorem zb_39_2 : zB 39 2 = [.iinc 5 1, .goto 1] := rfl
theorem zb_39_3 : zB 39 3 = [.iload 4, .ireturn] := rfl
theorem zb_40_0 : zB 40 0 = [.iconst (-1), .istore 3, .iconst 0, .istore 4, .goto_w 1] := rfl
theorem zb_40_1 : zB 40 1 = [.iload 4, .aload 1, .getfield 448, .if_icmp .ge 4, .iload 2, .iload 4, .invokeinterface 158 2, .ifCond .eq 3, .iload 3, .iconst (-1), .if_icmp .eq 2, .aload 0, .getfield 258, .iload 4, .iaload, .iload 3, .if_icmp .ge 3, .goto_w 2] := rfl
theorem zb_40_2 : zB 40 2 = [.aload 0, .getfield 258, .iload 4, .iaload, .istore 3, .goto_w 3] := rfl
theorem zb_40_3 : zB 40 3 = [.iinc 4 1, .goto 1] := rfl
theorem zb_40_4 : zB 40 4 = [.iload 3, .ireturn] := rfl
theorem zb_41_0 : zB 41 0 = [.iconst (-1), .istore 4, .iconst 0, .istore 5, .iconst 0, .istore 6, .goto_w 1] := rfl
theorem zb_41_1 : zB 41 1 = [.iload 6, .aload 1, .getfield 448, .if_icmp .ge 3, .iload 2, .iload 6, .invokeinterface 158 2, .ifCond .eq 2, .aload 0, .getfield 256, .iload 6, .iaload, .iload 3, .iconst (-1), .ixor, .iand, .ifCond .ne 2, .aload 1, .getfield 450, .iconst 4, .aaload, .iload 6, .iaload, .iload 5, .if_icmp .le 2, .iload 6, .istore 4, .aload 1, .getfield 450, .iconst 4, .aaload, .iload 6, .iaload, .istore 5, .goto_w 2] := rfl
theorem zb_41_2 : zB 41 2 = [.iinc 6 1, .goto 1] := rfl
theorem zb_41_3 : zB 41 3 = [.iload 4, .ireturn] := rfl
theorem zb_42_0 : zB 42 0 = [.aload 0, .aload 1, .invokeinterface 37 2, .istore 2, .aload 0, .getfield 259, .arraylength, .ifCond .ne 1, .aload 0, .iconst 4096, .newarray .int, .putfield 259, .goto_w 1] := rfl
theorem zb_42_1 : zB 42 1 = [.aload 0, .getfield 259, .iload 2, .iconst 0, .iastore, .iload 2, .istore 3, .goto_w 2] := rfl
theorem zb_42_2 : zB 42 2 = [.iload 3, .ifCond .le 3, .iload 3, .iconst 1, .isub, .iload 2, .iand, .istore 3, .aload 0, .aload 1, .iload 2, .iload 3, .invokeinterface 43 4, .pop, .goto 2] := rfl
theorem zb_42_3 : zB 42 3 = [.aload 0, .getfield 259, .iconst 0, .iaload, .ireturn] := rfl
theorem zb_43_0 : zB 43 0 = [.aload 1, .iload 3, .invokeinterface 44 2, .istore 4, .iconst (-1), .istore 5, .iconst 0, .istore 6, .iconst 0, .istore 7, .goto_w 1] := rfl
theorem zb_43_1 : zB 43 1 = [.iload 7, .aload 1, .getfield 448, .if_icmp .ge 5, .iload 2, .iload 3, .iconst (-1), .ixor, .iand, .iload 7, .invokeinterface 158 2, .ifCond .eq 4, .aload 0, .getfield 256, .iload 7, .iaload, .iload 3, .iconst (-1), .ixor, .iand, .ifCond .eq 2, .goto 4] := rfl
theorem zb_43_2 : zB 43 2 = [.iload 4, .aload 1, .getfield 450, .iconst 3, .aaload, .iload 7, .iaload, .iadd, .istore 8, .aload 1, .getfield 450, .iconst 4, .aaload, .iload 7, .iaload, .iload 8, .imul, .aload 0, .getfield 259, .iload 3, .iconst 1, .iload 7, .ishl, .ior, .iaload, .iadd, .istore 9, .iload 5, .iconst (-1), .if_icmp .eq 3, .iload 9, .iload 6, .if_icmp .ge 4, .goto_w 3] := rfl
theorem zb_43_3 : zB 43 3 = [.iload 7, .istore 5, .iload 9, .istore 6, .goto_w 4] := rfl
theorem zb_43_4 : zB 43 4 = [.iinc 7 1, .goto 1] := rfl
theorem zb_43_5 : zB 43 5 = [.aload 0, .getfield 259, .iload 3, .iload 6, .iastore, .iload 5, .ireturn] := rfl
theorem zb_44_0 : zB 44 0 = [.iconst 0, .istore 2, .iconst 0, .istore 3, .goto_w 1] := rfl
theorem zb_44_1 : zB 44 1 = [.iload 3, .aload 0, .getfield 448, .if_icmp .ge 3, .iload 1, .iload 3, .invokeinterface 158 2, .ifCond .eq 2, .iload 2, .aload 0, .getfield 450, .iconst 3, .aaload, .iload 3, .iaload, .iadd, .istore 2, .goto_w 2] := rfl
theorem zb_44_2 : zB 44 2 = [.iinc 3 1, .goto 1] := rfl
theorem zb_44_3 : zB 44 3 = [.iload 2, .ireturn] := rfl
theorem zb_45_0 : zB 45 0 = [.aload 1, .invokeinterface 92 1, .istore 3, .iload 2, .ifCond .lt 1, .iload 2, .iload 3, .invokeinterface 302 1, .if_icmp .lt 2, .goto_w 1] := rfl
theorem zb_45_1 : zB 45 1 = [.iconst (-1), .ireturn] := rfl
theorem zb_45_2 : zB 45 2 = [.aload 0, .aload 1, .invokeinterface 42 2, .pop, .iconst 0, .istore 4, .aload 0, .aload 1, .iload 3, .iload 4, .invokeinterface 43 4, .istore 5, .iconst 0, .istore 6, .goto_w 3] := rfl
theorem zb_45_3 : zB 45 3 = [.iload 6, .iload 2, .if_icmp .ge 4, .iload 5, .iconst (-1), .if_icmp .eq 4, .iload 4, .iconst 1, .iload 5, .ishl, .ior, .istore 4, .aload 0, .aload 1, .iload 3, .iload 4, .invokeinterface 43 4, .istore 5, .iinc 6 1, .goto 3] := rfl
theorem zb_45_4 : zB 45 4 = [.iload 5, .ireturn] := rfl
theorem zb_46_0 : zB 46 0 = [.aload 0, .invokeinterface 57 1, .aload 0, .iconst 0, .putfield 320, .aload 0, .iconst 0, .putfield 321, .aload 0, .iconst 0, .putfield 322, .aload 0, .iconst 0, .putfield 323, .aload 0, .iconst (-1), .putfield 324, .aload 0, .iconst (-1), .putfield 325, .aload 0, .iconst 0, .putfield 326, .aload 0, .iconst 0, .putfield 327, .aload 0, .iconst 4, .iconst 60, .multianewarray 0 2, .putfield 328, .aload 0, .iconst 4, .iconst 200, .multianewarray 0 2, .putfield 329, .return_] := rfl
theorem zb_47_0 : zB 47 0 = [.aload 0, .iconst 1, .putfield 320, .aload 0, .iconst 0, .putfield 322, .aload 0, .iconst 1, .putfield 323, .aload 0, .iconst (-1), .putfield 324, .aload 0, .iconst (-1), .putfield 325, .aload 0, .iconst 0, .putfield 326, .aload 0, .iconst 0, .putfield 327, .aload 0, .aload 0, .aload 1, .iload 2, .iconst 0, .iload 3, .iconst 1, .invokeinterface 306 6, .putfield 321, .aload 0, .getfield 321, .invokeinterface 60 1, .ireturn] := rfl
theorem zb_48_0 : zB 48 0 = [.iload 5, .iconst 12, .if_icmp .lt 1, .iconst 0, .invokeinterface 59 1, .ireturn] := rfl
theorem zb_48_1 : zB 48 1 = [.aload 0, .iload 2, .iload 3, .iload 4, .invokeinterface 49 4, .istore 6, .aload 0, .dup, .getfield 323, .iconst 1, .iadd, .putfield 323, .aload 0, .aload 1, .aload 1, .getfield 451, .iconst 1, .aaload, .iload 2, .iaload, .iload 3, .iload 4, .iload 5, .iconst 1, .iadd, .invokeinterface 306 6, .istore 7, .iload 6, .iconst (-1), .if_icmp .eq 2, .iload 7, .invokeinterface 60 1, .ifCond .eq 2, .aload 0, .getfield 329, .iconst 3, .aaload, .iload 6, .iconst 1, .iastore, .goto_w 2] := rfl
theorem zb_48_2 : zB 48 2 = [.iload 7, .ireturn] := rfl
theorem zb_49_0 : zB 49 0 = [.aload 0, .getfield 327, .iconst 200, .if_icmp .lt 1, .iconst (-1), .ireturn] := rfl
theorem zb_49_1 : zB 49 1 = [.aload 0, .getfield 327, .istore 4, .aload 0, .getfield 329, .iconst 0, .aaload, .iload 4, .iload 1, .iastore, .aload 0, .getfield 329, .iconst 1, .aaload, .iload 4, .iload 2, .iastore, .aload 0, .getfield 329, .iconst 2, .aaload, .iload 4, .iload 3, .iastore, .aload 0, .getfield 329, .iconst 3, .aaload, .iload 4, .iconst 0, .iastore, .aload 0, .dup, .getfield 327, .iconst 1, .iadd, .putfield 327, .iload 4, .ireturn] := rfl
theorem zb_50_0 : zB 50 0 = [.aload 0, .getfield 324, .iconst (-1), .if_icmp .ne 1, .aload 0, .iload 1, .putfield 324, .goto_w 1] := rfl
theorem zb_50_1 : zB 50 1 = [.aload 0, .getfield 325, .iconst (-1), .if_icmp .ne 3, .iload 2, .iconst 1, .if_icmp .eq 2, .iload 2, .iconst 2, .if_icmp .ne 3, .goto_w 2] := rfl
theorem zb_50_2 : zB 50 2 = [.aload 0, .iload 1, .putfield 325, .goto_w 3] := rfl
theorem zb_50_3 : zB 50 3 = [.aload 0, .getfield 326, .iconst 60, .if_icmp .ge 4, .aload 0, .getfield 328, .iconst 0, .aaload, .aload 0, .getfield 326, .iload 1, .iastore, .aload 0, .getfield 328, .iconst 1, .aaload, .aload 0, .getfield 326, .iload 2, .iastore, .aload 0, .getfield 328, .iconst 2, .aaload, .aload 0, .getfield 326, .iload 3, .iastore, .aload 0, .getfield 328, .iconst 3, .aaload, .aload 0, .getfield 326, .iload 4, .iastore, .aload 0, .dup, .getfield 326, .iconst 1, .iadd, .putfield 326, .goto_w 4] := rfl
theorem zb_50_4 : zB 50 4 = [.return_] := rfl
theorem zb_51_0 : zB 51 0 = [.aload 0, .dup, .getfield 322, .iconst 1, .iadd, .putfield 322, .return_] := rfl
theorem zb_52_0 : zB 52 0 = [.aload 0, .getfield 320, .ifCond .eq 1, .iconst 0, .goto 2] := rfl
theorem zb_52_1 : zB 52 1 = [.iconst 3, .goto_w 2] := rfl
theorem zb_52_2 : zB 52 2 = [.ireturn] := rfl
theorem zb_53_0 : zB 53 0 = [.iload 1, .lookupswitch 6 #[(0, 1), (1, 2), (2, 3), (3, 4), (4, 5)]] := rfl
theorem zb_53_1 : zB 53 1 = [.aload 0, .getfield 321, .invokeinterface 61 1, .ireturn] := rfl
theorem zb_53_2 : zB 53 2 = [.aload 0, .getfield 322, .ireturn] := rfl
theorem zb_53_3 : zB 53 3 = [.aload 0, .getfield 326, .ireturn] := rfl
theorem zb_53_4 : zB 53 4 = [.aload 0, .getfield 327, .ireturn] := rfl
theorem zb_53_5 : zB 53 5 = [.aload 0, .invokeinterface 54 1, .ireturn] := rfl
theorem zb_53_6 : zB 53 6 = [.aload 0, .getfield 323, .ireturn] := rfl
theorem zb_54_0 : zB 54 0 = [.aload 0, .getfield 321, .invokeinterface 60 1, .ifCond .eq 1, .iconst (-1), .ireturn] := rfl
theorem zb_54_1 : zB 54 1 = [.aload 0, .getfield 325, .iconst (-1), .if_icmp .eq 2, .aload 0, .getfield 325, .goto 3] := rfl
theorem zb_54_2 : zB 54 2 = [.aload 0, .getfield 324, .goto_w 3] := rfl
theorem zb_54_3 : zB 54 3 = [.ireturn] := rfl
theorem zb_55_0 : zB 55 0 = [.iload 1, .ifCond .lt 1, .iload 1, .aload 0, .getfield 326, .if_icmp .lt 2, .goto_w 1] := rfl
theorem zb_55_1 : zB 55 1 = [.iconst (-1), .goto 3] := rfl
theorem zb_55_2 : zB 55 2 = [.aload 0, .getfield 328, .iload 2, .aaload, .iload 1, .iaload, .goto_w 3] := rfl
theorem zb_55_3 : zB 55 3 = [.ireturn] := rfl
theorem zb_56_0 : zB 56 0 = [.iload 1, .ifCond .lt 1, .iload 1, .aload 0, .getfield 327, .if_icmp .lt 2, .goto_w 1] := rfl
theorem zb_56_1 : zB 56 1 = [.iconst (-1), .goto 3] := rfl
theorem zb_56_2 : zB 56 2 = [.aload 0, .getfield 329, .iload 2, .aaload, .iload 1, .iaload, .goto_w 3] := rfl
theorem zb_56_3 : zB 56 3 = [.ireturn] := rfl
theorem zb_57_0 : zB 57 0 = [.aload 0, .monitorexit, .return_] := rfl
theorem zb_58_0 : zB 58 0 = [.iconst 2, .iload 0, .imul, .iconst 1, .iadd, .ireturn] := rfl
theorem zb_59_0 : zB 59 0 = [.iconst 2, .iload 0, .imul, .ireturn] := rfl
theorem zb_60_0 : zB 60 0 = [.iload 0, .iconst 1, .iand, .ifCond .eq 1, .iconst 1, .goto 2] := rfl
theorem zb_60_1 : zB 60 1 = [.iconst 0, .goto_w 2] := rfl
theorem zb_60_2 : zB 60 2 = [.ireturn] := rfl
theorem zb_61_0 : zB 61 0 = [.iload 0, .iconst 1, .ishr, .ireturn] := rfl
theorem zb_62_0 : zB 62 0 = [.aload 1, .iload 2, .invokeinterface 91 2, .ifCond .ne 1, .aload 0, .iload 2, .iconst 1, .iload 3, .iload 4, .invokevirtual 1, .iconst 0, .invokeinterface 59 1, .ireturn] := rfl
theorem zb_62_1 : zB 62 1 = [.aload 1, .iload 2, .invokeinterface 81 2, .istore 6, .iload 6, .iload 4, .if_icmp .le 2, .aload 0, .iload 2, .iconst 2, .iload 3, .iload 4, .iadd, .iload 4, .invokevirtual 1, .iload 4, .invokeinterface 59 1, .ireturn] := rfl
theorem zb_62_2 : zB 62 2 = [.iconst 0, .istore 7, .goto_w 3] := rfl
theorem zb_62_3 : zB 62 3 = [.iload 7, .aload 1, .getfield 449, .if_icmp .ge 7, .aload 1, .iload 7, .iload 2, .invokeinterface 84 3, .ifCond .ne 4, .goto 6] := rfl
theorem zb_62_4 : zB 62 4 = [.aload 0, .aload 1, .iload 7, .iload 3, .iload 4, .iload 6, .iload 5, .invokeinterface 63 7, .istore 8, .iload 8, .invokeinterface 61 1, .istore 6, .iload 8, .invokeinterface 60 1, .ifCond .ne 5, .aload 1, .iload 7, .invokeinterface 86 2, .ifCond .eq 5, .aload 0, .iload 2, .iconst 4, .iload 3, .iload 6, .iadd, .iload 4, .invokevirtual 1, .iload 6, .invokeinterface 59 1, .ireturn] := rfl
theorem zb_62_5 : zB 62 5 = [.iload 8, .invokeinterface 60 1, .ifCond .ne 6, .aload 0, .invokevirtual 2, .goto_w 6] := rfl
theorem zb_62_6 : zB 62 6 = [.iinc 7 1, .goto 3] := rfl
theorem zb_62_7 : zB 62 7 = [.iload 6, .invokeinterface 58 1, .ireturn] := rfl
theorem zb_63_0 : zB 63 0 = [.iload 5, .istore 7, .iload 2, .istore 8, .goto_w 1] := rfl
theorem zb_63_1 : zB 63 1 = [.iload 8, .aload 1, .getfield 449, .if_icmp .ge 4, .aload 1, .iload 8, .iload 2, .invokeinterface 85 3, .ifCond .eq 3, .aload 0, .aload 1, .iload 8, .iload 3, .iload 4, .iload 7, .iload 6, .invokeinterface 64 7, .istore 9, .iload 9, .invokeinterface 60 1, .ifCond .eq 2, .iload 9, .ireturn] := rfl
theorem zb_63_2 : zB 63 2 = [.iload 9, .invokeinterface 61 1, .istore 7, .goto_w 3] := rfl
theorem zb_63_3 : zB 63 3 = [.iinc 8 1, .goto 1] := rfl
theorem zb_63_4 : zB 63 4 = [.iload 7, .invokeinterface 59 1, .ireturn] := rfl
theorem zb_64_0 : zB 64 0 = [.iload 5, .istore 7, .aload 1, .getfield 451, .iconst 3, .aaload, .iload 2, .iaload, .istore 8, .iconst 0, .istore 9, .goto_w 1] := rfl
theorem zb_64_1 : zB 64 1 = [.iload 9, .iload 8, .if_icmp .ge 4, .iload 7, .iload 4, .if_icmp .lt 2, .aload 0, .aload 1, .getfield 451, .iconst 0, .aaload, .iload 2, .iaload, .iconst 3, .iload 3, .iload 7, .iadd, .iload 4, .invokevirtual 1, .iload 7, .invokeinterface 59 1, .ireturn] := rfl
theorem zb_64_2 : zB 64 2 = [.aload 1, .getfield 451, .iconst 2, .aaload, .iload 2, .iaload, .iload 4, .iload 7, .isub, .invokeinterface 301 2, .istore 10, .aload 0, .aload 1, .iload 2, .iload 3, .iload 7, .iadd, .iload 10, .iload 6, .invokevirtual 0, .istore 11, .iload 7, .iload 11, .invokeinterface 61 1, .iadd, .istore 7, .iload 11, .invokeinterface 60 1, .ifCond .eq 3, .iload 7, .invokeinterface 58 1, .ireturn] := rfl
theorem zb_64_3 : zB 64 3 = [.iinc 9 1, .goto 1] := rfl
theorem zb_64_4 : zB 64 4 = [.iload 7, .invokeinterface 59 1, .ireturn] := rfl
theorem zb_65_0 : zB 65 0 = [.aload 0, .monitorexit, .aload 0, .iconst 0, .putfield 448, .aload 0, .iconst 0, .putfield 449, .aload 0, .iconst 9, .iconst 12, .multianewarray 0 2, .putfield 450, .aload 0, .iconst 6, .iconst 24, .multianewarray 0 2, .putfield 451, .return_] := rfl
theorem zb_66_0 : zB 66 0 = [.aload 0, .aload 1, .getfield 448, .putfield 448, .aload 0, .aload 1, .getfield 449, .putfield 449, .iconst 0, .istore 2, .goto_w 1] := rfl
theorem zb_66_1 : zB 66 1 = [.iload 2, .iconst 8, .if_icmp .gt 2, .aload 1, .getfield 450, .iload 2, .aaload, .iconst 0, .aload 0, .getfield 450, .iload 2, .aaload, .iconst 0, .iconst 12, .pop2, .iinc 2 1, .goto 1] := rfl
theorem zb_66_2 : zB 66 2 = [.iconst 0, .istore 2, .goto_w 3] := rfl
theorem zb_66_3 : zB 66 3 = [.iload 2, .iconst 5, .if_icmp .gt 4, .aload 1, .getfield 451, .iload 2, .aaload, .iconst 0, .aload 0, .getfield 451, .iload 2, .aaload, .iconst 0, .iconst 24, .pop2, .iinc 2 1, .goto 3] := rfl
theorem zb_66_4 : zB 66 4 = [.return_] := rfl
theorem zb_67_0 : zB 67 0 = [.iload 1, .ifCond .lt 1, .iload 1, .aload 0, .getfield 448, .if_icmp .lt 2, .goto_w 1] := rfl
theorem zb_67_1 : zB 67 1 = [.iconst 1, .goto 3] := rfl
theorem zb_67_2 : zB 67 2 = [.iconst 0, .goto_w 3] := rfl
theorem zb_67_3 : zB 67 3 = [.ireturn] := rfl
theorem zb_68_0 : zB 68 0 = [.iload 1, .ifCond .lt 1, .iload 1, .aload 0, .getfield 449, .if_icmp .lt 2, .goto_w 1] := rfl
theorem zb_68_1 : zB 68 1 = [.iconst 1, .goto 3] := rfl
theorem zb_68_2 : zB 68 2 = [.iconst 0, .goto_w 3] := rfl
theorem zb_68_3 : zB 68 3 = [.ireturn] := rfl
theorem zb_69_0 : zB 69 0 = [.iload 1, .aload 0, .getfield 448, .iushr, .ifCond .eq 1, .iconst 2, .goto 2] := rfl
theorem zb_69_1 : zB 69 1 = [.iconst 0, .goto_w 2] := rfl
theorem zb_69_2 : zB 69 2 = [.ireturn] := rfl
theorem zb_70_0 : zB 70 0 = [.iload 1, .getstatic 0, .iconst 0, .iaload, .if_icmp .lt 1, .iload 1, .getstatic 1, .iconst 0, .iaload, .if_icmp .le 2, .goto_w 1] := rfl
theorem zb_70_1 : zB 70 1 = [.iconst 2, .ireturn] := rfl
theorem zb_70_2 : zB 70 2 = [.aload 0, .getfield 448, .iconst 12, .if_icmp .lt 3, .iconst 3, .goto 4] := rfl
theorem zb_70_3 : zB 70 3 = [.iconst 0, .goto_w 4] := rfl
theorem zb_70_4 : zB 70 4 = [.ireturn] := rfl
theorem zb_71_0 : zB 71 0 = [.aload 0, .getfield 448, .istore 2, .iconst 0, .istore 3, .goto_w 1] := rfl
theorem zb_71_1 : zB 71 1 = [.iload 3, .iconst 5, .if_icmp .gt 2, .aload 0, .getfield 450, .iload 3, .aaload, .iload 2, .getstatic 2, .iload 3, .iaload, .iastore, .iinc 3 1, .goto 1] := rfl
theorem zb_71_2 : zB 71 2 = [.aload 0, .getfield 450, .iconst 0, .aaload, .iload 2, .iload 1, .iastore, .aload 0, .getfield 450, .iconst 6, .aaload, .iload 2, .iconst 1, .iastore, .aload 0, .getfield 450, .iconst 7, .aaload, .iload 2, .iconst 0, .iastore, .aload 0, .getfield 450, .iconst 8, .aaload, .iload 2, .iconst (-1), .iastore, .aload 0, .dup, .getfield 448, .iconst 1, .iadd, .putfield 448, .iload 2, .ireturn] := rfl
theorem zb_72_0 : zB 72 0 = [.aload 0, .iload 1, .invokeinterface 67 2, .ifCond .ne 1, .aload 0, .iload 2, .invokeinterface 67 2, .ifCond .eq 2, .goto_w 1] := rfl
theorem zb_72_1 : zB 72 1 = [.iconst 1, .ireturn] := rfl
theorem zb_72_2 : zB 72 2 = [.iload 3, .iconst 1, .iconst 500, .invokeinterface 157 3, .ifCond .ne 3, .iload 4, .iconst 1, .iconst 3, .invokeinterface 157 3, .ifCond .ne 3, .iload 5, .iconst 0, .iconst 2, .invokeinterface 157 3, .ifCond .eq 4, .goto_w 3] := rfl
theorem zb_72_3 : zB 72 3 = [.iconst 2, .ireturn] := rfl
theorem zb_72_4 : zB 72 4 = [.iload 1, .iload 2, .if_icmp .eq 5, .aload 0, .iload 2, .invokeinterface 87 2, .iload 1, .invokeinterface 158 2, .ifCond .eq 6, .goto_w 5] := rfl
theorem zb_72_5 : zB 72 5 = [.iconst 3, .ireturn] := rfl
theorem zb_72_6 : zB 72 6 = [.iload 5, .iconst 2, .if_icmp .ne 7, .aload 0, .iload 1, .invokeinterface 83 2, .iconst (-1), .if_icmp .ne 7, .iconst 3, .ireturn] := rfl
theorem zb_72_7 : zB 72 7 = [.aload 0, .getfield 449, .iconst 24, .if_icmp .lt 8, .iconst 3, .goto 9] := rfl
theorem zb_72_8 : zB 72 8 = [.iconst 0, .goto_w 9] := rfl
theorem zb_72_9 : zB 72 9 = [.ireturn] := rfl
theorem zb_73_0 : zB 73 0 = [.aload 0, .getfield 449, .istore 6, .aload 0, .getfield 451, .iconst 5, .aaload, .iload 6, .iload 5, .iconst 2, .if_icmp .ne 1, .aload 0, .iload 1, .invokeinterface 83 2, .goto 2] := rfl
theorem zb_73_1 : zB 73 1 = [.iconst (-1), .goto_w 2] := rfl
theorem zb_73_2 : zB 73 2 = [.iastore, .aload 0, .getfield 451, .iconst 0, .aaload, .iload 6, .iload 1, .iastore, .aload 0, .getfield 451, .iconst 1, .aaload, .iload 6, .iload 2, .iastore, .aload 0, .getfield 451, .iconst 2, .aaload, .iload 6, .iload 3, .iastore, .aload 0, .getfield 451, .iconst 3, .aaload, .iload 6, .iload 4, .iastore, .aload 0, .getfield 451, .iconst 4, .aaload, .iload 6, .iload 5, .iastore, .aload 0, .dup, .getfield 449, .iconst 1, .iadd, .putfield 449, .iload 6, .ireturn] := rfl
theorem zb_74_0 : zB 74 0 = [.aload 0, .iload 1, .invokeinterface 68 2, .ifCond .eq 1, .iconst 1, .ireturn] := rfl
theorem zb_74_1 : zB 74 1 = [.iconst 0, .istore 2, .goto_w 2] := rfl
theorem zb_74_2 : zB 74 2 = [.iload 2, .aload 0, .getfield 449, .if_icmp .ge 4, .aload 0, .getfield 451, .iconst 5, .aaload, .iload 2, .iaload, .iload 1, .if_icmp .ne 3, .iconst 3, .ireturn] := rfl
theorem zb_74_3 : zB 74 3 = [.iinc 2 1, .goto 2] := rfl
theorem zb_74_4 : zB 74 4 = [.iconst 0, .ireturn] := rfl
theorem zb_75_0 : zB 75 0 = [.aload 0, .dup, .getfield 449, .iconst 1, .isub, .putfield 449, .iconst 0, .istore 2, .goto_w 1] := rfl
theorem zb_75_1 : zB 75 1 = [.iload 2, .iconst 5, .if_icmp .gt 2, .aload 0, .getfield 451, .iload 2, .aaload, .iload 1, .iconst 1, .iadd, .aload 0, .getfield 451, .iload 2, .aaload, .iload 1, .aload 0, .getfield 449, .iload 1, .isub, .pop2, .iinc 2 1, .goto 1] := rfl
theorem zb_75_2 : zB 75 2 = [.iconst 0, .istore 2, .goto_w 3] := rfl
theorem zb_75_3 : zB 75 3 = [.iload 2, .aload 0, .getfield 449, .if_icmp .ge 5, .aload 0, .getfield 451, .iconst 5, .aaload, .iload 2, .iaload, .iload 1, .if_icmp .le 4, .aload 0, .getfield 451, .iconst 5, .aaload, .iload 2, .dup2, .iaload, .iconst 1, .isub, .iastore, .goto_w 4] := rfl
theorem zb_75_4 : zB 75 4 = [.iinc 2 1, .goto 3] := rfl
theorem zb_75_5 : zB 75 5 = [.aload 0, .getfield 449, .ireturn] := rfl
theorem zb_76_0 : zB 76 0 = [.aload 0, .iload 2, .invokeinterface 67 2, .ifCond .eq 1, .iconst 1, .ireturn] := rfl
theorem zb_76_1 : zB 76 1 = [.iload 1, .ifCond .lt 2, .iload 1, .iconst 5, .if_icmp .le 3, .goto_w 2] := rfl
theorem zb_76_2 : zB 76 2 = [.iconst 2, .ireturn] := rfl
theorem zb_76_3 : zB 76 3 = [.iload 3, .getstatic 0, .iload 1, .iaload, .getstatic 1, .iload 1, .iaload, .invokeinterface 157 3, .ireturn] := rfl
theorem zb_77_0 : zB 77 0 = [.aload 0, .getfield 450, .iload 1, .aaload, .iload 2, .iaload, .istore 4, .aload 0, .getfield 450, .iload 1, .aaload, .iload 2, .iload 3, .iastore, .iload 4, .ireturn] := rfl
theorem zb_78_0 : zB 78 0 = [.aload 0, .iload 1, .invokeinterface 68 2, .ifCond .eq 1, .iconst 1, .goto 2] := rfl
theorem zb_78_1 : zB 78 1 = [.iload 2, .iconst 1, .iconst 500, .invokeinterface 157 3, .goto_w 2] := rfl
theorem zb_78_2 : zB 78 2 = [.ireturn] := rfl
theorem zb_79_0 : zB 79 0 = [.aload 0, .getfield 451, .iconst 2, .aaload, .iload 1, .iaload, .istore 3, .aload 0, .getfield 451, .iconst 2, .aaload, .iload 1, .iload 2, .iastore, .iload 3, .ireturn] := rfl
theorem zb_80_0 : zB 80 0 = [.iload 2, .iconst 8, .if_icmp .gt 1, .aload 0, .getfield 450, .iload 2, .aaload, .iload 1, .iaload, .ireturn] := rfl
theorem zb_80_1 : zB 80 1 = [.iload 2, .iconst 9, .if_icmp .ne 2, .aload 0, .iload 1, .invokeinterface 81 2, .goto 3] := rfl
theorem zb_80_2 : zB 80 2 = [.aload 0, .iload 1, .invokeinterface 82 2, .goto_w 3] := rfl
theorem zb_80_3 : zB 80 3 = [.ireturn] := rfl
theorem zb_81_0 : zB 81 0 = [.aload 0, .getfield 450, .iconst 0, .aaload, .iload 1, .iaload, .aload 0, .getfield 450, .iconst 1, .aaload, .iload 1, .iaload, .imul, .iconst 99, .iadd, .iconst 100, .idiv, .ireturn] := rfl
theorem zb_82_0 : zB 82 0 = [.iconst 0, .istore 2, .iconst 0, .istore 3, .goto_w 1] := rfl
theorem zb_82_1 : zB 82 1 = [.iload 3, .aload 0, .getfield 449, .if_icmp .ge 3, .aload 0, .getfield 451, .iconst 0, .aaload, .iload 3, .iaload, .iload 1, .if_icmp .ne 2, .iinc 2 1, .goto_w 2] := rfl
theorem zb_82_2 : zB 82 2 = [.iinc 3 1, .goto 1] := rfl
theorem zb_82_3 : zB 82 3 = [.iload 2, .ireturn] := rfl
theorem zb_83_0 : zB 83 0 = [.aload 0, .getfield 449, .iconst 1, .isub, .istore 2, .goto_w 1] := rfl
theorem zb_83_1 : zB 83 1 = [.iload 2, .ifCond .lt 3, .aload 0, .iload 2, .iload 1, .invokeinterface 84 3, .ifCond .eq 2, .iload 2, .ireturn] := rfl
theorem zb_83_2 : zB 83 2 = [.iinc 2 (-1), .goto 1] := rfl
theorem zb_83_3 : zB 83 3 = [.iconst (-1), .ireturn] := rfl
theorem zb_84_0 : zB 84 0 = [.aload 0, .getfield 451, .iconst 0, .aaload, .iload 1, .iaload, .iload 2, .if_icmp .ne 1, .aload 0, .getfield 451, .iconst 4, .aaload, .iload 1, .iaload, .iconst 2, .if_icmp .eq 1, .iconst 1, .goto 2] := rfl
theorem zb_84_1 : zB 84 1 = [.iconst 0, .goto_w 2] := rfl
theorem zb_84_2 : zB 84 2 = [.ireturn] := rfl
theorem zb_85_0 : zB 85 0 = [.iload 1, .iload 2, .if_icmp .eq 1, .aload 0, .getfield 451, .iconst 5, .aaload, .iload 1, .iaload, .iload 2, .if_icmp .ne 2, .goto_w 1] := rfl
theorem zb_85_1 : zB 85 1 = [.iconst 1, .goto 3] := rfl
theorem zb_85_2 : zB 85 2 = [.iconst 0, .goto_w 3] := rfl
theorem zb_85_3 : zB 85 3 = [.ireturn] := rfl
theorem zb_86_0 : zB 86 0 = [.aload 0, .getfield 451, .iconst 4, .aaload, .iload 1, .iaload, .ifCond .ne 1, .iconst 1, .goto 2] := rfl
theorem zb_86_1 : zB 86 1 = [.iconst 0, .goto_w 2] := rfl
theorem zb_86_2 : zB 86 2 = [.ireturn] := rfl
theorem zb_87_0 : zB 87 0 = [.iconst 1, .iload 1, .ishl, .istore 2, .iconst 0, .istore 3, .iconst 0, .istore 4, .goto_w 1] := rfl
theorem zb_87_1 : zB 87 1 = [.iload 4, .aload 0, .getfield 448, .if_icmp .ge 3, .aload 0, .iload 2, .invokeinterface 88 2, .istore 5, .iload 5, .iload 3, .iconst (-1), .ixor, .iand, .ifCond .ne 2, .iload 3, .ireturn] := rfl
theorem zb_87_2 : zB 87 2 = [.iload 3, .iload 5, .ior, .istore 3, .iload 2, .iload 5, .ior, .istore 2, .iinc 4 1, .goto 1] := rfl
theorem zb_87_3 : zB 87 3 = [.iload 3, .ireturn] := rfl
theorem zb_88_0 : zB 88 0 = [.iconst 0, .istore 2, .iconst 0, .istore 3, .goto_w 1] := rfl
theorem zb_88_1 : zB 88 1 = [.iload 3, .aload 0, .getfield 449, .if_icmp .ge 3, .iload 1, .aload 0, .getfield 451, .iconst 0, .aaload, .iload 3, .iaload, .invokeinterface 158 2, .ifCond .eq 2, .iload 2, .iconst 1, .aload 0, .getfield 451, .iconst 1, .aaload, .iload 3, .iaload, .ishl, .ior, .istore 2, .goto_w 2] := rfl
theorem zb_88_2 : zB 88 2 = [.iinc 3 1, .goto 1] := rfl
theorem zb_88_3 : zB 88 3 = [.iload 2, .ireturn] := rfl
theorem zb_89_0 : zB 89 0 = [.iconst 0, .istore 3, .goto_w 1] := rfl
theorem zb_89_1 : zB 89 1 = [.iload 3, .aload 0, .getfield 449, .if_icmp .ge 3, .aload 0, .iload 3, .iload 1, .invokeinterface 84 3, .ifCond .eq 2, .aload 0, .iload 3, .invokeinterface 86 2, .ifCond .eq 2, .aload 0, .iload 3, .iload 2, .invokeinterface 90 3, .ifCond .eq 2, .iconst 1, .ireturn] := rfl
theorem zb_89_2 : zB 89 2 = [.iinc 3 1, .goto 1] := rfl
theorem zb_89_3 : zB 89 3 = [.iconst 0, .ireturn] := rfl
theorem zb_90_0 : zB 90 0 = [.iload 1, .istore 3, .goto_w 1] := rfl
theorem zb_90_1 : zB 90 1 = [.iload 3, .aload 0, .getfield 449, .if_icmp .ge 3, .aload 0, .iload 3, .iload 1, .invokeinterface 85 3, .ifCond .eq 2, .iload 2, .aload 0, .getfield 451, .iconst 1, .aaload, .iload 3, .iaload, .invokeinterface 158 2, .ifCond .ne 2, .iconst 0, .ireturn] := rfl
theorem zb_90_2 : zB 90 2 = [.iinc 3 1, .goto 1] := rfl
theorem zb_90_3 : zB 90 3 = [.iconst 1, .ireturn] := rfl
theorem zb_91_0 : zB 91 0 = [.aload 0, .getfield 450, .iconst 6, .aaload, .iload 1, .iaload, .iconst 1, .if_icmp .ne 1, .iconst 1, .goto 2] := rfl
theorem zb_91_1 : zB 91 1 = [.iconst 0, .goto_w 2] := rfl
theorem zb_91_2 : zB 91 2 = [.ireturn] := rfl
theorem zb_92_0 : zB 92 0 = [.iconst 0, .istore 1, .iconst 0, .istore 2, .goto_w 1] := rfl
theorem zb_92_1 : zB 92 1 = [.iload 2, .aload 0, .getfield 448, .if_icmp .ge 3, .aload 0, .iload 2, .invokeinterface 91 2, .ifCond .ne 2, .iload 1, .iconst 1, .iload 2, .ishl, .ior, .istore 1, .goto_w 2] := rfl
theorem zb_92_2 : zB 92 2 = [.iinc 2 1, .goto 1] := rfl
theorem zb_92_3 : zB 92 3 = [.iload 1, .ireturn] := rfl
theorem zb_93_0 : zB 93 0 = [.aload 0, .getfield 448, .aload 0, .invokeinterface 92 1, .invokeinterface 302 1, .isub, .ireturn] := rfl
theorem zb_94_0 : zB 94 0 = [.aload 0, .iload 1, .invokeinterface 67 2, .ifCond .eq 1, .iconst 1, .ireturn] := rfl
theorem zb_94_1 : zB 94 1 = [.aload 0, .iload 1, .invokeinterface 91 2, .ifCond .eq 2, .iconst 0, .goto 3] := rfl
theorem zb_94_2 : zB 94 2 = [.iconst 3, .goto_w 3] := rfl
theorem zb_94_3 : zB 94 3 = [.ireturn] := rfl
theorem zb_95_0 : zB 95 0 = [.aload 0, .getfield 450, .iconst 6, .aaload, .iload 1, .iconst 0, .iastore, .aload 0, .getfield 450, .iconst 7, .aaload, .iload 1, .iconst 0, .iastore, .aload 0, .getfield 450, .iconst 8, .aaload, .iload 1, .iconst (-1), .iastore, .return_] := rfl
theorem zb_96_0 : zB 96 0 = [.aload 0, .iload 1, .invokeinterface 67 2, .ifCond .eq 1, .iconst 1, .ireturn] := rfl
theorem zb_96_1 : zB 96 1 = [.aload 0, .iload 1, .invokeinterface 91 2, .ifCond .ne 2, .aload 0, .getfield 450, .iconst 8, .aaload, .iload 1, .iaload, .iconst (-1), .if_icmp .eq 3, .goto_w 2] := rfl
theorem zb_96_2 : zB 96 2 = [.iconst 3, .goto 4] := rfl
theorem zb_96_3 : zB 96 3 = [.iconst 0, .goto_w 4] := rfl
theorem zb_96_4 : zB 96 4 = [.ireturn] := rfl
theorem zb_97_0 : zB 97 0 = [.aload 0, .getfield 450, .iconst 8, .aaload, .iload 1, .aload 0, .getfield 450, .iconst 3, .aaload, .iload 1, .iaload, .iastore, .aload 0, .getfield 450, .iconst 8, .aaload, .iload 1, .iaload, .ireturn] := rfl
theorem zb_98_0 : zB 98 0 = [.iconst 0, .istore 2, .goto_w 1] := rfl
theorem zb_98_1 : zB 98 1 = [.iload 2, .iload 1, .if_icmp .ge 2, .aload 0, .invokeinterface 99 1, .pop, .iinc 2 1, .goto 1] := rfl
theorem zb_98_2 : zB 98 2 = [.return_] := rfl
theorem zb_99_0 : zB 99 0 = [.aload 0, .invokeinterface 92 1, .istore 1, .iconst 0, .istore 2, .iconst 0, .istore 3, .goto_w 1] := rfl
theorem zb_99_1 : zB 99 1 = [.iload 3, .aload 0, .getfield 448, .if_icmp .ge 4, .aload 0, .iload 3, .iload 1, .invokeinterface 89 3, .istore 4, .iload 1, .iload 3, .invokeinterface 158 2, .ifCond .eq 2, .aload 0, .iload 3, .iload 4, .invokeinterface 100 3, .goto 3] := rfl
theorem zb_99_2 : zB 99 2 = [.aload 0, .iload 3, .iload 4, .invokeinterface 101 3, .aload 0, .getfield 450, .iconst 7, .aaload, .iload 3, .iaload, .aload 0, .getfield 450, .iconst 2, .aaload, .iload 3, .iaload, .if_icmp .lt 3, .aload 0, .iload 3, .invokeinterface 95 2, .iload 2, .iconst 1, .iload 3, .ishl, .ior, .istore 2, .goto_w 3] := rfl
theorem zb_99_3 : zB 99 3 = [.iinc 3 1, .goto 1] := rfl
theorem zb_99_4 : zB 99 4 = [.iload 2, .ireturn] := rfl
theorem zb_100_0 : zB 100 0 = [.aload 0, .getfield 450, .iconst 8, .aaload, .iload 1, .iaload, .istore 3, .iload 3, .iconst (-1), .if_icmp .ne 1, .return_] := rfl
theorem zb_100_1 : zB 100 1 = [.iload 3, .ifCond .le 2, .iinc 3 (-1), .goto_w 2] := rfl
theorem zb_100_2 : zB 100 2 = [.aload 0, .getfield 450, .iconst 8, .aaload, .iload 1, .iload 3, .iastore, .iload 3, .ifCond .ne 3, .iload 2, .ifCond .ne 3, .aload 0, .getfield 450, .iconst 6, .aaload, .iload 1, .iconst 1, .iastore, .aload 0, .getfield 450, .iconst 7, .aaload, .iload 1, .iconst 0, .iastore, .aload 0, .getfield 450, .iconst 8, .aaload, .iload 1, .iconst (-1), .iastore, .goto_w 3] := rfl
theorem zb_100_3 : zB 100 3 = [.return_] := rfl
theorem zb_101_0 : zB 101 0 = [.iload 2, .ifCond .eq 1, .aload 0, .getfield 450, .iconst 7, .aaload, .iload 1, .dup2, .iaload, .iconst 1, .iadd, .iastore, .goto 2] := rfl
theorem zb_101_1 : zB 101 1 = [.aload 0, .getfield 450, .iconst 7, .aaload, .iload 1, .iaload, .ifCond .le 2, .aload 0, .getfield 450, .iconst 7, .aaload, .iload 1, .dup2, .iaload, .iconst 1, .isub, .iastore, .goto_w 2] := rfl
theorem zb_101_2 : zB 101 2 = [.return_] := rfl
theorem zb_102_0 : zB 102 0 = [.aload 0, .monitorexit, .aload 0, .iconst 120, .newarray .int, .putfield 512, .aload 0, .iconst 0, .putfield 513, .aload 0, .iconst 40, .newarray .int, .putfield 514, .aload 0, .iconst 5, .iconst 40, .multianewarray 0 2, .putfield 515, .return_] := rfl
theorem zb_103_0 : zB 103 0 = [.aload 0, .getfield 513, .iconst 120, .if_icmp .lt 1, .iconst 3, .goto 2] := rfl
theorem zb_103_1 : zB 103 1 = [.iconst 0, .goto_w 2] := rfl
theorem zb_103_2 : zB 103 2 = [.ireturn] := rfl
theorem zb_104_0 : zB 104 0 = [.aload 0, .getfield 512, .aload 0, .getfield 513, .iload 1, .iastore, .aload 0, .dup, .getfield 513, .iconst 1, .iadd, .putfield 513, .aload 0, .getfield 513, .ireturn] := rfl
theorem zb_105_0 : zB 105 0 = [.aload 0, .getfield 513, .istore 1, .aload 0, .iconst 0, .putfield 513, .iload 1, .ireturn] := rfl
theorem zb_106_0 : zB 106 0 = [.iconst 0, .istore 1, .iconst 0, .istore 2, .goto_w 1] := rfl
theorem zb_106_1 : zB 106 1 = [.iload 2, .aload 0, .getfield 513, .if_icmp .ge 3, .iload 1, .iconst 40, .if_icmp .ge 3, .aload 0, .iload 2, .iload 1, .invokeinterface 109 3, .istore 2, .iload 2, .ifCond .ge 2, .iconst (-10), .iload 2, .invokeinterface 108 1, .isub, .ireturn] := rfl
theorem zb_106_2 : zB 106 2 = [.iinc 1 1, .goto 1] := rfl
theorem zb_106_3 : zB 106 3 = [.iload 1, .ireturn] := rfl
theorem zb_107_0 : zB 107 0 = [.iconst (-1), .iload 0, .isub, .ireturn] := rfl
theorem zb_108_0 : zB 108 0 = [.iconst (-1), .iload 0, .isub, .ireturn] := rfl
theorem zb_109_0 : zB 109 0 = [.aload 0, .getfield 512, .iload 1, .iaload, .invokeinterface 110 1, .istore 3, .iload 3, .ifCond .ne 1, .iload 1, .invokeinterface 107 1, .ireturn] := rfl
theorem zb_109_1 : zB 109 1 = [.aload 0, .getfield 514, .iload 2, .aload 0, .getfield 512, .iload 1, .iaload, .iastore, .iload 1, .iconst 1, .iadd, .istore 4, .iconst 0, .istore 5, .goto_w 2] := rfl
theorem zb_109_2 : zB 109 2 = [.iload 5, .iload 3, .if_icmp .ge 7, .aload 0, .iload 4, .invokeinterface 111 2, .istore 6, .iload 6, .iload 4, .if_icmp .eq 5, .iload 6, .aload 0, .getfield 513, .if_icmp .ge 5, .aload 0, .getfield 512, .iload 6, .iaload, .iload 5, .iconst 1, .iadd, .iload 3, .if_icmp .ge 3, .iconst 44, .goto 4] := rfl
theorem zb_109_3 : zB 109 3 = [.iconst 59, .goto_w 4] := rfl
theorem zb_109_4 : zB 109 4 = [.if_icmp .eq 6, .goto_w 5] := rfl
theorem zb_109_5 : zB 109 5 = [.iload 6, .invokeinterface 107 1, .ireturn] := rfl
theorem zb_109_6 : zB 109 6 = [.aload 0, .getfield 515, .iload 5, .aaload, .iload 2, .aload 0, .iload 4, .iload 6, .invokeinterface 112 3, .iastore, .iload 6, .iconst 1, .iadd, .istore 4, .iinc 5 1, .goto 2] := rfl
theorem zb_109_7 : zB 109 7 = [.iload 4, .ireturn] := rfl
theorem zb_110_0 : zB 110 0 = [.iload 0, .lookupswitch 4 #[(97, 1), (98, 4), (99, 3), (100, 1), (101, 4), (102, 4), (103, 4), (104, 4), (105, 4), (106, 4), (107, 4), (108, 4), (109, 4), (110, 4), (111, 4), (112, 2), (113, 4), (114, 1), (115, 1)]] := rfl
theorem zb_110_1 : zB 110 1 = [.iconst 1, .ireturn] := rfl
theorem zb_110_2 : zB 110 2 = [.iconst 3, .ireturn] := rfl
theorem zb_110_3 : zB 110 3 = [.iconst 5, .ireturn] := rfl
theorem zb_110_4 : zB 110 4 = [.iconst 0, .ireturn] := rfl
theorem zb_111_0 : zB 111 0 = [.iload 1, .istore 2, .goto_w 1] := rfl
theorem zb_111_1 : zB 111 1 = [.iload 2, .aload 0, .getfield 513, .if_icmp .ge 2, .iload 2, .iload 1, .iconst 3, .iadd, .if_icmp .ge 2, .aload 0, .getfield 512, .iload 2, .iaload, .iconst 48, .if_icmp .lt 2, .aload 0, .getfield 512, .iload 2, .iaload, .iconst 57, .if_icmp .gt 2, .iinc 2 1, .goto 1] := rfl
theorem zb_111_2 : zB 111 2 = [.iload 2, .ireturn] := rfl
theorem zb_112_0 : zB 112 0 = [.iconst 0, .istore 3, .iload 1, .istore 4, .goto_w 1] := rfl
theorem zb_112_1 : zB 112 1 = [.iload 4, .iload 2, .if_icmp .ge 2, .iconst 10, .iload 3, .imul, .aload 0, .getfield 512, .iload 4, .iaload, .iadd, .iconst 48, .isub, .istore 3, .iinc 4 1, .goto 1] := rfl
theorem zb_112_2 : zB 112 2 = [.iload 3, .ireturn] := rfl
theorem zb_113_0 : zB 113 0 = [.aload 0, .getfield 515, .iconst 0, .aaload, .iload 2, .iaload, .istore 3, .aload 0, .getfield 515, .iconst 1, .aaload, .iload 2, .iaload, .istore 4, .aload 0, .getfield 515, .iconst 2, .aaload, .iload 2, .iaload, .istore 5, .aload 0, .getfield 514, .iload 2, .iaload, .lookupswitch 6 #[(97, 1), (99, 2), (100, 3), (114, 4), (115, 5)]] := rfl
theorem zb_113_1 : zB 113 1 = [.aload 1, .iload 3, .invokeinterface 70 2, .ireturn] := rfl
theorem zb_113_2 : zB 113 2 = [.aload 1, .iload 3, .iload 4, .iload 5, .aload 0, .getfield 515, .iconst 3, .aaload, .iload 2, .iaload, .aload 0, .getfield 515, .iconst 4, .aaload, .iload 2, .iaload, .invokeinterface 72 6, .ireturn] := rfl
theorem zb_113_3 : zB 113 3 = [.aload 1, .iload 3, .invokeinterface 94 2, .ireturn] := rfl
theorem zb_113_4 : zB 113 4 = [.aload 1, .iload 3, .invokeinterface 96 2, .ireturn] := rfl
theorem zb_113_5 : zB 113 5 = [.iload 3, .iconst 1, .iconst 50, .invokeinterface 157 3, .ireturn] := rfl
theorem zb_113_6 : zB 113 6 = [.aload 1, .iload 3, .iload 4, .iload 5, .invokeinterface 76 4, .ireturn] := rfl
theorem zb_114_0 : zB 114 0 = [.aload 0, .getfield 515, .iconst 0, .aaload, .iload 2, .iaload, .istore 3, .aload 0, .getfield 515, .iconst 1, .aaload, .iload 2, .iaload, .istore 4, .aload 0, .getfield 515, .iconst 2, .aaload, .iload 2, .iaload, .istore 5, .aload 0, .getfield 514, .iload 2, .iaload, .lookupswitch 6 #[(97, 1), (99, 2), (100, 3), (114, 4), (115, 5)]] := rfl
theorem zb_114_1 : zB 114 1 = [.aload 1, .iload 3, .invokeinterface 71 2, .pop, .goto 7] := rfl
theorem zb_114_2 : zB 114 2 = [.aload 1, .iload 3, .iload 4, .iload 5, .aload 0, .getfield 515, .iconst 3, .aaload, .iload 2, .iaload, .aload 0, .getfield 515, .iconst 4, .aaload, .iload 2, .iaload, .invokeinterface 73 6, .pop, .goto 7] := rfl
theorem zb_114_3 : zB 114 3 = [.aload 1, .iload 3, .invokeinterface 95 2, .goto 7] := rfl
theorem zb_114_4 : zB 114 4 = [.aload 1, .iload 3, .invokeinterface 97 2, .pop, .goto 7] := rfl
theorem zb_114_5 : zB 114 5 = [.aload 1, .iload 3, .invokeinterface 98 2, .goto 7] := rfl
theorem zb_114_6 : zB 114 6 = [.aload 1, .iload 3, .iload 4, .iload 5, .invokeinterface 77 4, .pop, .goto_w 7] := rfl
theorem zb_114_7 : zB 114 7 = [.return_] := rfl
theorem zb_115_0 : zB 115 0 = [.aload 0, .monitorexit, .aload 0, .new 7, .dup, .invokeinterface 65 1, .putfield 576, .aload 0, .new 7, .dup, .invokeinterface 65 1, .putfield 577, .aload 0, .new 3, .dup, .invokeinterface 31 1, .putfield 578, .aload 0, .new 2, .dup, .invokeinterface 17 1, .putfield 579, .aload 0, .new 5, .dup, .invokeinterface 46 1, .putfield 580, .aload 0, .new 0, .dup, .invokeinterface 0 1, .putfield 581, .aload 0, .new 4, .dup, .invokeinterface 36 1, .putfield 582, .aload 0, .new 1, .dup, .invokeinterface 6 1, .putfield 583, .aload 0, .new 8, .dup, .invokeinterface 102 1, .putfield 584, .return_] := rfl
theorem zb_116_0 : zB 116 0 = [.aload 0, .getfield 576, .iload 1, .invokeinterface 70 2, .invokeinterface 156 1, .aload 0, .getfield 578, .aload 0, .getfield 576, .invokeinterface 32 2, .aload 0, .getfield 576, .iload 1, .invokeinterface 71 2, .ireturn] := rfl
theorem zb_117_0 : zB 117 0 = [.aload 0, .getfield 576, .iload 1, .iload 2, .iload 3, .iload 4, .iload 5, .invokeinterface 72 6, .invokeinterface 156 1, .aload 0, .getfield 578, .aload 0, .getfield 576, .invokeinterface 32 2, .aload 0, .getfield 576, .iload 1, .iload 2, .iload 3, .iload 4, .iload 5, .invokeinterface 73 6, .ireturn] := rfl
theorem zb_118_0 : zB 118 0 = [.aload 0, .getfield 576, .iload 1, .invokeinterface 74 2, .invokeinterface 156 1, .aload 0, .getfield 578, .aload 0, .getfield 576, .invokeinterface 32 2, .aload 0, .getfield 576, .iload 1, .invokeinterface 75 2, .ireturn] := rfl
theorem zb_119_0 : zB 119 0 = [.aload 0, .getfield 576, .iload 1, .iload 2, .iload 3, .invokeinterface 76 4, .invokeinterface 156 1, .aload 0, .getfield 578, .aload 0, .getfield 576, .invokeinterface 32 2, .aload 0, .getfield 576, .iload 1, .iload 2, .iload 3, .invokeinterface 77 4, .ireturn] := rfl
theorem zb_120_0 : zB 120 0 = [.aload 0, .getfield 576, .iload 1, .iload 2, .invokeinterface 78 3, .invokeinterface 156 1, .aload 0, .getfield 578, .aload 0, .getfield 576, .invokeinterface 32 2, .aload 0, .getfield 576, .iload 1, .iload 2, .invokeinterface 79 3, .ireturn] := rfl
theorem zb_121_0 : zB 121 0 = [.aload 0, .getfield 576, .getfield 448, .ireturn] := rfl
theorem zb_122_0 : zB 122 0 = [.aload 0, .getfield 576, .getfield 449, .ireturn] := rfl
theorem zb_123_0 : zB 123 0 = [.aload 0, .getfield 576, .iload 1, .invokeinterface 67 2, .invokeinterface 156 1, .iload 2, .iconst 0, .iconst 10, .invokeinterface 157 3, .invokeinterface 156 1, .aload 0, .getfield 576, .iload 1, .iload 2, .invokeinterface 80 3, .ireturn] := rfl
theorem zb_124_0 : zB 124 0 = [.aload 0, .getfield 576, .iload 1, .invokeinterface 68 2, .invokeinterface 156 1, .iload 2, .iconst 0, .iconst 5, .invokeinterface 157 3, .invokeinterface 156 1, .aload 0, .getfield 576, .getfield 451, .iload 2, .aaload, .iload 1, .iaload, .ireturn] := rfl
theorem zb_125_0 : zB 125 0 = [.aload 0, .getfield 576, .iload 1, .invokeinterface 67 2, .invokeinterface 156 1, .aload 0, .getfield 576, .iload 2, .invokeinterface 67 2, .invokeinterface 156 1, .aload 0, .getfield 576, .iload 1, .invokeinterface 87 2, .iload 2, .invokeinterface 158 2, .ireturn] := rfl
theorem zb_126_0 : zB 126 0 = [.aload 0, .getfield 579, .aload 0, .getfield 576, .invokeinterface 18 2, .aload 0, .getfield 579, .iload 1, .invokeinterface 21 2, .ireturn] := rfl
theorem zb_127_0 : zB 127 0 = [.aload 0, .getfield 576, .iload 1, .invokeinterface 67 2, .invokeinterface 156 1, .aload 0, .getfield 579, .aload 0, .getfield 576, .invokeinterface 23 2, .aload 0, .getfield 579, .getfield 131, .iload 1, .iaload, .ireturn] := rfl
theorem zb_128_0 : zB 128 0 = [.aload 0, .getfield 576, .iload 1, .invokeinterface 67 2, .invokeinterface 156 1, .iload 2, .iconst 0, .iconst 1000, .invokeinterface 157 3, .invokeinterface 156 1, .aload 0, .getfield 580, .aload 0, .getfield 576, .iload 1, .iload 2, .invokeinterface 47 4, .ireturn] := rfl
theorem zb_129_0 : zB 129 0 = [.iload 1, .iconst 0, .iconst 5, .invokeinterface 157 3, .invokeinterface 156 1, .aload 0, .getfield 580, .invokeinterface 52 1, .invokeinterface 156 1, .aload 0, .getfield 580, .iload 1, .invokeinterface 53 2, .ireturn] := rfl
theorem zb_130_0 : zB 130 0 = [.iload 2, .iconst 0, .iconst 3, .invokeinterface 157 3, .invokeinterface 156 1, .aload 0, .getfield 580, .iload 1, .iload 2, .invokeinterface 55 3, .ireturn] := rfl
theorem zb_131_0 : zB 131 0 = [.iload 2, .iconst 0, .iconst 3, .invokeinterface 157 3, .invokeinterface 156 1, .aload 0, .getfield 580, .iload 1, .iload 2, .invokeinterface 56 3, .ireturn] := rfl
theorem zb_132_0 : zB 132 0 = [.aload 0, .getfield 576, .iload 1, .invokeinterface 67 2, .invokeinterface 156 1, .aload 0, .getfield 581, .aload 0, .getfield 576, .iload 1, .invokeinterface 1 3, .ireturn] := rfl
theorem zb_133_0 : zB 133 0 = [.aload 0, .getfield 576, .iload 1, .invokeinterface 67 2, .invokeinterface 156 1, .aload 0, .getfield 579, .aload 0, .getfield 576, .invokeinterface 25 2, .aload 0, .getfield 579, .getfield 132, .iload 1, .iaload, .ireturn] := rfl
theorem zb_134_0 : zB 134 0 = [.aload 0, .getfield 579, .aload 0, .getfield 576, .invokeinterface 25 2, .aload 0, .getfield 579, .aload 0, .getfield 576, .invokeinterface 27 2, .ireturn] := rfl
theorem zb_135_0 : zB 135 0 = [.aload 0, .getfield 578, .aload 0, .getfield 576, .invokeinterface 32 2, .aload 0, .getfield 579, .aload 0, .getfield 576, .invokeinterface 28 2, .ireturn] := rfl
theorem zb_136_0 : zB 136 0 = [.aload 0, .getfield 576, .iload 1, .invokeinterface 94 2, .invokeinterface 156 1, .aload 0, .getfield 578, .aload 0, .getfield 576, .invokeinterface 32 2, .aload 0, .getfield 576, .iload 1, .invokeinterface 95 2, .aload 0, .getfield 576, .invokeinterface 93 1, .ireturn] := rfl
theorem zb_137_0 : zB 137 0 = [.aload 0, .getfield 576, .iload 1, .invokeinterface 96 2, .invokeinterface 156 1, .aload 0, .getfield 578, .aload 0, .getfield 576, .invokeinterface 32 2, .aload 0, .getfield 576, .iload 1, .invokeinterface 97 2, .ireturn] := rfl
theorem zb_138_0 : zB 138 0 = [.iload 1, .iconst 1, .iconst 50, .invokeinterface 157 3, .invokeinterface 156 1, .aload 0, .getfield 578, .aload 0, .getfield 576, .invokeinterface 32 2, .aload 0, .getfield 576, .iload 1, .invokeinterface 98 2, .aload 0, .getfield 576, .invokeinterface 93 1, .ireturn] := rfl
theorem zb_139_0 : zB 139 0 = [.aload 0, .getfield 576, .invokeinterface 92 1, .ireturn] := rfl
theorem zb_140_0 : zB 140 0 = [.aload 0, .getfield 576, .iload 1, .invokeinterface 94 2, .invokeinterface 156 1, .aload 0, .getfield 577, .aload 0, .getfield 576, .invokeinterface 66 2, .aload 0, .getfield 577, .iload 1, .invokeinterface 95 2, .aload 0, .getfield 577, .iconst 40, .invokeinterface 98 2, .aload 0, .getfield 577, .invokeinterface 92 1, .ireturn] := rfl
theorem zb_141_0 : zB 141 0 = [.aload 0, .getfield 576, .iload 1, .invokeinterface 94 2, .invokeinterface 156 1, .aload 0, .getfield 577, .aload 0, .getfield 576, .invokeinterface 66 2, .aload 0, .getfield 577, .iload 1, .invokeinterface 95 2, .iconst 1, .istore 2, .goto_w 1] := rfl
theorem zb_141_1 : zB 141 1 = [.iload 2, .iconst 40, .if_icmp .gt 3, .aload 0, .getfield 577, .invokeinterface 99 1, .ifCond .eq 2, .iload 2, .ireturn] := rfl
theorem zb_141_2 : zB 141 2 = [.iinc 2 1, .goto 1] := rfl
theorem zb_141_3 : zB 141 3 = [.iconst (-1), .ireturn] := rfl
theorem zb_142_0 : zB 142 0 = [.iload 1, .iconst 1, .iconst 4, .invokeinterface 157 3, .invokeinterface 156 1, .aload 0, .getfield 582, .aload 0, .getfield 576, .iload 1, .invokeinterface 38 3, .ireturn] := rfl
theorem zb_143_0 : zB 143 0 = [.iload 1, .iconst 1, .iconst 4, .invokeinterface 157 3, .invokeinterface 156 1, .aload 0, .getfield 576, .iload 2, .invokeinterface 67 2, .invokeinterface 156 1, .aload 0, .getfield 576, .iload 2, .invokeinterface 91 2, .ifCond .eq 1, .iconst (-1), .ireturn] := rfl
theorem zb_143_1 : zB 143 1 = [.aload 0, .getfield 582, .aload 0, .getfield 576, .iload 1, .invokeinterface 38 3, .pop, .aload 0, .getfield 582, .getfield 257, .iload 2, .iaload, .ireturn] := rfl
theorem zb_144_0 : zB 144 0 = [.aload 0, .getfield 582, .aload 0, .getfield 576, .invokeinterface 42 2, .ireturn] := rfl
theorem zb_145_0 : zB 145 0 = [.aload 0, .getfield 582, .aload 0, .getfield 576, .iload 1, .invokeinterface 45 3, .ireturn] := rfl
theorem zb_146_0 : zB 146 0 = [.aload 0, .getfield 576, .iload 1, .invokeinterface 67 2, .invokeinterface 156 1, .aload 0, .getfield 576, .iload 2, .invokeinterface 69 2, .invokeinterface 156 1, .aload 0, .getfield 579, .aload 0, .getfield 576, .invokeinterface 18 2, .aload 0, .getfield 579, .aload 0, .getfield 576, .iload 2, .invokeinterface 30 3, .iload 1, .invokeinterface 158 2, .ireturn] := rfl
theorem zb_147_0 : zB 147 0 = [.aload 0, .getfield 576, .iload 1, .invokeinterface 67 2, .invokeinterface 156 1, .iload 2, .iconst 1, .iconst 12, .invokeinterface 157 3, .invokeinterface 156 1, .aload 0, .getfield 579, .aload 0, .getfield 576, .invokeinterface 18 2, .aload 0, .getfield 583, .aload 0, .getfield 576, .aload 0, .getfield 579, .invokeinterface 7 3, .aload 0, .getfield 583, .aload 0, .getfield 576, .iload 1, .iload 2, .invokeinterface 12 4, .ireturn] := rfl
theorem zb_148_0 : zB 148 0 = [.aload 0, .getfield 576, .iload 1, .invokeinterface 67 2, .invokeinterface 156 1, .iload 2, .iconst 1, .iconst 12, .invokeinterface 157 3, .invokeinterface 156 1, .aload 0, .getfield 579, .aload 0, .getfield 576, .invokeinterface 18 2, .aload 0, .getfield 583, .aload 0, .getfield 576, .aload 0, .getfield 579, .invokeinterface 7 3, .aload 0, .getfield 583, .aload 0, .getfield 576, .iload 1, .iload 2, .iload 3, .invokeinterface 13 5, .ireturn] := rfl
theorem zb_149_0 : zB 149 0 = [.aload 0, .getfield 576, .iload 1, .invokeinterface 67 2, .invokeinterface 156 1, .aload 0, .getfield 579, .aload 0, .getfield 576, .invokeinterface 18 2, .aload 0, .getfield 583, .aload 0, .getfield 576, .aload 0, .getfield 579, .invokeinterface 7 3, .aload 0, .getfield 583, .aload 0, .getfield 576, .iload 1, .iconst (-1), .invokeinterface 14 4, .d2f, .invokeinterface 159 1, .ireturn] := rfl
theorem zb_150_0 : zB 150 0 = [.aload 0, .getfield 576, .iload 1, .invokeinterface 67 2, .invokeinterface 156 1, .aload 0, .getfield 579, .aload 0, .getfield 576, .invokeinterface 18 2, .aload 0, .getfield 583, .aload 0, .getfield 576, .aload 0, .getfield 579, .invokeinterface 7 3, .aload 0, .getfield 583, .aload 0, .getfield 576, .iload 1, .invokeinterface 16 3, .ireturn] := rfl
theorem zb_151_0 : zB 151 0 = [.iload 1, .iconst 0, .iconst 127, .invokeinterface 157 3, .invokeinterface 156 1, .aload 0, .getfield 584, .invokeinterface 103 1, .invokeinterface 156 1, .aload 0, .getfield 584, .iload 1, .invokeinterface 104 2, .ireturn] := rfl
theorem zb_152_0 : zB 152 0 = [.aload 0, .getfield 584, .invokeinterface 105 1, .ireturn] := rfl
theorem zb_153_0 : zB 153 0 = [.aload 0, .getfield 584, .invokeinterface 106 1, .istore 1, .iload 1, .ifCond .ge 1, .iload 1, .ireturn] := rfl
theorem zb_153_1 : zB 153 1 = [.aload 0, .getfield 577, .aload 0, .getfield 576, .invokeinterface 66 2, .iconst 0, .istore 2, .goto_w 2] := rfl
theorem zb_153_2 : zB 153 2 = [.iload 2, .iload 1, .if_icmp .ge 4, .aload 0, .getfield 584, .aload 0, .getfield 576, .iload 2, .invokeinterface 113 3, .ifCond .eq 3, .aload 0, .getfield 576, .aload 0, .getfield 577, .invokeinterface 66 2, .iconst (-1000), .iload 2, .isub, .ireturn] := rfl
theorem zb_153_3 : zB 153 3 = [.aload 0, .getfield 584, .aload 0, .getfield 576, .iload 2, .invokeinterface 114 3, .iinc 2 1, .goto 2] := rfl
theorem zb_153_4 : zB 153 4 = [.aload 0, .getfield 578, .aload 0, .getfield 577, .invokeinterface 32 2, .iload 1, .ireturn] := rfl
theorem zb_154_0 : zB 154 0 = [.aload 0, .getfield 578, .invokeinterface 34 1, .invokeinterface 156 1, .aload 0, .getfield 578, .aload 0, .getfield 576, .invokeinterface 35 2, .ireturn] := rfl
theorem zb_155_0 : zB 155 0 = [.aload 0, .getfield 579, .aload 0, .getfield 576, .invokeinterface 25 2, .jsr_w 57381, .aload 0, .getfield 576, .getfield 448, .i2l, .ladd, .lstore 1, .iconst 0, .istore 3, .goto_w 1] := rfl
theorem zb_155_1 : zB 155 1 = [.iload 3, .aload 0, .getfield 576, .getfield 448, .if_icmp .ge 4, .iconst 0, .istore 4, .goto_w 2] := rfl
theorem zb_155_2 : zB 155 2 = [.iload 4, .iconst 10, .if_icmp .gt 3, .jsr_w 31, .lload 1, .lmul, .aload 0, .getfield 576, .iload 3, .iload 4, .invokeinterface 80 3, .i2l, .ladd, .lstore 1, .iinc 4 1, .goto 2] := rfl
theorem zb_155_3 : zB 155 3 = [.jsr_w 31, .lload 1, .lmul, .aload 0, .getfield 579, .getfield 132, .iload 3, .iaload, .i2l, .ladd, .lstore 1, .iinc 3 1, .goto 1] := rfl
theorem zb_155_4 : zB 155 4 = [.jsr_w 31, .lload 1, .lmul, .aload 0, .getfield 576, .getfield 449, .i2l, .ladd, .lstore 1, .iconst 0, .istore 3, .goto_w 5] := rfl
theorem zb_155_5 : zB 155 5 = [.iload 3, .aload 0, .getfield 576, .getfield 449, .if_icmp .ge 8, .iconst 0, .istore 4, .goto_w 6] := rfl
theorem zb_155_6 : zB 155 6 = [.iload 4, .iconst 5, .if_icmp .gt 7, .jsr_w 31, .lload 1, .lmul, .aload 0, .getfield 576, .getfield 451, .iload 4, .aaload, .iload 3, .iaload, .i2l, .ladd, .lstore 1, .iinc 4 1, .goto 6] := rfl
theorem zb_155_7 : zB 155 7 = [.iinc 3 1, .goto 5] := rfl
theorem zb_155_8 : zB 155 8 = [.jsr_w 31, .lload 1, .lmul, .aload 0, .getfield 579, .aload 0, .getfield 576, .invokeinterface 27 2, .i2l, .ladd, .lstore 1, .jsr_w 31, .lload 1, .lmul, .aload 0, .getfield 576, .invokeinterface 92 1, .i2l, .ladd, .lstore 1, .jsr_w 31, .lload 1, .lmul, .aload 0, .getfield 582, .aload 0, .getfield 576, .iconst 2, .invokeinterface 38 3, .i2l, .ladd, .lstore 1, .jsr_w 31, .lload 1, .lmul, .aload 0, .getfield 582, .aload 0, .getfield 576, .invokeinterface 42 2, .i2l, .ladd, .lstore 1, .jsr_w 31, .lload 1, .lmul, .aload 0, .getfield 584, .getfield 513, .i2l, .ladd, .lstore 1, .jsr_w 31, .lload 1, .lmul, .aload 0, .getfield 578, .getfield 193, .i2l, .ladd, .lreturn] := rfl
theorem zb_157_0 : zB 157 0 = [.iload 0, .iload 1, .if_icmp .lt 1, .iload 0, .iload 2, .if_icmp .le 2, .goto_w 1] := rfl
theorem zb_157_1 : zB 157 1 = [.iconst 2, .goto 3] := rfl
theorem zb_157_2 : zB 157 2 = [.iconst 0, .goto_w 3] := rfl
theorem zb_157_3 : zB 157 3 = [.ireturn] := rfl
theorem zb_158_0 : zB 158 0 = [.iload 0, .iload 1, .ishr, .iconst 1, .iand, .ifCond .eq 1, .iconst 1, .goto 2] := rfl
theorem zb_158_1 : zB 158 1 = [.iconst 0, .goto_w 2] := rfl
theorem zb_158_2 : zB 158 2 = [.ireturn] := rfl
theorem zb_159_0 : zB 159 0 = [.fload 0, .f2d, .dstore 1, .dload 1, .jsr 0, .dcmp .g, .ifCond .gt 1, .iconst 0, .ireturn] := rfl
theorem zb_159_1 : zB 159 1 = [.iconst 127, .istore 3, .goto_w 2] := rfl
theorem zb_159_2 : zB 159 2 = [.dload 1, .jsr 4607182418800017408, .dcmp .g, .ifCond .ge 3, .iload 3, .iconst 1, .if_icmp .le 3, .dload 1, .jsr 4611686018427387904, .dmul, .dstore 1, .iinc 3 (-1), .goto 2] := rfl
theorem zb_159_3 : zB 159 3 = [.dload 1, .jsr 4607182418800017408, .dcmp .g, .ifCond .ge 4, .dload 1, .jsr 4710765210229538816, .dmul, .d2i, .ireturn] := rfl
theorem zb_159_4 : zB 159 4 = [.iload 3, .iconst 23, .ishl, .dload 1, .jsr 4607182418800017408, .dsub, .jsr 4710765210229538816, .dmul, .d2i, .iadd, .ireturn] := rfl
theorem zb_160_0 : zB 160 0 = [.aload 0, .monitorexit, .aload 0, .iconst 230, .newarray .int, .putfield 640, .aload 0, .iconst 920, .newarray .int, .putfield 641, .aload 0, .iconst 230, .newarray .int, .putfield 642, .aload 0, .iconst 120, .newarray .int, .putfield 644, .aload 0, .iconst 12, .newarray .int, .putfield 647, .aload 0, .iconst 12, .newarray .int, .putfield 648, .aload 0, .iconst 12, .newarray .int, .putfield 650, .aload 0, .iconst 13, .newarray .int, .putfield 651, .aload 0, .iconst 13, .newarray .int, .putfield 652, .aload 0, .iconst 13, .newarray .int, .putfield 653, .aload 0, .iconst 13, .newarray .int, .putfield 654, .aload 0, .iconst 13, .newarray .int, .putfield 655, .aload 0, .iconst 13, .newarray .int, .putfield 656, .aload 0, .iconst 13, .newarray .int, .putfield 657, .aload 0, .iconst 13, .newarray .boolean, .putfield 658, .aload 0, .iconst 13, .newarray .int, .putfield 659, .aload 0, .iconst 240, .newarray .int, .putfield 668, .aload 0, .iconst 800, .newarray .int, .putfield 669, .aload 0, .iconst 6, .newarray .int, .putfield 670, .aload 0, .iconst 240, .newarray .int, .putfield 671, .aload 0, .iconst 800, .newarray .int, .putfield 672, .aload 0, .iconst 12, .newarray .int, .putfield 675, .aload 0, .iconst 12, .newarray .int, .putfield 677, .aload 0, .iconst 4096, .newarray .int, .putfield 678, .aload 0, .iconst 4096, .newarray .boolean, .putfield 679, .aload 0, .iconst 5, .newarray .int, .putfield 682, .aload 0, .getfield 640, .iconst 0, .iconst 0, .iastore, .return_] := rfl
theorem zb_161_0 : zB 161 0 = [.aload 0, .getfield 646, .ireturn] := rfl
theorem zb_162_0 : zB 162 0 = [.iload 0, .iload 1, .if_icmp .lt 1, .iload 0, .iload 2, .if_icmp .gt 1, .iconst 1, .goto 2] := rfl
theorem zb_162_1 : zB 162 1 = [.iconst 0, .goto_w 2] := rfl
theorem zb_162_2 : zB 162 2 = [.ireturn] := rfl
theorem zb_163_0 : zB 163 0 = [.aload 0, .iload 1, .putfield 646, .iconst 0, .ireturn] := rfl
theorem zb_164_0 : zB 164 0 = [.aload 0, .iconst 0, .putfield 646, .iload 1, .ireturn] := rfl
theorem zb_165_0 : zB 165 0 = [.iconst 0, .istore 1, .goto_w 1] := rfl
theorem zb_165_1 : zB 165 1 = [.iload 1, .iconst 230, .if_icmp .ge 2, .aload 0, .getfield 642, .iload 1, .aload 0, .getfield 640, .iload 1, .iaload, .iastore, .iinc 1 1, .goto 1] := rfl
theorem zb_165_2 : zB 165 2 = [.return_] := rfl
theorem zb_166_0 : zB 166 0 = [.iconst 0, .istore 1, .goto_w 1] := rfl
theorem zb_166_1 : zB 166 1 = [.iload 1, .iconst 230, .if_icmp .ge 2, .aload 0, .getfield 640, .iload 1, .aload 0, .getfield 642, .iload 1, .iaload, .iastore, .iinc 1 1, .goto 1] := rfl
theorem zb_166_2 : zB 166 2 = [.return_] := rfl
theorem zb_167_0 : zB 167 0 = [.aload 0, .getfield 643, .iconst 4, .if_icmp .ne 3, .iconst 0, .istore 2, .goto_w 1] := rfl
theorem zb_167_1 : zB 167 1 = [.iload 2, .iconst 690, .if_icmp .ge 2, .aload 0, .getfield 641, .iload 2, .aload 0, .getfield 641, .iload 2, .iconst 230, .iadd, .iaload, .iastore, .iinc 2 1, .goto 1] := rfl
theorem zb_167_2 : zB 167 2 = [.aload 0, .dup, .getfield 643, .iconst 1, .isub, .putfield 643, .goto_w 3] := rfl
theorem zb_167_3 : zB 167 3 = [.iconst 0, .istore 2, .goto_w 4] := rfl
theorem zb_167_4 : zB 167 4 = [.iload 2, .iconst 230, .if_icmp .ge 5, .aload 0, .getfield 641, .iconst 230, .aload 0, .getfield 643, .imul, .iload 2, .iadd, .aload 0, .getfield 642, .iload 2, .iaload, .iastore, .iinc 2 1, .goto 4] := rfl
theorem zb_167_5 : zB 167 5 = [.aload 0, .dup, .getfield 643, .iconst 1, .iadd, .putfield 643, .aload 0, .iload 1, .invokeinterface 164 2, .ireturn] := rfl
theorem zb_168_0 : zB 168 0 = [.aload 0, .getfield 640, .iconst 2, .iconst 9, .iload 1, .imul, .iadd, .iload 2, .iadd, .iaload, .ireturn] := rfl
theorem zb_169_0 : zB 169 0 = [.aload 0, .getfield 640, .iconst 2, .iconst 9, .iload 1, .imul, .iadd, .iload 2, .iadd, .iload 3, .iastore, .return_] := rfl
theorem zb_170_0 : zB 170 0 = [.aload 0, .getfield 640, .iconst 110, .iconst 5, .iload 1, .imul, .iadd, .iload 2, .iadd, .iaload, .ireturn] := rfl
theorem zb_171_0 : zB 171 0 = [.aload 0, .iload 1, .iconst 0, .invokeinterface 170 3, .ireturn] := rfl
theorem zb_172_0 : zB 172 0 = [.aload 0, .iload 1, .iconst 1, .invokeinterface 170 3, .ireturn] := rfl
theorem zb_173_0 : zB 173 0 = [.aload 0, .iload 1, .iconst 4, .invokeinterface 170 3, .iconst 2, .if_icmp .ne 1, .iconst 1, .goto 2] := rfl
theorem zb_173_1 : zB 173 1 = [.iconst 0, .goto_w 2] := rfl
theorem zb_173_2 : zB 173 2 = [.ireturn] := rfl
theorem zb_174_0 : zB 174 0 = [.iload 1, .iconst 0, .aload 0, .getfield 640, .iconst 0, .iaload, .iconst 1, .isub, .invokeinterface 162 3, .ireturn] := rfl
theorem zb_175_0 : zB 175 0 = [.iload 1, .iconst 0, .aload 0, .getfield 640, .iconst 1, .iaload, .iconst 1, .isub, .invokeinterface 162 3, .ireturn] := rfl
theorem zb_176_0 : zB 176 0 = [.aload 0, .iload 1, .iconst 6, .invokeinterface 168 3, .iconst 1, .if_icmp .ne 1, .iconst 1, .goto 2] := rfl
theorem zb_176_1 : zB 176 1 = [.iconst 0, .goto_w 2] := rfl
theorem zb_176_2 : zB 176 2 = [.ireturn] := rfl
theorem zb_177_0 : zB 177 0 = [.aload 0, .iload 1, .iconst 0, .invokeinterface 168 3, .aload 0, .iload 1, .iconst 1, .invokeinterface 168 3, .imul, .iconst 99, .iadd, .iconst 100, .idiv, .ireturn] := rfl
theorem zb_178_0 : zB 178 0 = [.iload 2, .iconst 1, .iadd, .istore 3, .goto_w 1] := rfl
theorem zb_178_1 : zB 178 1 = [.iload 3, .aload 0, .getfield 640, .iconst 1, .iaload, .if_icmp .ge 2, .aload 0, .iload 3, .invokeinterface 171 2, .iload 1, .if_icmp .eq 2, .iinc 3 1, .goto 1] := rfl
theorem zb_178_2 : zB 178 2 = [.iload 3, .ireturn] := rfl
theorem zb_179_0 : zB 179 0 = [.iconst 0, .istore 2, .iconst 0, .istore 3, .goto_w 1] := rfl
theorem zb_179_1 : zB 179 1 = [.iload 3, .aload 0, .getfield 640, .iconst 1, .iaload, .if_icmp .ge 4, .iload 2, .aload 0, .iload 3, .invokeinterface 171 2, .iload 1, .if_icmp .ne 2, .iconst 1, .goto 3] := rfl
theorem zb_179_2 : zB 179 2 = [.iconst 0, .goto_w 3] := rfl
theorem zb_179_3 : zB 179 3 = [.iadd, .istore 2, .iinc 3 1, .goto 1] := rfl
theorem zb_179_4 : zB 179 4 = [.iload 2, .ireturn] := rfl
theorem zb_180_0 : zB 180 0 = [.iconst 0, .istore 1, .goto_w 1] := rfl
theorem zb_180_1 : zB 180 1 = [.iload 1, .iconst 12, .if_icmp .ge 2, .aload 0, .getfield 647, .iload 1, .iconst 0, .iastore, .iinc 1 1, .goto 1] := rfl
theorem zb_180_2 : zB 180 2 = [.iconst 1, .istore 1, .goto_w 3] := rfl
theorem zb_180_3 : zB 180 3 = [.iload 1, .ifCond .eq 9, .iconst 0, .istore 1, .iconst 0, .istore 2, .goto_w 4] := rfl
theorem zb_180_4 : zB 180 4 = [.iload 2, .aload 0, .getfield 640, .iconst 1, .iaload, .if_icmp .ge 8, .aload 0, .getfield 647, .aload 0, .iload 2, .invokeinterface 171 2, .iaload, .iconst 1, .aload 0, .iload 2, .invokeinterface 172 2, .ishl, .ior, .aload 0, .getfield 647, .aload 0, .iload 2, .invokeinterface 172 2, .iaload, .ior, .istore 3, .iload 1, .ifCond .ne 5, .iload 3, .aload 0, .getfield 647, .aload 0, .iload 2, .invokeinterface 171 2, .iaload, .if_icmp .eq 6, .goto_w 5] := rfl
theorem zb_180_5 : zB 180 5 = [.iconst 1, .goto 7] := rfl
theorem zb_180_6 : zB 180 6 = [.iconst 0, .goto_w 7] := rfl
theorem zb_180_7 : zB 180 7 = [.istore 1, .aload 0, .getfield 647, .aload 0, .iload 2, .invokeinterface 171 2, .iload 3, .iastore, .iinc 2 1, .goto 4] := rfl
theorem zb_180_8 : zB 180 8 = [.goto 3] := rfl
theorem zb_180_9 : zB 180 9 = [.return_] := rfl
theorem zb_181_0 : zB 181 0 = [.aload 0, .invokeinterface 180 1, .iconst 0, .istore 1, .iconst 0, .istore 2, .goto_w 1] := rfl
theorem zb_181_1 : zB 181 1 = [.iload 2, .aload 0, .getfield 640, .iconst 0, .iaload, .if_icmp .ge 5, .iconst 0, .istore 3, .goto_w 2] := rfl
theorem zb_181_2 : zB 181 2 = [.iload 1, .iload 3, .ishr, .iconst 1, .iand, .iconst 1, .if_icmp .eq 3, .aload 0, .getfield 647, .iload 3, .iaload, .iload 1, .iconst (-1), .ixor, .iand, .ifCond .eq 4, .goto_w 3] := rfl
theorem zb_181_3 : zB 181 3 = [.iinc 3 1, .goto 2] := rfl
theorem zb_181_4 : zB 181 4 = [.aload 0, .getfield 648, .iload 2, .iload 3, .iastore, .iload 1, .iconst 1, .iload 3, .ishl, .ior, .istore 1, .iinc 2 1, .goto 1] := rfl
theorem zb_181_5 : zB 181 5 = [.return_] := rfl
theorem zb_182_0 : zB 182 0 = [.aload 0, .invokeinterface 180 1, .aload 0, .getfield 647, .iload 1, .iaload, .iload 2, .ishr, .iconst 1, .iand, .iconst 1, .if_icmp .ne 1, .iconst 1, .goto 2] := rfl
theorem zb_182_1 : zB 182 1 = [.iconst 0, .goto_w 2] := rfl
theorem zb_182_2 : zB 182 2 = [.ireturn] := rfl
theorem zb_183_0 : zB 183 0 = [.iload 1, .iconst 1, .iconst 100, .invokeinterface 162 3, .ifCond .ne 1, .iconst 1, .ireturn] := rfl
theorem zb_183_1 : zB 183 1 = [.aload 0, .getfield 640, .iconst 0, .iaload, .iconst 12, .if_icmp .ne 2, .iconst 2, .ireturn] := rfl
theorem zb_183_2 : zB 183 2 = [.aload 0, .getfield 640, .iconst 0, .iaload, .istore 2, .aload 0, .iload 2, .iconst 0, .iload 1, .invokeinterface 169 4, .aload 0, .iload 2, .iconst 1, .iconst 100, .invokeinterface 169 4, .aload 0, .iload 2, .iconst 2, .iconst 2, .invokeinterface 169 4, .aload 0, .iload 2, .iconst 3, .iconst 3, .invokeinterface 169 4, .aload 0, .iload 2, .iconst 4, .iconst 1, .invokeinterface 169 4, .aload 0, .iload 2, .iconst 5, .iconst 990, .invokeinterface 169 4, .aload 0, .iload 2, .iconst 6, .iconst 1, .invokeinterface 169 4, .aload 0, .iload 2, .iconst 7, .iconst 0, .invokeinterface 169 4, .aload 0, .iload 2, .iconst 8, .iconst (-1), .invokeinterface 169 4, .aload 0, .getfield 640, .iconst 0, .dup2, .iaload, .iconst 1, .iadd, .iastore, .aload 0, .iload 2, .putfield 649, .iconst 0, .ireturn] := rfl
theorem zb_184_0 : zB 184 0 = [.aload 0, .iload 1, .invokeinterface 174 2, .ifCond .eq 1, .aload 0, .iload 2, .invokeinterface 174 2, .ifCond .ne 2, .goto_w 1] := rfl
theorem zb_184_1 : zB 184 1 = [.iconst 1, .ireturn] := rfl
theorem zb_184_2 : zB 184 2 = [.iload 3, .iconst 1, .iconst 500, .invokeinterface 162 3, .ifCond .eq 3, .iload 4, .iconst 1, .iconst 3, .invokeinterface 162 3, .ifCond .eq 3, .iload 5, .iconst 0, .iconst 2, .invokeinterface 162 3, .ifCond .ne 4, .goto_w 3] := rfl
theorem zb_184_3 : zB 184 3 = [.iconst 2, .ireturn] := rfl
theorem zb_184_4 : zB 184 4 = [.iload 1, .iload 2, .if_icmp .eq 6, .aload 0, .iload 2, .iload 1, .invokeinterface 182 3, .ifCond .ne 6, .iload 5, .iconst 2, .if_icmp .ne 5, .aload 0, .iload 1, .invokeinterface 179 2, .ifCond .eq 6, .goto_w 5] := rfl
theorem zb_184_5 : zB 184 5 = [.aload 0, .getfield 640, .iconst 1, .iaload, .iconst 24, .if_icmp .ne 7, .goto_w 6] := rfl
theorem zb_184_6 : zB 184 6 = [.iconst 3, .ireturn] := rfl
theorem zb_184_7 : zB 184 7 = [.iconst 110, .iconst 5, .aload 0, .getfield 640, .iconst 1, .iaload, .imul, .iadd, .istore 6, .aload 0, .getfield 640, .iload 6, .iload 1, .iastore, .aload 0, .getfield 640, .iload 6, .iconst 1, .iadd, .iload 2, .iastore, .aload 0, .getfield 640, .iload 6, .iconst 2, .iadd, .iload 3, .iastore, .aload 0, .getfield 640, .iload 6, .iconst 3, .iadd, .iload 4, .iastore, .aload 0, .getfield 640, .iload 6, .iconst 4, .iadd, .iload 5, .iastore, .aload 0, .aload 0, .getfield 640, .iconst 1, .iaload, .putfield 649, .aload 0, .getfield 640, .iconst 1, .dup2, .iaload, .iconst 1, .iadd, .iastore, .iconst 0, .ireturn] := rfl
theorem zb_185_0 : zB 185 0 = [.iload 0, .lookupswitch 6 #[(0, 1), (1, 2), (2, 3), (3, 4), (4, 3), (5, 5)]] := rfl
theorem zb_185_1 : zB 185 1 = [.iload 1, .iconst 1, .iconst 100, .invokeinterface 162 3, .ireturn] := rfl
theorem zb_185_2 : zB 185 2 = [.iload 1, .iconst 50, .iconst 400, .invokeinterface 162 3, .ireturn] := rfl
theorem zb_185_3 : zB 185 3 = [.iload 1, .iconst 1, .iconst 9, .invokeinterface 162 3, .ireturn] := rfl
theorem zb_185_4 : zB 185 4 = [.iload 1, .iconst 1, .iconst 20, .invokeinterface 162 3, .ireturn] := rfl
theorem zb_185_5 : zB 185 5 = [.iload 1, .iconst 0, .iconst 1000, .invokeinterface 162 3, .ireturn] := rfl
theorem zb_185_6 : zB 185 6 = [.iconst 0, .ireturn] := rfl
theorem zb_186_0 : zB 186 0 = [.aload 0, .iload 2, .invokeinterface 174 2, .ifCond .ne 1, .iconst 1, .ireturn] := rfl
theorem zb_186_1 : zB 186 1 = [.iload 1, .iload 3, .invokeinterface 185 2, .ifCond .ne 2, .iconst 2, .ireturn] := rfl
theorem zb_186_2 : zB 186 2 = [.aload 0, .aload 0, .iload 2, .iload 1, .invokeinterface 168 3, .putfield 649, .aload 0, .iload 2, .iload 1, .iload 3, .invokeinterface 169 4, .iconst 0, .ireturn] := rfl
theorem zb_187_0 : zB 187 0 = [.iconst 0, .istore 1, .iconst 0, .istore 2, .goto_w 1] := rfl
theorem zb_187_1 : zB 187 1 = [.iload 2, .aload 0, .getfield 640, .iconst 0, .iaload, .if_icmp .ge 2, .iload 1, .aload 0, .iload 2, .iconst 6, .invokeinterface 168 3, .iadd, .istore 1, .iinc 2 1, .goto 1] := rfl
theorem zb_187_2 : zB 187 2 = [.iload 1, .ireturn] := rfl
theorem zb_188_0 : zB 188 0 = [.aload 0, .iload 1, .invokeinterface 174 2, .ifCond .ne 1, .iconst 1, .ireturn] := rfl
theorem zb_188_1 : zB 188 1 = [.aload 0, .iload 1, .invokeinterface 176 2, .ifCond .ne 2, .iconst 2, .ireturn] := rfl
theorem zb_188_2 : zB 188 2 = [.aload 0, .iload 1, .invokeinterface 189 2, .aload 0, .aload 0, .invokeinterface 187 1, .putfield 649, .iconst 0, .ireturn] := rfl
theorem zb_189_0 : zB 189 0 = [.aload 0, .iload 1, .iconst 6, .iconst 0, .invokeinterface 169 4, .aload 0, .iload 1, .iconst 7, .iconst 0, .invokeinterface 169 4, .aload 0, .iload 1, .iconst 8, .iconst (-1), .invokeinterface 169 4, .return_] := rfl
theorem zb_190_0 : zB 190 0 = [.aload 0, .iload 1, .invokeinterface 174 2, .ifCond .ne 1, .iconst 1, .ireturn] := rfl
theorem zb_190_1 : zB 190 1 = [.aload 0, .iload 1, .invokeinterface 176 2, .ifCond .ne 2, .aload 0, .iload 1, .iconst 8, .invokeinterface 168 3, .iconst (-1), .if_icmp .eq 3, .goto_w 2] := rfl
theorem zb_190_2 : zB 190 2 = [.iconst 2, .ireturn] := rfl
theorem zb_190_3 : zB 190 3 = [.aload 0, .iload 1, .iconst 8, .aload 0, .iload 1, .iconst 3, .invokeinterface 168 3, .invokeinterface 169 4, .aload 0, .aload 0, .iload 1, .iconst 8, .invokeinterface 168 3, .putfield 649, .iconst 0, .ireturn] := rfl
theorem zb_191_0 : zB 191 0 = [.iload 1, .iconst 1, .iconst 50, .invokeinterface 162 3, .ifCond .ne 1, .iconst 1, .ireturn] := rfl
theorem zb_191_1 : zB 191 1 = [.iconst 0, .istore 2, .goto_w 2] := rfl
theorem zb_191_2 : zB 191 2 = [.iload 2, .iload 1, .if_icmp .ge 3, .aload 0, .invokeinterface 231 1, .istore 3, .aload 0, .iload 3, .putfield 649, .iinc 2 1, .goto 2] := rfl
theorem zb_191_3 : zB 191 3 = [.aload 0, .aload 0, .invokeinterface 187 1, .putfield 649, .iconst 0, .ireturn] := rfl
theorem zb_192_0 : zB 192 0 = [.iload 1, .ifCond .le 1, .aload 0, .iload 1, .invokeinterface 163 2, .goto 2] := rfl
theorem zb_192_1 : zB 192 1 = [.aload 0, .aload 0, .getfield 649, .invokeinterface 167 2, .goto_w 2] := rfl
theorem zb_192_2 : zB 192 2 = [.ireturn] := rfl
theorem zb_193_0 : zB 193 0 = [.aload 0, .invokeinterface 165 1, .aload 0, .aload 0, .iload 1, .invokeinterface 183 2, .invokeinterface 192 2, .ireturn] := rfl
theorem zb_194_0 : zB 194 0 = [.aload 0, .invokeinterface 165 1, .aload 0, .aload 0, .iload 1, .iload 2, .iload 3, .iload 4, .iload 5, .invokeinterface 184 6, .invokeinterface 192 2, .ireturn] := rfl
theorem zb_195_0 : zB 195 0 = [.iconst (-1), .istore 2, .iconst 0, .istore 3, .goto_w 1] := rfl
theorem zb_195_1 : zB 195 1 = [.iload 3, .iload 1, .if_icmp .ge 4, .aload 0, .iload 1, .invokeinterface 173 2, .ifCond .eq 4, .aload 0, .iload 3, .invokeinterface 171 2, .aload 0, .iload 1, .invokeinterface 171 2, .if_icmp .ne 2, .aload 0, .iload 3, .invokeinterface 173 2, .ifCond .ne 2, .iload 3, .goto 3] := rfl
theorem zb_195_2 : zB 195 2 = [.iload 2, .goto_w 3] := rfl
theorem zb_195_3 : zB 195 3 = [.istore 2, .iinc 3 1, .goto 1] := rfl
theorem zb_195_4 : zB 195 4 = [.iload 2, .ireturn] := rfl
theorem zb_196_0 : zB 196 0 = [.aload 0, .iload 1, .invokeinterface 175 2, .ifCond .ne 1, .aload 0, .iconst 1, .invokeinterface 163 2, .ireturn] := rfl
theorem zb_196_1 : zB 196 1 = [.iload 1, .iconst 1, .iadd, .istore 2, .goto_w 2] := rfl
theorem zb_196_2 : zB 196 2 = [.iload 2, .aload 0, .getfield 640, .iconst 1, .iaload, .if_icmp .ge 4, .aload 0, .iload 2, .invokeinterface 195 2, .iload 1, .if_icmp .ne 3, .aload 0, .iconst 2, .invokeinterface 163 2, .ireturn] := rfl
theorem zb_196_3 : zB 196 3 = [.iinc 2 1, .goto 2] := rfl
theorem zb_196_4 : zB 196 4 = [.aload 0, .invokeinterface 165 1, .aload 0, .getfield 640, .iconst 1, .dup2, .iaload, .iconst 1, .isub, .iastore, .iconst 110, .iconst 5, .iload 1, .imul, .iadd, .istore 2, .goto_w 5] := rfl
theorem zb_196_5 : zB 196 5 = [.iload 2, .iconst 110, .iconst 5, .aload 0, .getfield 640, .iconst 1, .iaload, .imul, .iadd, .if_icmp .ge 6, .aload 0, .getfield 640, .iload 2, .aload 0, .getfield 640, .iload 2, .iconst 5, .iadd, .iaload, .iastore, .iinc 2 1, .goto 5] := rfl
theorem zb_196_6 : zB 196 6 = [.aload 0, .aload 0, .getfield 640, .iconst 1, .iaload, .invokeinterface 167 2, .ireturn] := rfl
theorem zb_197_0 : zB 197 0 = [.aload 0, .invokeinterface 165 1, .aload 0, .aload 0, .iload 1, .iload 2, .iload 3, .invokeinterface 186 4, .invokeinterface 192 2, .ireturn] := rfl
theorem zb_198_0 : zB 198 0 = [.aload 0, .iload 1, .invokeinterface 175 2, .ifCond .ne 1, .aload 0, .iconst 1, .invokeinterface 163 2, .ireturn] := rfl
theorem zb_198_1 : zB 198 1 = [.iload 2, .iconst 1, .iconst 500, .invokeinterface 162 3, .ifCond .ne 2, .aload 0, .iconst 2, .invokeinterface 163 2, .ireturn] := rfl
theorem zb_198_2 : zB 198 2 = [.aload 0, .invokeinterface 165 1, .aload 0, .iload 1, .iconst 2, .invokeinterface 170 3, .istore 3, .aload 0, .getfield 640, .iconst 110, .iconst 5, .iload 1, .imul, .iadd, .iconst 2, .iadd, .iload 2, .iastore, .aload 0, .iload 3, .invokeinterface 167 2, .ireturn] := rfl
theorem zb_199_0 : zB 199 0 = [.aload 0, .aload 0, .getfield 640, .iconst 0, .iaload, .invokeinterface 164 2, .ireturn] := rfl
theorem zb_200_0 : zB 200 0 = [.aload 0, .aload 0, .getfield 640, .iconst 1, .iaload, .invokeinterface 164 2, .ireturn] := rfl
theorem zb_201_0 : zB 201 0 = [.iload 2, .iconst 9, .if_icmp .ge 1, .aload 0, .iload 1, .iload 2, .invokeinterface 168 3, .goto 3] := rfl
theorem zb_201_1 : zB 201 1 = [.iload 2, .iconst 9, .if_icmp .ne 2, .aload 0, .iload 1, .invokeinterface 177 2, .goto 3] := rfl
theorem zb_201_2 : zB 201 2 = [.aload 0, .iload 1, .invokeinterface 179 2, .goto_w 3] := rfl
theorem zb_201_3 : zB 201 3 = [.ireturn] := rfl
theorem zb_202_0 : zB 202 0 = [.aload 0, .iload 1, .invokeinterface 174 2, .ifCond .ne 1, .aload 0, .iconst 1, .invokeinterface 163 2, .ireturn] := rfl
theorem zb_202_1 : zB 202 1 = [.iload 2, .iconst 0, .iconst 10, .invokeinterface 162 3, .ifCond .eq 2, .aload 0, .aload 0, .iload 1, .iload 2, .invokeinterface 201 3, .invokeinterface 164 2, .goto 3] := rfl
theorem zb_202_2 : zB 202 2 = [.aload 0, .iconst 2, .invokeinterface 163 2, .goto_w 3] := rfl
theorem zb_202_3 : zB 202 3 = [.ireturn] := rfl
theorem zb_203_0 : zB 203 0 = [.iload 2, .iconst 5, .if_icmp .ge 1, .aload 0, .iload 1, .iload 2, .invokeinterface 170 3, .goto 2] := rfl
theorem zb_203_1 : zB 203 1 = [.aload 0, .iload 1, .invokeinterface 195 2, .goto_w 2] := rfl
theorem zb_203_2 : zB 203 2 = [.ireturn] := rfl
theorem zb_204_0 : zB 204 0 = [.aload 0, .iload 1, .invokeinterface 175 2, .ifCond .ne 1, .aload 0, .iconst 1, .invokeinterface 163 2, .ireturn] := rfl
theorem zb_204_1 : zB 204 1 = [.iload 2, .iconst 0, .iconst 5, .invokeinterface 162 3, .ifCond .eq 2, .aload 0, .aload 0, .iload 1, .iload 2, .invokeinterface 203 3, .invokeinterface 164 2, .goto 3] := rfl
theorem zb_204_2 : zB 204 2 = [.aload 0, .iconst 2, .invokeinterface 163 2, .goto_w 3] := rfl
theorem zb_204_3 : zB 204 3 = [.ireturn] := rfl
theorem zb_205_0 : zB 205 0 = [.aload 0, .iload 1, .invokeinterface 174 2, .ifCond .eq 1, .aload 0, .iload 2, .invokeinterface 174 2, .ifCond .ne 4, .goto_w 1] := rfl
theorem zb_205_1 : zB 205 1 = [.aload 0, .iconst 1, .invokeinterface 163 2, .ifCond .eq 2, .iconst 1, .goto 3] := rfl
theorem zb_205_2 : zB 205 2 = [.iconst 0, .goto_w 3] := rfl
theorem zb_205_3 : zB 205 3 = [.ireturn] := rfl
theorem zb_205_4 : zB 205 4 = [.aload 0, .iconst 0, .putfield 646, .aload 0, .iload 1, .iload 2, .invokeinterface 182 3, .ireturn] := rfl
theorem zb_206_0 : zB 206 0 = [.aload 0, .invokeinterface 181 1, .aload 0, .aload 0, .iload 1, .invokeinterface 174 2, .ifCond .eq 1, .aload 0, .getfield 648, .iload 1, .iaload, .goto 2] := rfl
theorem zb_206_1 : zB 206 1 = [.iconst (-1), .goto_w 2] := rfl
theorem zb_206_2 : zB 206 2 = [.invokeinterface 164 2, .ireturn] := rfl
theorem zb_207_0 : zB 207 0 = [.aload 0, .invokeinterface 181 1, .iconst 0, .istore 1, .goto_w 1] := rfl
theorem zb_207_1 : zB 207 1 = [.iload 1, .aload 0, .getfield 640, .iconst 0, .iaload, .if_icmp .ge 8, .aload 0, .getfield 648, .iload 1, .iaload, .istore 2, .aload 0, .getfield 650, .iload 2, .iconst 0, .iastore, .iconst 0, .istore 3, .goto_w 2] := rfl
theorem zb_207_2 : zB 207 2 = [.iload 3, .aload 0, .getfield 640, .iconst 1, .iaload, .if_icmp .ge 7, .aload 0, .iload 3, .invokeinterface 171 2, .iload 2, .if_icmp .ne 3, .aload 0, .getfield 650, .aload 0, .iload 3, .invokeinterface 172 2, .iaload, .iconst 1, .iadd, .goto 4] := rfl
theorem zb_207_3 : zB 207 3 = [.iconst 0, .goto_w 4] := rfl
theorem zb_207_4 : zB 207 4 = [.istore 4, .aload 0, .getfield 650, .iload 2, .iload 4, .aload 0, .getfield 650, .iload 2, .iaload, .if_icmp .le 5, .iload 4, .goto 6] := rfl
theorem zb_207_5 : zB 207 5 = [.aload 0, .getfield 650, .iload 2, .iaload, .goto_w 6] := rfl
theorem zb_207_6 : zB 207 6 = [.iastore, .iinc 3 1, .goto 2] := rfl
theorem zb_207_7 : zB 207 7 = [.iinc 1 1, .goto 1] := rfl
theorem zb_207_8 : zB 207 8 = [.return_] := rfl
theorem zb_208_0 : zB 208 0 = [.aload 0, .iload 1, .invokeinterface 174 2, .ifCond .ne 1, .aload 0, .iconst 1, .invokeinterface 163 2, .ireturn] := rfl
theorem zb_208_1 : zB 208 1 = [.aload 0, .invokeinterface 207 1, .aload 0, .aload 0, .getfield 650, .iload 1, .iaload, .invokeinterface 164 2, .ireturn] := rfl
theorem zb_209_0 : zB 209 0 = [.aload 0, .getfield 663, .iconst 60, .if_icmp .ge 1, .aload 0, .getfield 668, .iconst 4, .aload 0, .getfield 663, .imul, .aload 0, .getfield 651, .aload 0, .getfield 660, .iaload, .iastore, .aload 0, .getfield 668, .iconst 4, .aload 0, .getfield 663, .imul, .iconst 1, .iadd, .iload 1, .iastore, .aload 0, .getfield 668, .iconst 4, .aload 0, .getfield 663, .imul, .iconst 2, .iadd, .aload 0, .getfield 652, .aload 0, .getfield 660, .iaload, .aload 0, .getfield 654, .aload 0, .getfield 660, .iaload, .iadd, .iastore, .aload 0, .getfield 668, .iconst 4, .aload 0, .getfield 663, .imul, .iconst 3, .iadd, .aload 0, .getfield 653, .aload 0, .getfield 660, .iaload, .iastore, .aload 0, .dup, .getfield 663, .iconst 1, .iadd, .putfield 663, .goto_w 1] := rfl
theorem zb_209_1 : zB 209 1 = [.aload 0, .aload 0, .getfield 665, .iconst (-1), .if_icmp .ne 2, .iload 1, .iconst 3, .if_icmp .ge 2, .aload 0, .getfield 651, .aload 0, .getfield 660, .iaload, .goto 3] := rfl
theorem zb_209_2 : zB 209 2 = [.aload 0, .getfield 665, .goto_w 3] := rfl
theorem zb_209_3 : zB 209 3 = [.putfield 665, .aload 0, .aload 0, .getfield 666, .iconst (-1), .if_icmp .ne 4, .aload 0, .getfield 651, .aload 0, .getfield 660, .iaload, .goto 5] := rfl
theorem zb_209_4 : zB 209 4 = [.aload 0, .getfield 666, .goto_w 5] := rfl
theorem zb_209_5 : zB 209 5 = [.putfield 666, .return_] := rfl
theorem zb_210_0 : zB 210 0 = [.aload 0, .getfield 651, .aload 0, .getfield 660, .iload 1, .iastore, .aload 0, .getfield 652, .aload 0, .getfield 660, .iload 2, .iastore, .aload 0, .getfield 653, .aload 0, .getfield 660, .iload 3, .iastore, .aload 0, .getfield 654, .aload 0, .getfield 660, .iconst 0, .iastore, .aload 0, .dup, .getfield 667, .iconst 1, .iadd, .putfield 667, .return_] := rfl
theorem zb_211_0 : zB 211 0 = [.aload 0, .getfield 651, .aload 0, .getfield 660, .iaload, .istore 1, .aload 0, .iconst 0, .putfield 674, .aload 0, .iload 1, .invokeinterface 176 2, .ifCond .ne 1, .aload 0, .iconst 1, .invokeinterface 209 2, .iconst 0, .ireturn] := rfl
theorem zb_211_1 : zB 211 1 = [.aload 0, .iload 1, .invokeinterface 177 2, .aload 0, .getfield 653, .aload 0, .getfield 660, .iaload, .if_icmp .le 2, .aload 0, .getfield 654, .aload 0, .getfield 660, .aload 0, .getfield 653, .aload 0, .getfield 660, .iaload, .iastore, .aload 0, .iconst 2, .invokeinterface 209 2, .iconst 0, .ireturn] := rfl
theorem zb_211_2 : zB 211 2 = [.aload 0, .getfield 654, .aload 0, .getfield 660, .aload 0, .iload 1, .invokeinterface 177 2, .iastore, .aload 0, .aload 0, .iload 1, .iconst (-1), .invokeinterface 178 3, .invokeinterface 212 2, .iconst 1, .ireturn] := rfl
theorem zb_212_0 : zB 212 0 = [.aload 0, .getfield 655, .aload 0, .getfield 660, .iload 1, .iastore, .aload 0, .getfield 656, .aload 0, .getfield 660, .iload 1, .iastore, .aload 0, .getfield 657, .aload 0, .getfield 660, .iconst 0, .iastore, .aload 0, .getfield 658, .aload 0, .getfield 660, .iconst 0, .bastore, .return_] := rfl
theorem zb_213_0 : zB 213 0 = [.aload 0, .getfield 651, .aload 0, .getfield 660, .iaload, .istore 1, .aload 0, .getfield 655, .aload 0, .getfield 660, .iaload, .istore 2, .iload 2, .aload 0, .getfield 640, .iconst 1, .iaload, .if_icmp .ne 1, .aload 0, .iconst 1, .putfield 674, .iconst 2, .ireturn] := rfl
theorem zb_213_1 : zB 213 1 = [.aload 0, .getfield 658, .aload 0, .getfield 660, .baload, .ifCond .ne 2, .aload 0, .getfield 657, .aload 0, .getfield 660, .iaload, .aload 0, .iload 2, .iconst 3, .invokeinterface 170 3, .if_icmp .ne 3, .goto_w 2] := rfl
theorem zb_213_2 : zB 213 2 = [.aload 0, .iload 1, .iload 2, .invokeinterface 214 3, .ireturn] := rfl
theorem zb_213_3 : zB 213 3 = [.aload 0, .getfield 653, .aload 0, .getfield 660, .iaload, .aload 0, .getfield 654, .aload 0, .getfield 660, .iaload, .isub, .ifCond .gt 4, .aload 0, .iconst 3, .invokeinterface 209 2, .aload 0, .getfield 657, .aload 0, .getfield 660, .aload 0, .iload 2, .iconst 3, .invokeinterface 170 3, .iastore, .iconst 0, .ireturn] := rfl
theorem zb_213_4 : zB 213 4 = [.iconst 1, .ireturn] := rfl
theorem zb_214_0 : zB 214 0 = [.aload 0, .iload 1, .iload 2, .invokeinterface 178 3, .istore 3, .goto_w 1] := rfl
theorem zb_214_1 : zB 214 1 = [.aload 0, .getfield 658, .aload 0, .getfield 660, .baload, .ifCond .eq 2, .iload 3, .aload 0, .getfield 640, .iconst 1, .iaload, .if_icmp .ge 2, .aload 0, .iload 3, .invokeinterface 173 2, .ifCond .eq 2, .aload 0, .iload 1, .iload 3, .invokeinterface 178 3, .istore 3, .goto 1] := rfl
theorem zb_214_2 : zB 214 2 = [.aload 0, .getfield 658, .aload 0, .getfield 660, .baload, .ifCond .ne 3, .iload 3, .aload 0, .getfield 640, .iconst 1, .iaload, .if_icmp .ge 3, .aload 0, .iload 3, .invokeinterface 173 2, .ifCond .eq 3, .aload 0, .getfield 655, .aload 0, .getfield 660, .iload 3, .iastore, .aload 0, .getfield 657, .aload 0, .getfield 660, .iconst 0, .iastore, .iconst 0, .ireturn] := rfl
theorem zb_214_3 : zB 214 3 = [.aload 0, .getfield 658, .aload 0, .getfield 660, .baload, .ifCond .ne 4, .aload 0, .aload 0, .getfield 656, .aload 0, .getfield 660, .iaload, .iconst 4, .invokeinterface 170 3, .ifCond .ne 4, .aload 0, .iconst 4, .invokeinterface 209 2, .aload 0, .iconst 0, .putfield 674, .iconst 2, .ireturn] := rfl
theorem zb_214_4 : zB 214 4 = [.aload 0, .dup, .getfield 662, .aload 0, .getfield 658, .aload 0, .getfield 660, .baload, .ifCond .eq 5, .iconst 0, .goto 6] := rfl
theorem zb_214_5 : zB 214 5 = [.iconst 1, .goto_w 6] := rfl
theorem zb_214_6 : zB 214 6 = [.iadd, .putfield 662, .aload 0, .iload 3, .invokeinterface 212 2, .iconst 0, .ireturn] := rfl
theorem zb_215_0 : zB 215 0 = [.aload 0, .getfield 655, .aload 0, .getfield 660, .iaload, .istore 1, .aload 0, .getfield 653, .aload 0, .getfield 660, .iaload, .aload 0, .getfield 654, .aload 0, .getfield 660, .iaload, .isub, .istore 2, .aload 0, .iload 1, .iconst 2, .invokeinterface 170 3, .iload 2, .if_icmp .ge 1, .aload 0, .iload 1, .iconst 2, .invokeinterface 170 3, .goto 2] := rfl
theorem zb_215_1 : zB 215 1 = [.iload 2, .goto_w 2] := rfl
theorem zb_215_2 : zB 215 2 = [.istore 3, .aload 0, .getfield 652, .aload 0, .getfield 660, .iaload, .aload 0, .getfield 654, .aload 0, .getfield 660, .iaload, .iadd, .istore 4, .aload 0, .getfield 659, .aload 0, .getfield 660, .iconst (-1), .iastore, .aload 0, .getfield 664, .iconst 200, .if_icmp .ge 3, .aload 0, .getfield 669, .iconst 4, .aload 0, .getfield 664, .imul, .iload 1, .iastore, .aload 0, .getfield 669, .iconst 4, .aload 0, .getfield 664, .imul, .iconst 1, .iadd, .iload 4, .iastore, .aload 0, .getfield 669, .iconst 4, .aload 0, .getfield 664, .imul, .iconst 2, .iadd, .iload 3, .iastore, .aload 0, .getfield 669, .iconst 4, .aload 0, .getfield 664, .imul, .iconst 3, .iadd, .iconst 0, .iastore, .aload 0, .getfield 659, .aload 0, .getfield 660, .aload 0, .getfield 664, .iastore, .aload 0, .dup, .getfield 664, .iconst 1, .iadd, .putfield 664, .goto_w 3] := rfl
theorem zb_215_3 : zB 215 3 = [.aload 0, .dup, .getfield 660, .iconst 1, .iadd, .putfield 660, .aload 0, .aload 0, .iload 1, .invokeinterface 172 2, .iload 4, .iload 3, .invokeinterface 210 4, .return_] := rfl
theorem zb_216_0 : zB 216 0 = [.aload 0, .getfield 654, .aload 0, .getfield 660, .iaload, .istore 1, .aload 0, .dup, .getfield 660, .iconst 1, .isub, .putfield 660, .aload 0, .getfield 654, .aload 0, .getfield 660, .dup2, .iaload, .iload 1, .iadd, .iastore, .aload 0, .getfield 657, .aload 0, .getfield 660, .dup2, .iaload, .iconst 1, .iadd, .iastore, .aload 0, .getfield 658, .aload 0, .getfield 660, .aload 0, .getfield 674, .bastore, .aload 0, .getfield 674, .ifCond .eq 1, .aload 0, .getfield 659, .aload 0, .getfield 660, .iaload, .iconst (-1), .if_icmp .eq 1, .aload 0, .getfield 669, .iconst 4, .aload 0, .getfield 659, .aload 0, .getfield 660, .iaload, .imul, .iconst 3, .iadd, .iconst 1, .iastore, .goto_w 1] := rfl
theorem zb_216_1 : zB 216 1 = [.return_] := rfl
theorem zb_217_0 : zB 217 0 = [.aload 0, .iconst 0, .putfield 662, .aload 0, .iconst 0, .putfield 663, .aload 0, .iconst 0, .putfield 664, .aload 0, .iconst (-1), .putfield 665, .aload 0, .iconst (-1), .putfield 666, .aload 0, .iconst 0, .putfield 667, .aload 0, .iconst 0, .putfield 660, .aload 0, .iload 1, .iconst 0, .iload 2, .invokeinterface 210 4, .aload 0, .invokeinterface 211 1, .istore 3, .iconst 0, .istore 4, .goto_w 1] := rfl
theorem zb_217_1 : zB 217 1 = [.iload 4, .ifCond .ne 7, .iload 3, .ifCond .eq 2, .aload 0, .invokeinterface 213 1, .goto 3] := rfl
theorem zb_217_2 : zB 217 2 = [.iconst 2, .goto_w 3] := rfl
theorem zb_217_3 : zB 217 3 = [.istore 5, .iload 5, .iconst 1, .if_icmp .ne 4, .aload 0, .invokeinterface 215 1, .aload 0, .invokeinterface 211 1, .istore 3, .goto 6] := rfl
theorem zb_217_4 : zB 217 4 = [.iload 5, .iconst 2, .if_icmp .ne 5, .aload 0, .getfield 660, .ifCond .ne 5, .iconst 1, .istore 4, .goto 6] := rfl
theorem zb_217_5 : zB 217 5 = [.iload 5, .iconst 2, .if_icmp .ne 6, .aload 0, .invokeinterface 216 1, .iconst 1, .istore 3, .goto_w 6] := rfl
theorem zb_217_6 : zB 217 6 = [.goto 1] := rfl
theorem zb_217_7 : zB 217 7 = [.aload 0, .aload 0, .getfield 654, .iconst 0, .iaload, .putfield 661, .aload 0, .getfield 674, .ireturn] := rfl
theorem zb_218_0 : zB 218 0 = [.aload 0, .iload 1, .invokeinterface 174 2, .ifCond .ne 3, .aload 0, .iconst 1, .invokeinterface 163 2, .ifCond .eq 1, .iconst 1, .goto 2] := rfl
theorem zb_218_1 : zB 218 1 = [.iconst 0, .goto_w 2] := rfl
theorem zb_218_2 : zB 218 2 = [.ireturn] := rfl
theorem zb_218_3 : zB 218 3 = [.iload 2, .iconst 0, .iconst 1000, .invokeinterface 162 3, .ifCond .ne 6, .aload 0, .iconst 2, .invokeinterface 163 2, .ifCond .eq 4, .iconst 1, .goto 5] := rfl
theorem zb_218_4 : zB 218 4 = [.iconst 0, .goto_w 5] := rfl
theorem zb_218_5 : zB 218 5 = [.ireturn] := rfl
theorem zb_218_6 : zB 218 6 = [.aload 0, .iconst 0, .putfield 646, .aload 0, .iload 1, .iload 2, .invokeinterface 217 3, .istore 3, .aload 0, .getfield 670, .iconst 0, .aload 0, .getfield 661, .iastore, .aload 0, .getfield 670, .iconst 1, .aload 0, .getfield 662, .iastore, .aload 0, .getfield 670, .iconst 2, .aload 0, .getfield 663, .iastore, .aload 0, .getfield 670, .iconst 3, .aload 0, .getfield 664, .iastore, .aload 0, .getfield 670, .iconst 4, .iload 3, .ifCond .eq 7, .iconst (-1), .goto 9] := rfl
theorem zb_218_7 : zB 218 7 = [.aload 0, .getfield 665, .iconst (-1), .if_icmp .ne 8, .aload 0, .getfield 666, .goto 9] := rfl
theorem zb_218_8 : zB 218 8 = [.aload 0, .getfield 665, .goto_w 9] := rfl
theorem zb_218_9 : zB 218 9 = [.iastore, .aload 0, .getfield 670, .iconst 5, .aload 0, .getfield 667, .iastore, .iconst 0, .istore 4, .goto_w 10] := rfl
theorem zb_218_10 : zB 218 10 = [.iload 4, .iconst 240, .if_icmp .ge 11, .aload 0, .getfield 671, .iload 4, .aload 0, .getfield 668, .iload 4, .iaload, .iastore, .iinc 4 1, .goto 10] := rfl
theorem zb_218_11 : zB 218 11 = [.iconst 0, .istore 4, .goto_w 12] := rfl
theorem zb_218_12 : zB 218 12 = [.iload 4, .iconst 800, .if_icmp .ge 13, .aload 0, .getfield 672, .iload 4, .aload 0, .getfield 669, .iload 4, .iaload, .iastore, .iinc 4 1, .goto 12] := rfl
theorem zb_218_13 : zB 218 13 = [.aload 0, .iconst 1, .putfield 673, .iload 3, .ireturn] := rfl
theorem zb_219_0 : zB 219 0 = [.iload 1, .iconst 0, .iconst 5, .invokeinterface 162 3, .ifCond .ne 1, .aload 0, .iconst 1, .invokeinterface 163 2, .ireturn] := rfl
theorem zb_219_1 : zB 219 1 = [.aload 0, .getfield 673, .ifCond .eq 2, .aload 0, .aload 0, .getfield 670, .iload 1, .iaload, .invokeinterface 164 2, .goto 3] := rfl
theorem zb_219_2 : zB 219 2 = [.aload 0, .iconst 2, .invokeinterface 163 2, .goto_w 3] := rfl
theorem zb_219_3 : zB 219 3 = [.ireturn] := rfl
theorem zb_220_0 : zB 220 0 = [.iload 2, .iconst 0, .iconst 3, .invokeinterface 162 3, .ifCond .ne 1, .aload 0, .iconst 1, .invokeinterface 163 2, .ireturn] := rfl
theorem zb_220_1 : zB 220 1 = [.aload 0, .aload 0, .getfield 673, .ifCond .eq 2, .iload 1, .iconst 0, .aload 0, .getfield 670, .iconst 2, .iaload, .iconst 1, .isub, .invokeinterface 162 3, .ifCond .eq 2, .aload 0, .getfield 671, .iconst 4, .iload 1, .imul, .iload 2, .iadd, .iaload, .goto 3] := rfl
theorem zb_220_2 : zB 220 2 = [.iconst (-1), .goto_w 3] := rfl
theorem zb_220_3 : zB 220 3 = [.invokeinterface 164 2, .ireturn] := rfl
theorem zb_221_0 : zB 221 0 = [.iload 2, .iconst 0, .iconst 3, .invokeinterface 162 3, .ifCond .ne 1, .aload 0, .iconst 1, .invokeinterface 163 2, .ireturn] := rfl
theorem zb_221_1 : zB 221 1 = [.aload 0, .aload 0, .getfield 673, .ifCond .eq 2, .iload 1, .iconst 0, .aload 0, .getfield 670, .iconst 3, .iaload, .iconst 1, .isub, .invokeinterface 162 3, .ifCond .eq 2, .aload 0, .getfield 672, .iconst 4, .iload 1, .imul, .iload 2, .iadd, .iaload, .goto 3] := rfl
theorem zb_221_2 : zB 221 2 = [.iconst (-1), .goto_w 3] := rfl
theorem zb_221_3 : zB 221 3 = [.invokeinterface 164 2, .ireturn] := rfl
theorem zb_222_0 : zB 222 0 = [.aload 0, .iload 1, .invokeinterface 174 2, .ifCond .ne 1, .aload 0, .iconst 1, .invokeinterface 163 2, .ireturn] := rfl
theorem zb_222_1 : zB 222 1 = [.iconst 0, .istore 2, .goto_w 2] := rfl
theorem zb_222_2 : zB 222 2 = [.iload 2, .iconst 1000, .if_icmp .gt 3, .aload 0, .iload 1, .iload 2, .invokeinterface 217 3, .ifCond .ne 3, .iinc 2 1, .goto 2] := rfl
theorem zb_222_3 : zB 222 3 = [.aload 0, .iload 2, .iconst 1000, .if_icmp .gt 4, .iload 2, .goto 5] := rfl
theorem zb_222_4 : zB 222 4 = [.iconst (-1), .goto_w 5] := rfl
theorem zb_222_5 : zB 222 5 = [.invokeinterface 164 2, .ireturn] := rfl
theorem zb_223_0 : zB 223 0 = [.aload 0, .iload 1, .invokeinterface 177 2, .istore 2, .iconst 0, .istore 3, .goto_w 1] := rfl
theorem zb_223_1 : zB 223 1 = [.iload 3, .aload 0, .getfield 640, .iconst 1, .iaload, .if_icmp .ge 5, .aload 0, .iload 3, .invokeinterface 171 2, .iload 1, .if_icmp .ne 4, .aload 0, .iload 3, .iconst 2, .invokeinterface 170 3, .istore 4, .iload 2, .aload 0, .iload 3, .iconst 3, .invokeinterface 170 3, .iload 4, .aload 0, .getfield 675, .aload 0, .iload 3, .invokeinterface 172 2, .iaload, .if_icmp .ge 2, .iload 4, .goto 3] := rfl
theorem zb_223_2 : zB 223 2 = [.aload 0, .getfield 675, .aload 0, .iload 3, .invokeinterface 172 2, .iaload, .goto_w 3] := rfl
theorem zb_223_3 : zB 223 3 = [.imul, .iadd, .istore 2, .goto_w 4] := rfl
theorem zb_223_4 : zB 223 4 = [.iinc 3 1, .goto 1] := rfl
theorem zb_223_5 : zB 223 5 = [.aload 0, .getfield 675, .iload 1, .iload 2, .iconst 100000, .if_icmp .ge 6, .iload 2, .goto 7] := rfl
theorem zb_223_6 : zB 223 6 = [.iconst 100000, .goto_w 7] := rfl
theorem zb_223_7 : zB 223 7 = [.iastore, .return_] := rfl
theorem zb_224_0 : zB 224 0 = [.aload 0, .invokeinterface 181 1, .iconst 0, .istore 1, .goto_w 1] := rfl
theorem zb_224_1 : zB 224 1 = [.iload 1, .aload 0, .getfield 640, .iconst 0, .iaload, .if_icmp .ge 2, .aload 0, .aload 0, .getfield 648, .iload 1, .iaload, .invokeinterface 223 2, .iinc 1 1, .goto 1] := rfl
theorem zb_224_2 : zB 224 2 = [.return_] := rfl
theorem zb_225_0 : zB 225 0 = [.aload 0, .iload 1, .invokeinterface 174 2, .ifCond .ne 1, .aload 0, .iconst 1, .invokeinterface 163 2, .ireturn] := rfl
theorem zb_225_1 : zB 225 1 = [.aload 0, .invokeinterface 224 1, .aload 0, .aload 0, .getfield 675, .iload 1, .iaload, .invokeinterface 164 2, .ireturn] := rfl
theorem zb_226_0 : zB 226 0 = [.aload 0, .invokeinterface 224 1, .iconst 0, .istore 1, .iconst 0, .istore 2, .goto_w 1] := rfl
theorem zb_226_1 : zB 226 1 = [.iload 2, .aload 0, .getfield 640, .iconst 1, .iaload, .if_icmp .ge 4, .iload 1, .aload 0, .iload 2, .iconst 2, .invokeinterface 170 3, .aload 0, .getfield 675, .aload 0, .iload 2, .invokeinterface 172 2, .iaload, .if_icmp .ge 2, .iconst 1, .goto 3] := rfl
theorem zb_226_2 : zB 226 2 = [.iconst 0, .goto_w 3] := rfl
theorem zb_226_3 : zB 226 3 = [.iadd, .istore 1, .iinc 2 1, .goto 1] := rfl
theorem zb_226_4 : zB 226 4 = [.iload 1, .ireturn] := rfl
theorem zb_227_0 : zB 227 0 = [.aload 0, .aload 0, .invokeinterface 226 1, .invokeinterface 164 2, .ireturn] := rfl
theorem zb_228_0 : zB 228 0 = [.aload 0, .invokeinterface 165 1, .aload 0, .invokeinterface 181 1, .iconst 0, .istore 1, .goto_w 1] := rfl
theorem zb_228_1 : zB 228 1 = [.iload 1, .aload 0, .getfield 640, .iconst 0, .iaload, .if_icmp .ge 7, .aload 0, .getfield 648, .iload 1, .iaload, .istore 2, .aload 0, .iload 2, .invokeinterface 223 2, .iconst 0, .istore 3, .goto_w 2] := rfl
theorem zb_228_2 : zB 228 2 = [.iload 3, .aload 0, .getfield 640, .iconst 1, .iaload, .if_icmp .ge 6, .aload 0, .iload 3, .invokeinterface 172 2, .iload 2, .if_icmp .ne 5, .aload 0, .getfield 640, .iconst 110, .iconst 5, .iload 3, .imul, .iadd, .iconst 2, .iadd, .aload 0, .getfield 675, .iload 2, .iaload, .iconst 500, .if_icmp .ge 3, .aload 0, .getfield 675, .iload 2, .iaload, .goto 4] := rfl
theorem zb_228_3 : zB 228 3 = [.iconst 500, .goto_w 4] := rfl
theorem zb_228_4 : zB 228 4 = [.iastore, .goto_w 5] := rfl
theorem zb_228_5 : zB 228 5 = [.iinc 3 1, .goto 2] := rfl
theorem zb_228_6 : zB 228 6 = [.iinc 1 1, .goto 1] := rfl
theorem zb_228_7 : zB 228 7 = [.iconst 0, .istore 1, .iconst 0, .istore 2, .goto_w 8] := rfl
theorem zb_228_8 : zB 228 8 = [.iload 2, .aload 0, .getfield 640, .iconst 1, .iaload, .if_icmp .ge 11, .iconst 110, .iconst 5, .iload 2, .imul, .iadd, .iconst 2, .iadd, .istore 3, .iload 1, .aload 0, .getfield 640, .iload 3, .iaload, .aload 0, .getfield 642, .iload 3, .iaload, .if_icmp .ne 9, .iconst 0, .goto 10] := rfl
theorem zb_228_9 : zB 228 9 = [.iconst 1, .goto_w 10] := rfl
theorem zb_228_10 : zB 228 10 = [.iadd, .istore 1, .iinc 2 1, .goto 8] := rfl
theorem zb_228_11 : zB 228 11 = [.aload 0, .iload 1, .invokeinterface 167 2, .ireturn] := rfl
theorem zb_229_0 : zB 229 0 = [.iconst 0, .istore 1, .iconst 0, .istore 2, .goto_w 1] := rfl
theorem zb_229_1 : zB 229 1 = [.iload 2, .aload 0, .getfield 640, .iconst 0, .iaload, .if_icmp .ge 4, .iload 1, .aload 0, .iload 2, .invokeinterface 176 2, .ifCond .eq 2, .iconst 0, .goto 3] := rfl
theorem zb_229_2 : zB 229 2 = [.iconst 1, .iload 2, .ishl, .goto_w 3] := rfl
theorem zb_229_3 : zB 229 3 = [.ior, .istore 1, .iinc 2 1, .goto 1] := rfl
theorem zb_229_4 : zB 229 4 = [.iload 1, .ireturn] := rfl
theorem zb_230_0 : zB 230 0 = [.iconst 0, .istore 3, .aload 0, .iload 1, .iconst (-1), .invokeinterface 178 3, .istore 4, .goto_w 1] := rfl
theorem zb_230_1 : zB 230 1 = [.iload 4, .aload 0, .getfield 640, .iconst 1, .iaload, .if_icmp .ge 13, .iload 2, .aload 0, .iload 4, .invokeinterface 172 2, .ishr, .iconst 1, .iand, .iconst 1, .if_icmp .ne 2, .iconst 1, .goto 3] := rfl
theorem zb_230_2 : zB 230 2 = [.iconst 0, .goto_w 3] := rfl
theorem zb_230_3 : zB 230 3 = [.istore 5, .aload 0, .iload 4, .iconst 4, .invokeinterface 170 3, .ifCond .ne 4, .iconst 1, .goto 5] := rfl
theorem zb_230_4 : zB 230 4 = [.iconst 0, .goto_w 5] := rfl
theorem zb_230_5 : zB 230 5 = [.istore 6, .aload 0, .iload 1, .iload 4, .invokeinterface 178 3, .istore 4, .goto_w 6] := rfl
theorem zb_230_6 : zB 230 6 = [.iload 4, .aload 0, .getfield 640, .iconst 1, .iaload, .if_icmp .ge 9, .aload 0, .iload 4, .invokeinterface 173 2, .ifCond .eq 9, .iload 5, .ifCond .eq 7, .iload 2, .aload 0, .iload 4, .invokeinterface 172 2, .ishr, .iconst 1, .iand, .iconst 1, .if_icmp .ne 7, .iconst 1, .goto 8] := rfl
theorem zb_230_7 : zB 230 7 = [.iconst 0, .goto_w 8] := rfl
theorem zb_230_8 : zB 230 8 = [.istore 5, .aload 0, .iload 1, .iload 4, .invokeinterface 178 3, .istore 4, .goto 6] := rfl
theorem zb_230_9 : zB 230 9 = [.iload 3, .ifCond .ne 10, .iload 6, .ifCond .eq 11, .iload 5, .ifCond .eq 11, .goto_w 10] := rfl
theorem zb_230_10 : zB 230 10 = [.iconst 1, .goto 12] := rfl
theorem zb_230_11 : zB 230 11 = [.iconst 0, .goto_w 12] := rfl
theorem zb_230_12 : zB 230 12 = [.istore 3, .goto 1] := rfl
theorem zb_230_13 : zB 230 13 = [.iload 3, .ireturn] := rfl
theorem zb_231_0 : zB 231 0 = [.aload 0, .invokeinterface 229 1, .istore 1, .iconst 0, .istore 2, .iconst 0, .istore 3, .goto_w 1] := rfl
theorem zb_231_1 : zB 231 1 = [.iload 3, .aload 0, .getfield 640, .iconst 0, .iaload, .if_icmp .ge 10, .aload 0, .iload 3, .iload 1, .invokeinterface 230 3, .istore 4, .iload 1, .iload 3, .ishr, .iconst 1, .iand, .ifCond .ne 6, .aload 0, .iload 3, .iconst 7, .invokeinterface 168 3, .istore 5, .aload 0, .iload 3, .iconst 7, .iload 4, .ifCond .eq 2, .iload 5, .iconst 1, .iadd, .goto 4] := rfl
theorem zb_231_2 : zB 231 2 = [.iload 5, .ifCond .le 3, .iload 5, .iconst 1, .isub, .goto 4] := rfl
theorem zb_231_3 : zB 231 3 = [.iconst 0, .goto_w 4] := rfl
theorem zb_231_4 : zB 231 4 = [.invokeinterface 169 4, .aload 0, .iload 3, .iconst 7, .invokeinterface 168 3, .aload 0, .iload 3, .iconst 2, .invokeinterface 168 3, .if_icmp .lt 5, .aload 0, .iload 3, .invokeinterface 189 2, .iload 2, .iconst 1, .iload 3, .ishl, .ior, .istore 2, .goto_w 5] := rfl
theorem zb_231_5 : zB 231 5 = [.goto 9] := rfl
theorem zb_231_6 : zB 231 6 = [.aload 0, .iload 3, .iconst 8, .invokeinterface 168 3, .iconst (-1), .if_icmp .eq 9, .aload 0, .iload 3, .iconst 8, .aload 0, .iload 3, .iconst 8, .invokeinterface 168 3, .ifCond .le 7, .aload 0, .iload 3, .iconst 8, .invokeinterface 168 3, .iconst 1, .isub, .goto 8] := rfl
theorem zb_231_7 : zB 231 7 = [.iconst 0, .goto_w 8] := rfl
theorem zb_231_8 : zB 231 8 = [.invokeinterface 169 4, .aload 0, .iload 3, .iconst 8, .invokeinterface 168 3, .ifCond .ne 9, .iload 4, .ifCond .ne 9, .aload 0, .iload 3, .iconst 6, .iconst 1, .invokeinterface 169 4, .aload 0, .iload 3, .iconst 7, .iconst 0, .invokeinterface 169 4, .aload 0, .iload 3, .iconst 8, .iconst (-1), .invokeinterface 169 4, .goto_w 9] := rfl
theorem zb_231_9 : zB 231 9 = [.iinc 3 1, .goto 1] := rfl
theorem zb_231_10 : zB 231 10 = [.iload 2, .ireturn] := rfl
theorem zb_232_0 : zB 232 0 = [.aload 0, .invokeinterface 165 1, .aload 0, .aload 0, .iload 1, .invokeinterface 188 2, .invokeinterface 192 2, .ireturn] := rfl
theorem zb_233_0 : zB 233 0 = [.aload 0, .invokeinterface 165 1, .aload 0, .aload 0, .iload 1, .invokeinterface 190 2, .invokeinterface 192 2, .ireturn] := rfl
theorem zb_234_0 : zB 234 0 = [.aload 0, .invokeinterface 165 1, .aload 0, .aload 0, .iload 1, .invokeinterface 191 2, .invokeinterface 192 2, .ireturn] := rfl
theorem zb_235_0 : zB 235 0 = [.aload 0, .aload 0, .invokeinterface 229 1, .invokeinterface 164 2, .ireturn] := rfl
theorem zb_236_0 : zB 236 0 = [.aload 0, .invokeinterface 165 1, .aload 0, .iload 1, .invokeinterface 189 2, .aload 0, .iconst (-1), .putfield 676, .iconst 1, .istore 2, .goto_w 1] := rfl
theorem zb_236_1 : zB 236 1 = [.iload 2, .iconst 40, .if_icmp .gt 4, .aload 0, .invokeinterface 231 1, .iconst 1, .iload 1, .ishl, .iconst (-1), .ixor, .iand, .istore 3, .aload 0, .aload 0, .getfield 676, .iconst (-1), .if_icmp .ne 2, .iload 3, .ifCond .eq 2, .iload 2, .goto 3] := rfl
theorem zb_236_2 : zB 236 2 = [.aload 0, .getfield 676, .goto_w 3] := rfl
theorem zb_236_3 : zB 236 3 = [.putfield 676, .iinc 2 1, .goto 1] := rfl
theorem zb_236_4 : zB 236 4 = [.aload 0, .invokeinterface 229 1, .istore 2, .aload 0, .invokeinterface 166 1, .iload 2, .ireturn] := rfl
theorem zb_237_0 : zB 237 0 = [.aload 0, .iload 1, .invokeinterface 174 2, .ifCond .ne 1, .aload 0, .iconst 1, .invokeinterface 163 2, .ireturn] := rfl
theorem zb_237_1 : zB 237 1 = [.aload 0, .iload 1, .invokeinterface 176 2, .ifCond .eq 2, .aload 0, .aload 0, .iload 1, .invokeinterface 236 2, .invokeinterface 164 2, .goto 3] := rfl
theorem zb_237_2 : zB 237 2 = [.aload 0, .iconst 2, .invokeinterface 163 2, .goto_w 3] := rfl
theorem zb_237_3 : zB 237 3 = [.ireturn] := rfl
theorem zb_238_0 : zB 238 0 = [.aload 0, .iload 1, .invokeinterface 174 2, .ifCond .ne 1, .aload 0, .iconst 1, .invokeinterface 163 2, .ireturn] := rfl
theorem zb_238_1 : zB 238 1 = [.aload 0, .iload 1, .invokeinterface 176 2, .ifCond .ne 2, .aload 0, .iconst 2, .invokeinterface 163 2, .ireturn] := rfl
theorem zb_238_2 : zB 238 2 = [.aload 0, .iload 1, .invokeinterface 236 2, .istore 2, .aload 0, .iload 2, .ifCond .ne 3, .iconst (-1), .goto 4] := rfl
theorem zb_238_3 : zB 238 3 = [.aload 0, .getfield 676, .goto_w 4] := rfl
theorem zb_238_4 : zB 238 4 = [.invokeinterface 164 2, .ireturn] := rfl
theorem zb_239_0 : zB 239 0 = [.iconst (-1), .istore 3, .iconst 0, .istore 4, .goto_w 1] := rfl
theorem zb_239_1 : zB 239 1 = [.iload 4, .aload 0, .getfield 640, .iconst 0, .iaload, .if_icmp .ge 7, .iload 1, .iload 4, .ishr, .iconst 1, .iand, .iconst 1, .if_icmp .ne 2, .aload 0, .getfield 677, .iload 4, .iaload, .iconst (-1), .if_icmp .ne 2, .aload 0, .getfield 647, .iload 4, .iaload, .iload 1, .iand, .iload 2, .iconst (-1), .ixor, .iand, .ifCond .ne 2, .iconst 1, .goto 3] := rfl
theorem zb_239_2 : zB 239 2 = [.iconst 0, .goto_w 3] := rfl
theorem zb_239_3 : zB 239 3 = [.istore 5, .iload 5, .ifCond .eq 5, .iload 3, .iconst (-1), .if_icmp .eq 4, .aload 0, .iload 4, .iconst 4, .invokeinterface 168 3, .aload 0, .iload 3, .iconst 4, .invokeinterface 168 3, .if_icmp .le 5, .goto_w 4] := rfl
theorem zb_239_4 : zB 239 4 = [.iload 4, .goto 6] := rfl
theorem zb_239_5 : zB 239 5 = [.iload 3, .goto_w 6] := rfl
theorem zb_239_6 : zB 239 6 = [.istore 3, .iinc 4 1, .goto 1] := rfl
theorem zb_239_7 : zB 239 7 = [.iload 3, .ireturn] := rfl
theorem zb_240_0 : zB 240 0 = [.aload 0, .invokeinterface 180 1, .aload 0, .invokeinterface 229 1, .istore 2, .iconst 0, .istore 3, .iconst 0, .istore 4, .goto_w 1] := rfl
theorem zb_240_1 : zB 240 1 = [.iload 4, .iconst 12, .if_icmp .ge 2, .aload 0, .getfield 677, .iload 4, .iconst (-1), .iastore, .iinc 4 1, .goto 1] := rfl
theorem zb_240_2 : zB 240 2 = [.iconst 0, .istore 4, .goto_w 3] := rfl
theorem zb_240_3 : zB 240 3 = [.iload 3, .iload 2, .if_icmp .eq 17, .iload 1, .istore 5, .iconst 0, .istore 6, .goto_w 4] := rfl
theorem zb_240_4 : zB 240 4 = [.iload 6, .aload 0, .getfield 640, .iconst 0, .iaload, .if_icmp .ge 12, .aload 0, .getfield 677, .iload 6, .iaload, .iconst (-1), .if_icmp .eq 11, .iload 3, .iload 6, .ishr, .iconst 1, .iand, .ifCond .ne 11, .aload 0, .getfield 677, .iload 6, .iaload, .aload 0, .iload 6, .iconst 3, .invokeinterface 168 3, .iadd, .iload 4, .if_icmp .gt 5, .iconst 1, .goto 6] := rfl
theorem zb_240_5 : zB 240 5 = [.iconst 0, .goto_w 6] := rfl
theorem zb_240_6 : zB 240 6 = [.istore 7, .iload 3, .iload 7, .ifCond .eq 7, .iconst 1, .iload 6, .ishl, .goto 8] := rfl
theorem zb_240_7 : zB 240 7 = [.iconst 0, .goto_w 8] := rfl
theorem zb_240_8 : zB 240 8 = [.ior, .istore 3, .iload 5, .iload 7, .ifCond .eq 9, .iconst 0, .goto 10] := rfl
theorem zb_240_9 : zB 240 9 = [.iconst 1, .goto_w 10] := rfl
theorem zb_240_10 : zB 240 10 = [.isub, .istore 5, .goto_w 11] := rfl
theorem zb_240_11 : zB 240 11 = [.iinc 6 1, .goto 4] := rfl
theorem zb_240_12 : zB 240 12 = [.aload 0, .iload 2, .iload 3, .invokeinterface 239 3, .istore 6, .goto_w 13] := rfl
theorem zb_240_13 : zB 240 13 = [.iload 5, .ifCond .le 14, .iload 6, .iconst (-1), .if_icmp .eq 14, .aload 0, .getfield 677, .iload 6, .iload 4, .iastore, .iinc 5 (-1), .aload 0, .iload 2, .iload 3, .invokeinterface 239 3, .istore 6, .goto 13] := rfl
theorem zb_240_14 : zB 240 14 = [.iload 4, .iload 3, .iload 2, .if_icmp .ne 15, .iconst 0, .goto 16] := rfl
theorem zb_240_15 : zB 240 15 = [.iconst 1, .goto_w 16] := rfl
theorem zb_240_16 : zB 240 16 = [.iadd, .istore 4, .goto 3] := rfl
theorem zb_240_17 : zB 240 17 = [.iload 4, .ireturn] := rfl
theorem zb_241_0 : zB 241 0 = [.iload 1, .iconst 1, .iconst 4, .invokeinterface 162 3, .ifCond .eq 1, .aload 0, .aload 0, .iload 1, .invokeinterface 240 2, .invokeinterface 164 2, .goto 2] := rfl
theorem zb_241_1 : zB 241 1 = [.aload 0, .iconst 1, .invokeinterface 163 2, .goto_w 2] := rfl
theorem zb_241_2 : zB 241 2 = [.ireturn] := rfl
theorem zb_242_0 : zB 242 0 = [.iload 1, .iconst 1, .iconst 4, .invokeinterface 162 3, .ifCond .ne 1, .aload 0, .iconst 1, .invokeinterface 163 2, .ireturn] := rfl
theorem zb_242_1 : zB 242 1 = [.aload 0, .iload 2, .invokeinterface 174 2, .ifCond .ne 2, .aload 0, .iconst 2, .invokeinterface 163 2, .ireturn] := rfl
theorem zb_242_2 : zB 242 2 = [.aload 0, .iload 1, .invokeinterface 240 2, .istore 3, .aload 0, .iload 3, .ifCond .ge 3, .iconst (-1), .goto 4] := rfl
theorem zb_242_3 : zB 242 3 = [.aload 0, .getfield 677, .iload 2, .iaload, .goto_w 4] := rfl
theorem zb_242_4 : zB 242 4 = [.invokeinterface 164 2, .ireturn] := rfl
theorem zb_243_0 : zB 243 0 = [.iconst 0, .istore 2, .iconst 0, .istore 3, .goto_w 1] := rfl
theorem zb_243_1 : zB 243 1 = [.iload 3, .aload 0, .getfield 640, .iconst 0, .iaload, .if_icmp .ge 4, .iload 2, .iload 1, .iload 3, .ishr, .iconst 1, .iand, .iconst 1, .if_icmp .ne 2, .aload 0, .iload 3, .iconst 3, .invokeinterface 168 3, .goto 3] := rfl
theorem zb_243_2 : zB 243 2 = [.iconst 0, .goto_w 3] := rfl
theorem zb_243_3 : zB 243 3 = [.iadd, .istore 2, .iinc 3 1, .goto 1] := rfl
theorem zb_243_4 : zB 243 4 = [.iload 2, .ireturn] := rfl
theorem zb_244_0 : zB 244 0 = [.iload 2, .iload 3, .iconst (-1), .ixor, .iand, .iload 1, .ishr, .iconst 1, .iand, .iconst 1, .if_icmp .ne 1, .aload 0, .getfield 647, .iload 1, .iaload, .iload 2, .iand, .iload 3, .iconst (-1), .ixor, .iand, .ifCond .ne 1, .iconst 1, .goto 2] := rfl
theorem zb_244_1 : zB 244 1 = [.iconst 0, .goto_w 2] := rfl
theorem zb_244_2 : zB 244 2 = [.istore 4, .iload 4, .ifCond .eq 3, .aload 0, .iload 1, .iconst 4, .invokeinterface 168 3, .aload 0, .iload 3, .invokeinterface 243 2, .aload 0, .iload 1, .iconst 3, .invokeinterface 168 3, .iadd, .imul, .aload 0, .getfield 678, .iload 3, .iconst 1, .iload 1, .ishl, .ior, .iaload, .iadd, .goto 4] := rfl
theorem zb_244_3 : zB 244 3 = [.iconst 100000000, .goto_w 4] := rfl
theorem zb_244_4 : zB 244 4 = [.ireturn] := rfl
theorem zb_245_0 : zB 245 0 = [.aload 0, .invokeinterface 180 1, .aload 0, .invokeinterface 229 1, .istore 1, .iload 1, .istore 2, .goto_w 1] := rfl
theorem zb_245_1 : zB 245 1 = [.iload 2, .ifCond .lt 9, .iload 2, .iload 1, .iconst (-1), .ixor, .iand, .ifCond .ne 8, .iload 2, .iload 1, .if_icmp .ne 2, .iconst 0, .goto 3] := rfl
theorem zb_245_2 : zB 245 2 = [.iconst 100000000, .goto_w 3] := rfl
theorem zb_245_3 : zB 245 3 = [.istore 3, .iconst 0, .istore 4, .goto_w 4] := rfl
theorem zb_245_4 : zB 245 4 = [.iload 4, .aload 0, .getfield 640, .iconst 0, .iaload, .if_icmp .ge 7, .aload 0, .iload 4, .iload 1, .iload 2, .invokeinterface 244 4, .istore 5, .iload 5, .iload 3, .if_icmp .ge 5, .iload 5, .goto 6] := rfl
theorem zb_245_5 : zB 245 5 = [.iload 3, .goto_w 6] := rfl
theorem zb_245_6 : zB 245 6 = [.istore 3, .iinc 4 1, .goto 4] := rfl
theorem zb_245_7 : zB 245 7 = [.aload 0, .getfield 678, .iload 2, .iload 3, .iastore, .goto_w 8] := rfl
theorem zb_245_8 : zB 245 8 = [.iinc 2 (-1), .goto 1] := rfl
theorem zb_245_9 : zB 245 9 = [.aload 0, .getfield 678, .iconst 0, .iaload, .ireturn] := rfl
theorem zb_246_0 : zB 246 0 = [.aload 0, .aload 0, .invokeinterface 245 1, .invokeinterface 164 2, .ireturn] := rfl
theorem zb_247_0 : zB 247 0 = [.aload 0, .invokeinterface 245 1, .istore 2, .aload 0, .invokeinterface 229 1, .istore 3, .iconst 0, .istore 4, .iload 1, .istore 5, .iconst (-1), .istore 6, .goto_w 1] := rfl
theorem zb_247_1 : zB 247 1 = [.iload 4, .iload 3, .if_icmp .eq 6, .iload 5, .ifCond .lt 6, .iload 2, .ifCond .lt 6, .iconst 0, .istore 7, .goto_w 2] := rfl
theorem zb_247_2 : zB 247 2 = [.aload 0, .iload 7, .iload 3, .iload 4, .invokeinterface 244 4, .aload 0, .getfield 678, .iload 4, .iaload, .if_icmp .eq 3, .iinc 7 1, .goto 2] := rfl
theorem zb_247_3 : zB 247 3 = [.iload 5, .ifCond .ne 4, .iload 7, .goto 5] := rfl
theorem zb_247_4 : zB 247 4 = [.iload 6, .goto_w 5] := rfl
theorem zb_247_5 : zB 247 5 = [.istore 6, .iinc 5 (-1), .iload 4, .iconst 1, .iload 7, .ishl, .ior, .istore 4, .goto 1] := rfl
theorem zb_247_6 : zB 247 6 = [.aload 0, .iload 6, .invokeinterface 164 2, .ireturn] := rfl
theorem zb_248_0 : zB 248 0 = [.iload 1, .istore 2, .iconst 0, .istore 3, .goto_w 1] := rfl
theorem zb_248_1 : zB 248 1 = [.iload 3, .aload 0, .getfield 640, .iconst 0, .iaload, .if_icmp .ge 4, .iload 2, .aload 0, .aload 0, .getfield 648, .iload 3, .iaload, .iload 2, .invokeinterface 230 3, .ifCond .eq 2, .iconst 1, .aload 0, .getfield 648, .iload 3, .iaload, .ishl, .goto 3] := rfl
theorem zb_248_2 : zB 248 2 = [.iconst 0, .goto_w 3] := rfl
theorem zb_248_3 : zB 248 3 = [.ior, .istore 2, .iinc 3 1, .goto 1] := rfl
theorem zb_248_4 : zB 248 4 = [.iload 2, .ireturn] := rfl
theorem zb_249_0 : zB 249 0 = [.aload 0, .iload 1, .invokeinterface 174 2, .ifCond .ne 3, .aload 0, .iconst 1, .invokeinterface 163 2, .ifCond .eq 1, .iconst 1, .goto 2] := rfl
theorem zb_249_1 : zB 249 1 = [.iconst 0, .goto_w 2] := rfl
theorem zb_249_2 : zB 249 2 = [.ireturn] := rfl
theorem zb_249_3 : zB 249 3 = [.iload 2, .ifCond .lt 4, .iload 2, .iconst 1, .aload 0, .getfield 640, .iconst 0, .iaload, .ishl, .if_icmp .lt 7, .goto_w 4] := rfl
theorem zb_249_4 : zB 249 4 = [.aload 0, .iconst 2, .invokeinterface 163 2, .ifCond .eq 5, .iconst 1, .goto 6] := rfl
theorem zb_249_5 : zB 249 5 = [.iconst 0, .goto_w 6] := rfl
theorem zb_249_6 : zB 249 6 = [.ireturn] := rfl
theorem zb_249_7 : zB 249 7 = [.aload 0, .iconst 0, .putfield 646, .aload 0, .invokeinterface 181 1, .aload 0, .iload 2, .invokeinterface 248 2, .iload 1, .ishr, .iconst 1, .iand, .iconst 1, .if_icmp .ne 8, .iconst 1, .goto 9] := rfl
theorem zb_249_8 : zB 249 8 = [.iconst 0, .goto_w 9] := rfl
theorem zb_249_9 : zB 249 9 = [.ireturn] := rfl
theorem zb_250_0 : zB 250 0 = [.aload 0, .invokeinterface 181 1, .iconst 0, .istore 2, .goto_w 1] := rfl
theorem zb_250_1 : zB 250 1 = [.iload 2, .iconst 1, .aload 0, .getfield 640, .iconst 0, .iaload, .ishl, .if_icmp .ge 4, .aload 0, .getfield 679, .iload 2, .aload 0, .iload 2, .invokeinterface 248 2, .iload 1, .ishr, .iconst 1, .iand, .iconst 1, .if_icmp .ne 2, .iconst 1, .goto 3] := rfl
theorem zb_250_2 : zB 250 2 = [.iconst 0, .goto_w 3] := rfl
theorem zb_250_3 : zB 250 3 = [.bastore, .iinc 2 1, .goto 1] := rfl
theorem zb_250_4 : zB 250 4 = [.return_] := rfl
theorem zb_251_0 : zB 251 0 = [.iconst 0, .istore 1, .iconst 0, .istore 2, .goto_w 1] := rfl
theorem zb_251_1 : zB 251 1 = [.iload 2, .iconst 12, .if_icmp .ge 2, .iload 1, .iload 0, .iload 2, .ishr, .iconst 1, .iand, .iadd, .istore 1, .iinc 2 1, .goto 1] := rfl
theorem zb_251_2 : zB 251 2 = [.iload 1, .ireturn] := rfl
theorem zb_252_0 : zB 252 0 = [.aload 0, .getfield 679, .iload 1, .baload, .istore 2, .iconst 0, .istore 3, .goto_w 1] := rfl
theorem zb_252_1 : zB 252 1 = [.iload 3, .iconst 12, .if_icmp .ge 5, .iload 2, .ifCond .eq 5, .iload 1, .iload 3, .ishr, .iconst 1, .iand, .ifCond .eq 2, .aload 0, .getfield 679, .iload 1, .iconst 1, .iload 3, .ishl, .iconst (-1), .ixor, .iand, .baload, .ifCond .ne 3, .goto_w 2] := rfl
theorem zb_252_2 : zB 252 2 = [.iconst 1, .goto 4] := rfl
theorem zb_252_3 : zB 252 3 = [.iconst 0, .goto_w 4] := rfl
theorem zb_252_4 : zB 252 4 = [.istore 2, .iinc 3 1, .goto 1] := rfl
theorem zb_252_5 : zB 252 5 = [.iload 2, .ireturn] := rfl
theorem zb_253_0 : zB 253 0 = [.aload 0, .iload 1, .invokeinterface 250 2, .iconst 0, .istore 4, .iconst (-1), .istore 5, .iconst 0, .istore 6, .goto_w 1] := rfl
theorem zb_253_1 : zB 253 1 = [.iload 6, .iconst 1, .aload 0, .getfield 640, .iconst 0, .iaload, .ishl, .if_icmp .ge 5, .iload 6, .invokeinterface 251 1, .iload 2, .if_icmp .ne 4, .aload 0, .iload 6, .invokeinterface 252 2, .ifCond .eq 4, .iload 4, .iload 3, .if_icmp .ne 2, .iload 6, .goto 3] := rfl
theorem zb_253_2 : zB 253 2 = [.iload 5, .goto_w 3] := rfl
theorem zb_253_3 : zB 253 3 = [.istore 5, .iinc 4 1, .goto_w 4] := rfl
theorem zb_253_4 : zB 253 4 = [.iinc 6 1, .goto 1] := rfl
theorem zb_253_5 : zB 253 5 = [.iload 3, .ifCond .ge 6, .iload 4, .goto 7] := rfl
theorem zb_253_6 : zB 253 6 = [.iload 5, .goto_w 7] := rfl
theorem zb_253_7 : zB 253 7 = [.ireturn] := rfl
theorem zb_254_0 : zB 254 0 = [.aload 0, .iload 1, .invokeinterface 174 2, .ifCond .ne 1, .aload 0, .iconst 1, .invokeinterface 163 2, .ireturn] := rfl
theorem zb_254_1 : zB 254 1 = [.iload 2, .iconst 1, .iconst 12, .invokeinterface 162 3, .ifCond .eq 2, .aload 0, .aload 0, .iload 1, .iload 2, .iconst (-1), .invokeinterface 253 4, .invokeinterface 164 2, .goto 3] := rfl
theorem zb_254_2 : zB 254 2 = [.aload 0, .iconst 2, .invokeinterface 163 2, .goto_w 3] := rfl
theorem zb_254_3 : zB 254 3 = [.ireturn] := rfl
theorem zb_255_0 : zB 255 0 = [.aload 0, .iload 1, .invokeinterface 174 2, .ifCond .ne 1, .aload 0, .iconst 1, .invokeinterface 163 2, .ireturn] := rfl
theorem zb_255_1 : zB 255 1 = [.iload 2, .iconst 1, .iconst 12, .invokeinterface 162 3, .ifCond .ne 2, .aload 0, .iconst 2, .invokeinterface 163 2, .ireturn] := rfl
theorem zb_255_2 : zB 255 2 = [.aload 0, .iload 3, .ifCond .ge 3, .iconst (-1), .goto 4] := rfl
theorem zb_255_3 : zB 255 3 = [.aload 0, .iload 1, .iload 2, .iload 3, .invokeinterface 253 4, .goto_w 4] := rfl
theorem zb_255_4 : zB 255 4 = [.invokeinterface 164 2, .ireturn] := rfl
theorem zb_256_0 : zB 256 0 = [.jsr 0, .dstore 2, .iconst 0, .istore 4, .goto_w 1] := rfl
theorem zb_256_1 : zB 256 1 = [.iload 4, .iconst 1, .aload 0, .getfield 640, .iconst 0, .iaload, .ishl, .if_icmp .ge 9, .aload 0, .getfield 679, .iload 4, .baload, .ifCond .ne 8, .jsr 4607182418800017408, .dstore 5, .iconst 0, .istore 7, .goto_w 2] := rfl
theorem zb_256_2 : zB 256 2 = [.iload 7, .aload 0, .getfield 640, .iconst 0, .iaload, .if_icmp .ge 7, .iload 7, .iload 1, .if_icmp .ne 3, .iconst 1000, .goto 4] := rfl
theorem zb_256_3 : zB 256 3 = [.aload 0, .iload 7, .iconst 5, .invokeinterface 168 3, .goto_w 4] := rfl
theorem zb_256_4 : zB 256 4 = [.istore 8, .dload 5, .iload 4, .iload 7, .ishr, .iconst 1, .iand, .ifCond .ne 5, .iload 8, .i2d, .jsr 4652007308841189376, .ddiv, .goto 6] := rfl
theorem zb_256_5 : zB 256 5 = [.iconst 1000, .iload 8, .isub, .i2d, .jsr 4652007308841189376, .ddiv, .goto_w 6] := rfl
theorem zb_256_6 : zB 256 6 = [.dmul, .dstore 5, .iinc 7 1, .goto 2] := rfl
theorem zb_256_7 : zB 256 7 = [.dload 2, .dload 5, .dadd, .dstore 2, .goto_w 8] := rfl
theorem zb_256_8 : zB 256 8 = [.iinc 4 1, .goto 1] := rfl
theorem zb_256_9 : zB 256 9 = [.dload 2, .dreturn] := rfl
theorem zb_257_0 : zB 257 0 = [.aload 0, .iload 1, .invokeinterface 174 2, .ifCond .ne 1, .aload 0, .iconst 1, .invokeinterface 163 2, .ireturn] := rfl
theorem zb_257_1 : zB 257 1 = [.aload 0, .iload 1, .invokeinterface 250 2, .aload 0, .aload 0, .iconst (-1), .invokeinterface 256 2, .d2f, .invokeinterface 303 1, .invokeinterface 164 2, .ireturn] := rfl
theorem zb_258_0 : zB 258 0 = [.aload 0, .iload 1, .invokeinterface 174 2, .ifCond .ne 1, .aload 0, .iconst 1, .invokeinterface 163 2, .ireturn] := rfl
theorem zb_258_1 : zB 258 1 = [.aload 0, .iload 1, .invokeinterface 250 2, .iconst (-1), .istore 2, .jsr 0, .dstore 3, .iconst 0, .istore 5, .goto_w 2] := rfl
theorem zb_258_2 : zB 258 2 = [.iload 5, .aload 0, .getfield 640, .iconst 0, .iaload, .if_icmp .ge 5, .aload 0, .iload 5, .invokeinterface 256 2, .dstore 6, .iload 2, .iconst (-1), .if_icmp .eq 3, .dload 6, .dload 3, .dcmp .l, .ifCond .le 4, .goto_w 3] := rfl
theorem zb_258_3 : zB 258 3 = [.iload 5, .istore 2, .dload 6, .dstore 3, .goto_w 4] := rfl
theorem zb_258_4 : zB 258 4 = [.iinc 5 1, .goto 2] := rfl
theorem zb_258_5 : zB 258 5 = [.aload 0, .iload 2, .invokeinterface 164 2, .ireturn] := rfl
theorem zb_259_0 : zB 259 0 = [.iload 1, .iconst 0, .iconst 127, .invokeinterface 162 3, .ifCond .ne 1, .aload 0, .iconst 1, .invokeinterface 163 2, .ireturn] := rfl
theorem zb_259_1 : zB 259 1 = [.aload 0, .getfield 645, .iconst 120, .if_icmp .ne 2, .aload 0, .iconst 2, .invokeinterface 163 2, .ireturn] := rfl
theorem zb_259_2 : zB 259 2 = [.aload 0, .getfield 644, .aload 0, .getfield 645, .iload 1, .iastore, .aload 0, .dup, .getfield 645, .iconst 1, .iadd, .putfield 645, .aload 0, .aload 0, .getfield 645, .invokeinterface 164 2, .ireturn] := rfl
theorem zb_260_0 : zB 260 0 = [.aload 0, .getfield 645, .istore 1, .aload 0, .iconst 0, .putfield 645, .aload 0, .iload 1, .invokeinterface 164 2, .ireturn] := rfl
theorem zb_261_0 : zB 261 0 = [.aload 0, .getfield 680, .aload 0, .getfield 645, .if_icmp .ge 1, .aload 0, .getfield 644, .aload 0, .getfield 680, .iaload, .iload 1, .iload 2, .invokeinterface 162 3, .ifCond .eq 1, .iconst 1, .goto 2] := rfl
theorem zb_261_1 : zB 261 1 = [.iconst 0, .goto_w 2] := rfl
theorem zb_261_2 : zB 261 2 = [.ireturn] := rfl
theorem zb_262_0 : zB 262 0 = [.iload 0, .lookupswitch 4 #[(97, 1), (98, 4), (99, 2), (100, 1), (101, 4), (102, 4), (103, 4), (104, 4), (105, 4), (106, 4), (107, 4), (108, 4), (109, 4), (110, 4), (111, 4), (112, 3), (113, 4), (114, 1), (115, 1)]] := rfl
theorem zb_262_1 : zB 262 1 = [.iconst 1, .ireturn] := rfl
theorem zb_262_2 : zB 262 2 = [.iconst 5, .ireturn] := rfl
theorem zb_262_3 : zB 262 3 = [.iconst 3, .ireturn] := rfl
theorem zb_262_4 : zB 262 4 = [.iconst 0, .ireturn] := rfl
theorem zb_263_0 : zB 263 0 = [.aload 0, .getfield 680, .istore 2, .aload 0, .getfield 682, .iload 1, .iconst 0, .iastore, .goto_w 1] := rfl
theorem zb_263_1 : zB 263 1 = [.aload 0, .iconst 48, .iconst 57, .invokeinterface 261 3, .ifCond .eq 2, .aload 0, .getfield 680, .iload 2, .isub, .iconst 3, .if_icmp .ge 2, .aload 0, .getfield 682, .iload 1, .iconst 10, .aload 0, .getfield 682, .iload 1, .iaload, .imul, .aload 0, .getfield 644, .aload 0, .getfield 680, .iaload, .iadd, .iconst 48, .isub, .iastore, .aload 0, .dup, .getfield 680, .iconst 1, .iadd, .putfield 680, .goto 1] := rfl
theorem zb_263_2 : zB 263 2 = [.aload 0, .getfield 680, .iload 2, .if_icmp .le 3, .iconst 1, .goto 4] := rfl
theorem zb_263_3 : zB 263 3 = [.iconst 0, .goto_w 4] := rfl
theorem zb_263_4 : zB 263 4 = [.ireturn] := rfl
theorem zb_264_0 : zB 264 0 = [.aload 0, .aload 0, .getfield 644, .aload 0, .getfield 680, .iaload, .putfield 681, .aload 0, .getfield 681, .invokeinterface 262 1, .istore 1, .iload 1, .ifCond .ne 1, .iconst 0, .ireturn] := rfl
theorem zb_264_1 : zB 264 1 = [.aload 0, .dup, .getfield 680, .iconst 1, .iadd, .putfield 680, .iconst 0, .istore 2, .goto_w 2] := rfl
theorem zb_264_2 : zB 264 2 = [.iload 2, .iload 1, .if_icmp .ge 9, .aload 0, .iload 2, .invokeinterface 263 2, .ifCond .eq 7, .aload 0, .iload 2, .iload 1, .iconst 1, .isub, .if_icmp .ge 3, .iconst 44, .goto 4] := rfl
theorem zb_264_3 : zB 264 3 = [.iconst 59, .goto_w 4] := rfl
theorem zb_264_4 : zB 264 4 = [.iload 2, .iload 1, .iconst 1, .isub, .if_icmp .ge 5, .iconst 44, .goto 6] := rfl
theorem zb_264_5 : zB 264 5 = [.iconst 59, .goto_w 6] := rfl
theorem zb_264_6 : zB 264 6 = [.invokeinterface 261 3, .ifCond .ne 8, .goto_w 7] := rfl
theorem zb_264_7 : zB 264 7 = [.iconst 0, .ireturn] := rfl
theorem zb_264_8 : zB 264 8 = [.aload 0, .dup, .getfield 680, .iconst 1, .iadd, .putfield 680, .iinc 2 1, .goto 2] := rfl
theorem zb_264_9 : zB 264 9 = [.iconst 1, .ireturn] := rfl
theorem zb_265_0 : zB 265 0 = [.aload 0, .getfield 681, .lookupswitch 6 #[(97, 1), (99, 2), (100, 3), (114, 4), (115, 5)]] := rfl
theorem zb_265_1 : zB 265 1 = [.aload 0, .aload 0, .getfield 682, .iconst 0, .iaload, .invokeinterface 183 2, .ireturn] := rfl
theorem zb_265_2 : zB 265 2 = [.aload 0, .aload 0, .getfield 682, .iconst 0, .iaload, .aload 0, .getfield 682, .iconst 1, .iaload, .aload 0, .getfield 682, .iconst 2, .iaload, .aload 0, .getfield 682, .iconst 3, .iaload, .aload 0, .getfield 682, .iconst 4, .iaload, .invokeinterface 184 6, .ireturn] := rfl
theorem zb_265_3 : zB 265 3 = [.aload 0, .aload 0, .getfield 682, .iconst 0, .iaload, .invokeinterface 188 2, .ireturn] := rfl
theorem zb_265_4 : zB 265 4 = [.aload 0, .aload 0, .getfield 682, .iconst 0, .iaload, .invokeinterface 190 2, .ireturn] := rfl
theorem zb_265_5 : zB 265 5 = [.aload 0, .aload 0, .getfield 682, .iconst 0, .iaload, .invokeinterface 191 2, .ireturn] := rfl
theorem zb_265_6 : zB 265 6 = [.aload 0, .aload 0, .getfield 682, .iconst 0, .iaload, .aload 0, .getfield 682, .iconst 1, .iaload, .aload 0, .getfield 682, .iconst 2, .iaload, .invokeinterface 186 4, .ireturn] := rfl
theorem zb_266_0 : zB 266 0 = [.aload 0, .iconst 0, .putfield 646, .aload 0, .iconst 0, .putfield 680, .goto_w 1] := rfl
theorem zb_266_1 : zB 266 1 = [.aload 0, .getfield 680, .aload 0, .getfield 645, .if_icmp .ge 2, .aload 0, .invokeinterface 264 1, .ifCond .ne 1, .iconst (-10), .aload 0, .getfield 680, .isub, .ireturn] := rfl
theorem zb_266_2 : zB 266 2 = [.aload 0, .invokeinterface 165 1, .aload 0, .iconst 0, .putfield 680, .iconst 0, .istore 1, .goto_w 3] := rfl
theorem zb_266_3 : zB 266 3 = [.aload 0, .getfield 680, .aload 0, .getfield 645, .if_icmp .ge 7, .aload 0, .invokeinterface 264 1, .ifCond .eq 4, .aload 0, .invokeinterface 265 1, .ifCond .ne 4, .iconst 1, .goto 5] := rfl
theorem zb_266_4 : zB 266 4 = [.iconst 0, .goto_w 5] := rfl
theorem zb_266_5 : zB 266 5 = [.istore 2, .iload 2, .ifCond .ne 6, .aload 0, .invokeinterface 166 1, .iconst (-1000), .iload 1, .isub, .ireturn] := rfl
theorem zb_266_6 : zB 266 6 = [.iinc 1 1, .goto 3] := rfl
theorem zb_266_7 : zB 266 7 = [.aload 0, .iload 1, .invokeinterface 167 2, .ireturn] := rfl
theorem zb_267_0 : zB 267 0 = [.aload 0, .getfield 643, .ifCond .ne 1, .aload 0, .iconst 1, .invokeinterface 163 2, .ireturn] := rfl
theorem zb_267_1 : zB 267 1 = [.aload 0, .dup, .getfield 643, .iconst 1, .isub, .putfield 643, .iconst 0, .istore 1, .goto_w 2] := rfl
theorem zb_267_2 : zB 267 2 = [.iload 1, .iconst 230, .if_icmp .ge 3, .aload 0, .getfield 640, .iload 1, .aload 0, .getfield 641, .iconst 230, .aload 0, .getfield 643, .imul, .iload 1, .iadd, .iaload, .iastore, .iinc 1 1, .goto 2] := rfl
theorem zb_267_3 : zB 267 3 = [.aload 0, .aload 0, .getfield 643, .invokeinterface 164 2, .ireturn] := rfl
theorem zb_268_0 : zB 268 0 = [.aload 0, .jsr_w 31, .aload 0, .getfield 683, .lmul, .iload 1, .i2l, .ladd, .putfield 683, .return_] := rfl
theorem zb_269_0 : zB 269 0 = [.aload 0, .iconst 0, .putfield 646, .aload 0, .jsr_w 1851, .putfield 683, .aload 0, .aload 0, .getfield 640, .iconst 0, .iaload, .invokeinterface 268 2, .aload 0, .invokeinterface 224 1, .iconst 0, .istore 1, .goto_w 1] := rfl
theorem zb_269_1 : zB 269 1 = [.iload 1, .aload 0, .getfield 640, .iconst 0, .iaload, .if_icmp .ge 4, .iconst 0, .istore 2, .goto_w 2] := rfl
theorem zb_269_2 : zB 269 2 = [.iload 2, .iconst 11, .if_icmp .ge 3, .aload 0, .aload 0, .iload 1, .iload 2, .invokeinterface 201 3, .invokeinterface 268 2, .iinc 2 1, .goto 2] := rfl
theorem zb_269_3 : zB 269 3 = [.aload 0, .aload 0, .getfield 675, .iload 1, .iaload, .invokeinterface 268 2, .iinc 1 1, .goto 1] := rfl
theorem zb_269_4 : zB 269 4 = [.aload 0, .aload 0, .getfield 640, .iconst 1, .iaload, .invokeinterface 268 2, .iconst 0, .istore 1, .goto_w 5] := rfl
theorem zb_269_5 : zB 269 5 = [.iload 1, .aload 0, .getfield 640, .iconst 1, .iaload, .if_icmp .ge 8, .iconst 0, .istore 2, .goto_w 6] := rfl
theorem zb_269_6 : zB 269 6 = [.iload 2, .iconst 6, .if_icmp .ge 7, .aload 0, .aload 0, .iload 1, .iload 2, .invokeinterface 203 3, .invokeinterface 268 2, .iinc 2 1, .goto 6] := rfl
theorem zb_269_7 : zB 269 7 = [.iinc 1 1, .goto 5] := rfl
theorem zb_269_8 : zB 269 8 = [.aload 0, .aload 0, .invokeinterface 226 1, .invokeinterface 268 2, .aload 0, .aload 0, .invokeinterface 229 1, .invokeinterface 268 2, .aload 0, .aload 0, .iconst 2, .invokeinterface 240 2, .invokeinterface 268 2, .aload 0, .aload 0, .invokeinterface 245 1, .invokeinterface 268 2, .aload 0, .aload 0, .getfield 645, .invokeinterface 268 2, .aload 0, .aload 0, .getfield 643, .invokeinterface 268 2, .aload 0, .getfield 683, .lreturn] := rfl
theorem zb_270_0 : zB 270 0 = [.aload 2, .iconst 0, .aload 0, .iload 1, .invokeinterface 116 2, .i2l, .lastore, .goto 3] := rfl
theorem zb_270_1 : zB 270 1 = [.astore 3, .iconst 1, .ireturn] := rfl
theorem zb_270_2 : zB 270 2 = [.astore 3, .iconst 2, .ireturn] := rfl
theorem zb_270_3 : zB 270 3 = [.iconst 0, .ireturn] := rfl
theorem zb_271_0 : zB 271 0 = [.aload 6, .iconst 0, .aload 0, .iload 1, .iload 2, .iload 3, .iload 4, .iload 5, .invokeinterface 117 6, .i2l, .lastore, .goto 4] := rfl
theorem zb_271_1 : zB 271 1 = [.astore 7, .iconst 1, .ireturn] := rfl
theorem zb_271_2 : zB 271 2 = [.astore 7, .iconst 2, .ireturn] := rfl
theorem zb_271_3 : zB 271 3 = [.astore 7, .iconst 3, .ireturn] := rfl
theorem zb_271_4 : zB 271 4 = [.iconst 0, .ireturn] := rfl
theorem zb_272_0 : zB 272 0 = [.aload 2, .iconst 0, .aload 0, .iload 1, .invokeinterface 118 2, .i2l, .lastore, .goto 3] := rfl
theorem zb_272_1 : zB 272 1 = [.astore 3, .iconst 1, .ireturn] := rfl
theorem zb_272_2 : zB 272 2 = [.astore 3, .iconst 2, .ireturn] := rfl
theorem zb_272_3 : zB 272 3 = [.iconst 0, .ireturn] := rfl
theorem zb_273_0 : zB 273 0 = [.aload 4, .iconst 0, .aload 0, .iload 1, .iload 2, .iload 3, .invokeinterface 119 4, .i2l, .lastore, .goto 3] := rfl
theorem zb_273_1 : zB 273 1 = [.astore 5, .iconst 1, .ireturn] := rfl
theorem zb_273_2 : zB 273 2 = [.astore 5, .iconst 2, .ireturn] := rfl
theorem zb_273_3 : zB 273 3 = [.iconst 0, .ireturn] := rfl
theorem zb_274_0 : zB 274 0 = [.aload 3, .iconst 0, .aload 0, .iload 1, .iload 2, .invokeinterface 120 3, .i2l, .lastore, .goto 3] := rfl
theorem zb_274_1 : zB 274 1 = [.astore 4, .iconst 1, .ireturn] := rfl
theorem zb_274_2 : zB 274 2 = [.astore 4, .iconst 2, .ireturn] := rfl
theorem zb_274_3 : zB 274 3 = [.iconst 0, .ireturn] := rfl
theorem zb_275_0 : zB 275 0 = [.aload 3, .iconst 0, .aload 0, .iload 1, .iload 2, .invokeinterface 123 3, .i2l, .lastore, .goto 3] := rfl
theorem zb_275_1 : zB 275 1 = [.astore 4, .iconst 1, .ireturn] := rfl
theorem zb_275_2 : zB 275 2 = [.astore 4, .iconst 2, .ireturn] := rfl
theorem zb_275_3 : zB 275 3 = [.iconst 0, .ireturn] := rfl
theorem zb_276_0 : zB 276 0 = [.aload 3, .iconst 0, .aload 0, .iload 1, .iload 2, .invokeinterface 124 3, .i2l, .lastore, .goto 3] := rfl
theorem zb_276_1 : zB 276 1 = [.astore 4, .iconst 1, .ireturn] := rfl
theorem zb_276_2 : zB 276 2 = [.astore 4, .iconst 2, .ireturn] := rfl
theorem zb_276_3 : zB 276 3 = [.iconst 0, .ireturn] := rfl
theorem zb_277_0 : zB 277 0 = [.aload 3, .iconst 0, .aload 0, .iload 1, .iload 2, .invokeinterface 125 3, .ifCond .eq 1, .jsr_w 1, .goto 2] := rfl
theorem zb_277_1 : zB 277 1 = [.jsr_w 0, .goto_w 2] := rfl
theorem zb_277_2 : zB 277 2 = [.lastore, .goto 4] := rfl
theorem zb_277_3 : zB 277 3 = [.astore 4, .iconst 1, .ireturn] := rfl
theorem zb_277_4 : zB 277 4 = [.iconst 0, .ireturn] := rfl
theorem zb_278_0 : zB 278 0 = [.aload 2, .iconst 0, .aload 0, .iload 1, .invokeinterface 127 2, .i2l, .lastore, .goto 2] := rfl
theorem zb_278_1 : zB 278 1 = [.astore 3, .iconst 1, .ireturn] := rfl
theorem zb_278_2 : zB 278 2 = [.iconst 0, .ireturn] := rfl
theorem zb_279_0 : zB 279 0 = [.aload 3, .iconst 0, .aload 0, .iload 1, .iload 2, .invokeinterface 128 3, .ifCond .eq 1, .jsr_w 1, .goto 2] := rfl
theorem zb_279_1 : zB 279 1 = [.jsr_w 0, .goto_w 2] := rfl
theorem zb_279_2 : zB 279 2 = [.lastore, .goto 5] := rfl
theorem zb_279_3 : zB 279 3 = [.astore 4, .iconst 1, .ireturn] := rfl
theorem zb_279_4 : zB 279 4 = [.astore 4, .iconst 2, .ireturn] := rfl
theorem zb_279_5 : zB 279 5 = [.iconst 0, .ireturn] := rfl
theorem zb_280_0 : zB 280 0 = [.aload 2, .iconst 0, .aload 0, .iload 1, .invokeinterface 129 2, .i2l, .lastore, .goto 3] := rfl
theorem zb_280_1 : zB 280 1 = [.astore 3, .iconst 1, .ireturn] := rfl
theorem zb_280_2 : zB 280 2 = [.astore 3, .iconst 2, .ireturn] := rfl
theorem zb_280_3 : zB 280 3 = [.iconst 0, .ireturn] := rfl
theorem zb_281_0 : zB 281 0 = [.aload 3, .iconst 0, .aload 0, .iload 1, .iload 2, .invokeinterface 130 3, .i2l, .lastore, .goto 2] := rfl
theorem zb_281_1 : zB 281 1 = [.astore 4, .iconst 1, .ireturn] := rfl
theorem zb_281_2 : zB 281 2 = [.iconst 0, .ireturn] := rfl
theorem zb_282_0 : zB 282 0 = [.aload 3, .iconst 0, .aload 0, .iload 1, .iload 2, .invokeinterface 131 3, .i2l, .lastore, .goto 2] := rfl
theorem zb_282_1 : zB 282 1 = [.astore 4, .iconst 1, .ireturn] := rfl
theorem zb_282_2 : zB 282 2 = [.iconst 0, .ireturn] := rfl
theorem zb_283_0 : zB 283 0 = [.aload 2, .iconst 0, .aload 0, .iload 1, .invokeinterface 132 2, .i2l, .lastore, .goto 2] := rfl
theorem zb_283_1 : zB 283 1 = [.astore 3, .iconst 1, .ireturn] := rfl
theorem zb_283_2 : zB 283 2 = [.iconst 0, .ireturn] := rfl
theorem zb_284_0 : zB 284 0 = [.aload 2, .iconst 0, .aload 0, .iload 1, .invokeinterface 133 2, .i2l, .lastore, .goto 2] := rfl
theorem zb_284_1 : zB 284 1 = [.astore 3, .iconst 1, .ireturn] := rfl
theorem zb_284_2 : zB 284 2 = [.iconst 0, .ireturn] := rfl
theorem zb_285_0 : zB 285 0 = [.aload 2, .iconst 0, .aload 0, .iload 1, .invokeinterface 136 2, .i2l, .lastore, .goto 3] := rfl
theorem zb_285_1 : zB 285 1 = [.astore 3, .iconst 1, .ireturn] := rfl
theorem zb_285_2 : zB 285 2 = [.astore 3, .iconst 2, .ireturn] := rfl
theorem zb_285_3 : zB 285 3 = [.iconst 0, .ireturn] := rfl
theorem zb_286_0 : zB 286 0 = [.aload 2, .iconst 0, .aload 0, .iload 1, .invokeinterface 137 2, .i2l, .lastore, .goto 3] := rfl
theorem zb_286_1 : zB 286 1 = [.astore 3, .iconst 1, .ireturn] := rfl
theorem zb_286_2 : zB 286 2 = [.astore 3, .iconst 2, .ireturn] := rfl
theorem zb_286_3 : zB 286 3 = [.iconst 0, .ireturn] := rfl
theorem zb_287_0 : zB 287 0 = [.aload 2, .iconst 0, .aload 0, .iload 1, .invokeinterface 138 2, .i2l, .lastore, .goto 2] := rfl
theorem zb_287_1 : zB 287 1 = [.astore 3, .iconst 1, .ireturn] := rfl
theorem zb_287_2 : zB 287 2 = [.iconst 0, .ireturn] := rfl
theorem zb_288_0 : zB 288 0 = [.aload 2, .iconst 0, .aload 0, .iload 1, .invokeinterface 140 2, .i2l, .lastore, .goto 3] := rfl
theorem zb_288_1 : zB 288 1 = [.astore 3, .iconst 1, .ireturn] := rfl
theorem zb_288_2 : zB 288 2 = [.astore 3, .iconst 2, .ireturn] := rfl
theorem zb_288_3 : zB 288 3 = [.iconst 0, .ireturn] := rfl
theorem zb_289_0 : zB 289 0 = [.aload 2, .iconst 0, .aload 0, .iload 1, .invokeinterface 141 2, .i2l, .lastore, .goto 3] := rfl
theorem zb_289_1 : zB 289 1 = [.astore 3, .iconst 1, .ireturn] := rfl
theorem zb_289_2 : zB 289 2 = [.astore 3, .iconst 2, .ireturn] := rfl
theorem zb_289_3 : zB 289 3 = [.iconst 0, .ireturn] := rfl
theorem zb_290_0 : zB 290 0 = [.aload 2, .iconst 0, .aload 0, .iload 1, .invokeinterface 142 2, .i2l, .lastore, .goto 2] := rfl
theorem zb_290_1 : zB 290 1 = [.astore 3, .iconst 1, .ireturn] := rfl
theorem zb_290_2 : zB 290 2 = [.iconst 0, .ireturn] := rfl
theorem zb_291_0 : zB 291 0 = [.aload 3, .iconst 0, .aload 0, .iload 1, .iload 2, .invokeinterface 143 3, .i2l, .lastore, .goto 3] := rfl
theorem zb_291_1 : zB 291 1 = [.astore 4, .iconst 1, .ireturn] := rfl
theorem zb_291_2 : zB 291 2 = [.astore 4, .iconst 2, .ireturn] := rfl
theorem zb_291_3 : zB 291 3 = [.iconst 0, .ireturn] := rfl
theorem zb_292_0 : zB 292 0 = [.aload 3, .iconst 0, .aload 0, .iload 1, .iload 2, .invokeinterface 146 3, .ifCond .eq 1, .jsr_w 1, .goto 2] := rfl
theorem zb_292_1 : zB 292 1 = [.jsr_w 0, .goto_w 2] := rfl
theorem zb_292_2 : zB 292 2 = [.lastore, .goto 5] := rfl
theorem zb_292_3 : zB 292 3 = [.astore 4, .iconst 1, .ireturn] := rfl
theorem zb_292_4 : zB 292 4 = [.astore 4, .iconst 2, .ireturn] := rfl
theorem zb_292_5 : zB 292 5 = [.iconst 0, .ireturn] := rfl
theorem zb_293_0 : zB 293 0 = [.aload 3, .iconst 0, .aload 0, .iload 1, .iload 2, .invokeinterface 147 3, .i2l, .lastore, .goto 3] := rfl
theorem zb_293_1 : zB 293 1 = [.astore 4, .iconst 1, .ireturn] := rfl
theorem zb_293_2 : zB 293 2 = [.astore 4, .iconst 2, .ireturn] := rfl
theorem zb_293_3 : zB 293 3 = [.iconst 0, .ireturn] := rfl
theorem zb_294_0 : zB 294 0 = [.aload 4, .iconst 0, .aload 0, .iload 1, .iload 2, .iload 3, .invokeinterface 148 4, .i2l, .lastore, .goto 3] := rfl
theorem zb_294_1 : zB 294 1 = [.astore 5, .iconst 1, .ireturn] := rfl
theorem zb_294_2 : zB 294 2 = [.astore 5, .iconst 2, .ireturn] := rfl
theorem zb_294_3 : zB 294 3 = [.iconst 0, .ireturn] := rfl
theorem zb_295_0 : zB 295 0 = [.aload 2, .iconst 0, .aload 0, .iload 1, .invokeinterface 149 2, .i2l, .lastore, .goto 2] := rfl
theorem zb_295_1 : zB 295 1 = [.astore 3, .iconst 1, .ireturn] := rfl
theorem zb_295_2 : zB 295 2 = [.iconst 0, .ireturn] := rfl
theorem zb_296_0 : zB 296 0 = [.aload 2, .iconst 0, .aload 0, .iload 1, .invokeinterface 150 2, .i2l, .lastore, .goto 2] := rfl
theorem zb_296_1 : zB 296 1 = [.astore 3, .iconst 1, .ireturn] := rfl
theorem zb_296_2 : zB 296 2 = [.iconst 0, .ireturn] := rfl
theorem zb_297_0 : zB 297 0 = [.aload 2, .iconst 0, .aload 0, .iload 1, .invokeinterface 151 2, .i2l, .lastore, .goto 3] := rfl
theorem zb_297_1 : zB 297 1 = [.astore 3, .iconst 1, .ireturn] := rfl
theorem zb_297_2 : zB 297 2 = [.astore 3, .iconst 2, .ireturn] := rfl
theorem zb_297_3 : zB 297 3 = [.iconst 0, .ireturn] := rfl
theorem zb_298_0 : zB 298 0 = [.aload 1, .iconst 0, .aload 0, .invokeinterface 154 1, .i2l, .lastore, .goto 2] := rfl
theorem zb_298_1 : zB 298 1 = [.astore 2, .iconst 1, .ireturn] := rfl
theorem zb_298_2 : zB 298 2 = [.iconst 0, .ireturn] := rfl
theorem zb_299_0 : zB 299 0 = [.new 9, .dup, .invokeinterface 115 1, .astore 1, .new 10, .dup, .invokeinterface 160 1, .astore 2, .iconst 1, .newarray .long, .astore 3, .iconst 0, .istore 4, .goto_w 1] := rfl
theorem zb_299_1 : zB 299 1 = [.iload 4, .aload 0, .arraylength, .iconst 6, .isub, .if_icmp .gt 107, .aload 0, .iload 4, .iaload, .iconst 63, .iand, .lookupswitch 106 #[(0, 2), (1, 5), (2, 8), (3, 11), (4, 14), (5, 17), (6, 18), (7, 19), (8, 22), (9, 25), (10, 30), (11, 31), (12, 34), (13, 39), (14, 42), (15, 45), (16, 48), (17, 51), (18, 54), (19, 55), (20, 56), (21, 59), (22, 62), (23, 65), (24, 66), (25, 69), (26, 72), (27, 75), (28, 78), (29, 79), (30, 80), (31, 85), (32, 88), (33, 91), (34, 94), (35, 97), (36, 100), (37, 101), (38, 102), (39, 105)]] := rfl
theorem zb_299_2 : zB 299 2 = [.aload 1, .aload 0, .iload 4, .iconst 1, .iadd, .iaload, .aload 3, .invokeinterface 270 3, .istore 5, .aload 2, .aload 0, .iload 4, .iconst 1, .iadd, .iaload, .invokeinterface 193 2, .istore 6, .aload 2, .invokeinterface 161 1, .iload 5, .if_icmp .eq 3, .iconst 0, .ireturn] := rfl
theorem zb_299_3 : zB 299 3 = [.iload 5, .ifCond .ne 4, .aload 3, .iconst 0, .laload, .iload 6, .i2l, .lcmp, .ifCond .eq 4, .iconst 0, .ireturn] := rfl
theorem zb_299_4 : zB 299 4 = [.goto 106] := rfl
theorem zb_299_5 : zB 299 5 = [.aload 1, .aload 0, .iload 4, .iconst 1, .iadd, .iaload, .aload 0, .iload 4, .iconst 2, .iadd, .iaload, .aload 0, .iload 4, .iconst 3, .iadd, .iaload, .aload 0, .iload 4, .iconst 4, .iadd, .iaload, .aload 0, .iload 4, .iconst 5, .iadd, .iaload, .aload 3, .invokeinterface 271 7, .istore 5, .aload 2, .aload 0, .iload 4, .iconst 1, .iadd, .iaload, .aload 0, .iload 4, .iconst 2, .iadd, .iaload, .aload 0, .iload 4, .iconst 3, .iadd, .iaload, .aload 0, .iload 4, .iconst 4, .iadd, .iaload, .aload 0, .iload 4, .iconst 5, .iadd, .iaload, .invokeinterface 194 6, .istore 6, .aload 2, .invokeinterface 161 1, .iload 5, .if_icmp .eq 6, .iconst 0, .ireturn] := rfl
theorem zb_299_6 : zB 299 6 = [.iload 5, .ifCond .ne 7, .aload 3, .iconst 0, .laload, .iload 6, .i2l, .lcmp, .ifCond .eq 7, .iconst 0, .ireturn] := rfl
theorem zb_299_7 : zB 299 7 = [.goto 106] := rfl
theorem zb_299_8 : zB 299 8 = [.aload 1, .aload 0, .iload 4, .iconst 1, .iadd, .iaload, .aload 3, .invokeinterface 272 3, .istore 5, .aload 2, .aload 0, .iload 4, .iconst 1, .iadd, .iaload, .invokeinterface 196 2, .istore 6, .aload 2, .invokeinterface 161 1, .iload 5, .if_icmp .eq 9, .iconst 0, .ireturn] := rfl
theorem zb_299_9 : zB 299 9 = [.iload 5, .ifCond .ne 10, .aload 3, .iconst 0, .laload, .iload 6, .i2l, .lcmp, .ifCond .eq 10, .iconst 0, .ireturn] := rfl
theorem zb_299_10 : zB 299 10 = [.goto 106] := rfl
theorem zb_299_11 : zB 299 11 = [.aload 1, .aload 0, .iload 4, .iconst 1, .iadd, .iaload, .aload 0, .iload 4, .iconst 2, .iadd, .iaload, .aload 0, .iload 4, .iconst 3, .iadd, .iaload, .aload 3, .invokeinterface 273 5, .istore 5, .aload 2, .aload 0, .iload 4, .iconst 1, .iadd, .iaload, .aload 0, .iload 4, .iconst 2, .iadd, .iaload, .aload 0, .iload 4, .iconst 3, .iadd, .iaload, .invokeinterface 197 4, .istore 6, .aload 2, .invokeinterface 161 1, .iload 5, .if_icmp .eq 12, .iconst 0, .ireturn] := rfl
theorem zb_299_12 : zB 299 12 = [.iload 5, .ifCond .ne 13, .aload 3, .iconst 0, .laload, .iload 6, .i2l, .lcmp, .ifCond .eq 13, .iconst 0, .ireturn] := rfl
theorem zb_299_13 : zB 299 13 = [.goto 106] := rfl
theorem zb_299_14 : zB 299 14 = [.aload 1, .aload 0, .iload 4, .iconst 1, .iadd, .iaload, .aload 0, .iload 4, .iconst 2, .iadd, .iaload, .aload 3, .invokeinterface 274 4, .istore 5, .aload 2, .aload 0, .iload 4, .iconst 1, .iadd, .iaload, .aload 0, .iload 4, .iconst 2, .iadd, .iaload, .invokeinterface 198 3, .istore 6, .aload 2, .invokeinterface 161 1, .iload 5, .if_icmp .eq 15, .iconst 0, .ireturn] := rfl
theorem zb_299_15 : zB 299 15 = [.iload 5, .ifCond .ne 16, .aload 3, .iconst 0, .laload, .iload 6, .i2l, .lcmp, .ifCond .eq 16, .iconst 0, .ireturn] := rfl
theorem zb_299_16 : zB 299 16 = [.goto 106] := rfl
theorem zb_299_17 : zB 299 17 = [.aload 1, .invokeinterface 121 1, .aload 2, .invokeinterface 199 1, .if_icmp .eq 106, .iconst 0, .ireturn] := rfl
theorem zb_299_18 : zB 299 18 = [.aload 1, .invokeinterface 122 1, .aload 2, .invokeinterface 200 1, .if_icmp .eq 106, .iconst 0, .ireturn] := rfl
theorem zb_299_19 : zB 299 19 = [.aload 1, .aload 0, .iload 4, .iconst 1, .iadd, .iaload, .aload 0, .iload 4, .iconst 2, .iadd, .iaload, .aload 3, .invokeinterface 275 4, .istore 5, .aload 2, .aload 0, .iload 4, .iconst 1, .iadd, .iaload, .aload 0, .iload 4, .iconst 2, .iadd, .iaload, .invokeinterface 202 3, .istore 6, .aload 2, .invokeinterface 161 1, .iload 5, .if_icmp .eq 20, .iconst 0, .ireturn] := rfl
theorem zb_299_20 : zB 299 20 = [.iload 5, .ifCond .ne 21, .aload 3, .iconst 0, .laload, .iload 6, .i2l, .lcmp, .ifCond .eq 21, .iconst 0, .ireturn] := rfl
theorem zb_299_21 : zB 299 21 = [.goto 106] := rfl
theorem zb_299_22 : zB 299 22 = [.aload 1, .aload 0, .iload 4, .iconst 1, .iadd, .iaload, .aload 0, .iload 4, .iconst 2, .iadd, .iaload, .aload 3, .invokeinterface 276 4, .istore 5, .aload 2, .aload 0, .iload 4, .iconst 1, .iadd, .iaload, .aload 0, .iload 4, .iconst 2, .iadd, .iaload, .invokeinterface 204 3, .istore 6, .aload 2, .invokeinterface 161 1, .iload 5, .if_icmp .eq 23, .iconst 0, .ireturn] := rfl
theorem zb_299_23 : zB 299 23 = [.iload 5, .ifCond .ne 24, .aload 3, .iconst 0, .laload, .iload 6, .i2l, .lcmp, .ifCond .eq 24, .iconst 0, .ireturn] := rfl
theorem zb_299_24 : zB 299 24 = [.goto 106] := rfl
theorem zb_299_25 : zB 299 25 = [.aload 1, .aload 0, .iload 4, .iconst 1, .iadd, .iaload, .aload 0, .iload 4, .iconst 2, .iadd, .iaload, .aload 3, .invokeinterface 277 4, .istore 5, .aload 2, .aload 0, .iload 4, .iconst 1, .iadd, .iaload, .aload 0, .iload 4, .iconst 2, .iadd, .iaload, .invokeinterface 205 3, .istore 6, .aload 2, .invokeinterface 161 1, .iload 5, .if_icmp .eq 26, .iconst 0, .ireturn] := rfl
theorem zb_299_26 : zB 299 26 = [.iload 5, .ifCond .ne 29, .aload 3, .iconst 0, .laload, .iload 6, .ifCond .eq 27, .jsr_w 1, .goto 28] := rfl
theorem zb_299_27 : zB 299 27 = [.jsr_w 0, .goto_w 28] := rfl
theorem zb_299_28 : zB 299 28 = [.lcmp, .ifCond .eq 29, .iconst 0, .ireturn] := rfl
theorem zb_299_29 : zB 299 29 = [.goto 106] := rfl
theorem zb_299_30 : zB 299 30 = [.aload 1, .aload 0, .iload 4, .iconst 1, .iadd, .iaload, .invokeinterface 126 2, .aload 2, .aload 0, .iload 4, .iconst 1, .iadd, .iaload, .invokeinterface 206 2, .if_icmp .eq 106, .iconst 0, .ireturn] := rfl
theorem zb_299_31 : zB 299 31 = [.aload 1, .aload 0, .iload 4, .iconst 1, .iadd, .iaload, .aload 3, .invokeinterface 278 3, .istore 5, .aload 2, .aload 0, .iload 4, .iconst 1, .iadd, .iaload, .invokeinterface 208 2, .istore 6, .aload 2, .invokeinterface 161 1, .iload 5, .if_icmp .eq 32, .iconst 0, .ireturn] := rfl
theorem zb_299_32 : zB 299 32 = [.iload 5, .ifCond .ne 33, .aload 3, .iconst 0, .laload, .iload 6, .i2l, .lcmp, .ifCond .eq 33, .iconst 0, .ireturn] := rfl
theorem zb_299_33 : zB 299 33 = [.goto 106] := rfl
theorem zb_299_34 : zB 299 34 = [.aload 1, .aload 0, .iload 4, .iconst 1, .iadd, .iaload, .aload 0, .iload 4, .iconst 2, .iadd, .iaload, .aload 3, .invokeinterface 279 4, .istore 5, .aload 2, .aload 0, .iload 4, .iconst 1, .iadd, .iaload, .aload 0, .iload 4, .iconst 2, .iadd, .iaload, .invokeinterface 218 3, .istore 6, .aload 2, .invokeinterface 161 1, .iload 5, .if_icmp .eq 35, .iconst 0, .ireturn] := rfl
theorem zb_299_35 : zB 299 35 = [.iload 5, .ifCond .ne 38, .aload 3, .iconst 0, .laload, .iload 6, .ifCond .eq 36, .jsr_w 1, .goto 37] := rfl
theorem zb_299_36 : zB 299 36 = [.jsr_w 0, .goto_w 37] := rfl
theorem zb_299_37 : zB 299 37 = [.lcmp, .ifCond .eq 38, .iconst 0, .ireturn] := rfl
theorem zb_299_38 : zB 299 38 = [.goto 106] := rfl
theorem zb_299_39 : zB 299 39 = [.aload 1, .aload 0, .iload 4, .iconst 1, .iadd, .iaload, .aload 3, .invokeinterface 280 3, .istore 5, .aload 2, .aload 0, .iload 4, .iconst 1, .iadd, .iaload, .invokeinterface 219 2, .istore 6, .aload 2, .invokeinterface 161 1, .iload 5, .if_icmp .eq 40, .iconst 0, .ireturn] := rfl
theorem zb_299_40 : zB 299 40 = [.iload 5, .ifCond .ne 41, .aload 3, .iconst 0, .laload, .iload 6, .i2l, .lcmp, .ifCond .eq 41, .iconst 0, .ireturn] := rfl
theorem zb_299_41 : zB 299 41 = [.goto 106] := rfl
theorem zb_299_42 : zB 299 42 = [.aload 1, .aload 0, .iload 4, .iconst 1, .iadd, .iaload, .aload 0, .iload 4, .iconst 2, .iadd, .iaload, .aload 3, .invokeinterface 281 4, .istore 5, .aload 2, .aload 0, .iload 4, .iconst 1, .iadd, .iaload, .aload 0, .iload 4, .iconst 2, .iadd, .iaload, .invokeinterface 220 3, .istore 6, .aload 2, .invokeinterface 161 1, .iload 5, .if_icmp .eq 43, .iconst 0, .ireturn] := rfl
theorem zb_299_43 : zB 299 43 = [.iload 5, .ifCond .ne 44, .aload 3, .iconst 0, .laload, .iload 6, .i2l, .lcmp, .ifCond .eq 44, .iconst 0, .ireturn] := rfl
theorem zb_299_44 : zB 299 44 = [.goto 106] := rfl
theorem zb_299_45 : zB 299 45 = [.aload 1, .aload 0, .iload 4, .iconst 1, .iadd, .iaload, .aload 0, .iload 4, .iconst 2, .iadd, .iaload, .aload 3, .invokeinterface 282 4, .istore 5, .aload 2, .aload 0, .iload 4, .iconst 1, .iadd, .iaload, .aload 0, .iload 4, .iconst 2, .iadd, .iaload, .invokeinterface 221 3, .istore 6, .aload 2, .invokeinterface 161 1, .iload 5, .if_icmp .eq 46, .iconst 0, .ireturn] := rfl
theorem zb_299_46 : zB 299 46 = [.iload 5, .ifCond .ne 47, .aload 3, .iconst 0, .laload, .iload 6, .i2l, .lcmp, .ifCond .eq 47, .iconst 0, .ireturn] := rfl
theorem zb_299_47 : zB 299 47 = [.goto 106] := rfl
theorem zb_299_48 : zB 299 48 = [.aload 1, .aload 0, .iload 4, .iconst 1, .iadd, .iaload, .aload 3, .invokeinterface 283 3, .istore 5, .aload 2, .aload 0, .iload 4, .iconst 1, .iadd, .iaload, .invokeinterface 222 2, .istore 6, .aload 2, .invokeinterface 161 1, .iload 5, .if_icmp .eq 49, .iconst 0, .ireturn] := rfl
theorem zb_299_49 : zB 299 49 = [.iload 5, .ifCond .ne 50, .aload 3, .iconst 0, .laload, .iload 6, .i2l, .lcmp, .ifCond .eq 50, .iconst 0, .ireturn] := rfl
theorem zb_299_50 : zB 299 50 = [.goto 106] := rfl
theorem zb_299_51 : zB 299 51 = [.aload 1, .aload 0, .iload 4, .iconst 1, .iadd, .iaload, .aload 3, .invokeinterface 284 3, .istore 5, .aload 2, .aload 0, .iload 4, .iconst 1, .iadd, .iaload, .invokeinterface 225 2, .istore 6, .aload 2, .invokeinterface 161 1, .iload 5, .if_icmp .eq 52, .iconst 0, .ireturn] := rfl
theorem zb_299_52 : zB 299 52 = [.iload 5, .ifCond .ne 53, .aload 3, .iconst 0, .laload, .iload 6, .i2l, .lcmp, .ifCond .eq 53, .iconst 0, .ireturn] := rfl
theorem zb_299_53 : zB 299 53 = [.goto 106] := rfl
theorem zb_299_54 : zB 299 54 = [.aload 1, .invokeinterface 134 1, .aload 2, .invokeinterface 227 1, .if_icmp .eq 106, .iconst 0, .ireturn] := rfl
theorem zb_299_55 : zB 299 55 = [.aload 1, .invokeinterface 135 1, .aload 2, .invokeinterface 228 1, .if_icmp .eq 106, .iconst 0, .ireturn] := rfl
theorem zb_299_56 : zB 299 56 = [.aload 1, .aload 0, .iload 4, .iconst 1, .iadd, .iaload, .aload 3, .invokeinterface 285 3, .istore 5, .aload 2, .aload 0, .iload 4, .iconst 1, .iadd, .iaload, .invokeinterface 232 2, .istore 6, .aload 2, .invokeinterface 161 1, .iload 5, .if_icmp .eq 57, .iconst 0, .ireturn] := rfl
theorem zb_299_57 : zB 299 57 = [.iload 5, .ifCond .ne 58, .aload 3, .iconst 0, .laload, .iload 6, .i2l, .lcmp, .ifCond .eq 58, .iconst 0, .ireturn] := rfl
theorem zb_299_58 : zB 299 58 = [.goto 106] := rfl
theorem zb_299_59 : zB 299 59 = [.aload 1, .aload 0, .iload 4, .iconst 1, .iadd, .iaload, .aload 3, .invokeinterface 286 3, .istore 5, .aload 2, .aload 0, .iload 4, .iconst 1, .iadd, .iaload, .invokeinterface 233 2, .istore 6, .aload 2, .invokeinterface 161 1, .iload 5, .if_icmp .eq 60, .iconst 0, .ireturn] := rfl
theorem zb_299_60 : zB 299 60 = [.iload 5, .ifCond .ne 61, .aload 3, .iconst 0, .laload, .iload 6, .i2l, .lcmp, .ifCond .eq 61, .iconst 0, .ireturn] := rfl
theorem zb_299_61 : zB 299 61 = [.goto 106] := rfl
theorem zb_299_62 : zB 299 62 = [.aload 1, .aload 0, .iload 4, .iconst 1, .iadd, .iaload, .aload 3, .invokeinterface 287 3, .istore 5, .aload 2, .aload 0, .iload 4, .iconst 1, .iadd, .iaload, .invokeinterface 234 2, .istore 6, .aload 2, .invokeinterface 161 1, .iload 5, .if_icmp .eq 63, .iconst 0, .ireturn] := rfl
theorem zb_299_63 : zB 299 63 = [.iload 5, .ifCond .ne 64, .aload 3, .iconst 0, .laload, .iload 6, .i2l, .lcmp, .ifCond .eq 64, .iconst 0, .ireturn] := rfl
theorem zb_299_64 : zB 299 64 = [.goto 106] := rfl
theorem zb_299_65 : zB 299 65 = [.aload 1, .invokeinterface 139 1, .aload 2, .invokeinterface 235 1, .if_icmp .eq 106, .iconst 0, .ireturn] := rfl
theorem zb_299_66 : zB 299 66 = [.aload 1, .aload 0, .iload 4, .iconst 1, .iadd, .iaload, .aload 3, .invokeinterface 288 3, .istore 5, .aload 2, .aload 0, .iload 4, .iconst 1, .iadd, .iaload, .invokeinterface 237 2, .istore 6, .aload 2, .invokeinterface 161 1, .iload 5, .if_icmp .eq 67, .iconst 0, .ireturn] := rfl
theorem zb_299_67 : zB 299 67 = [.iload 5, .ifCond .ne 68, .aload 3, .iconst 0, .laload, .iload 6, .i2l, .lcmp, .ifCond .eq 68, .iconst 0, .ireturn] := rfl
theorem zb_299_68 : zB 299 68 = [.goto 106] := rfl
theorem zb_299_69 : zB 299 69 = [.aload 1, .aload 0, .iload 4, .iconst 1, .iadd, .iaload, .aload 3, .invokeinterface 289 3, .istore 5, .aload 2, .aload 0, .iload 4, .iconst 1, .iadd, .iaload, .invokeinterface 238 2, .istore 6, .aload 2, .invokeinterface 161 1, .iload 5, .if_icmp .eq 70, .iconst 0, .ireturn] := rfl
theorem zb_299_70 : zB 299 70 = [.iload 5, .ifCond .ne 71, .aload 3, .iconst 0, .laload, .iload 6, .i2l, .lcmp, .ifCond .eq 71, .iconst 0, .ireturn] := rfl
theorem zb_299_71 : zB 299 71 = [.goto 106] := rfl
theorem zb_299_72 : zB 299 72 = [.aload 1, .aload 0, .iload 4, .iconst 1, .iadd, .iaload, .aload 3, .invokeinterface 290 3, .istore 5, .aload 2, .aload 0, .iload 4, .iconst 1, .iadd, .iaload, .invokeinterface 241 2, .istore 6, .aload 2, .invokeinterface 161 1, .iload 5, .if_icmp .eq 73, .iconst 0, .ireturn] := rfl
theorem zb_299_73 : zB 299 73 = [.iload 5, .ifCond .ne 74, .aload 3, .iconst 0, .laload, .iload 6, .i2l, .lcmp, .ifCond .eq 74, .iconst 0, .ireturn] := rfl
theorem zb_299_74 : zB 299 74 = [.goto 106] := rfl
theorem zb_299_75 : zB 299 75 = [.aload 1, .aload 0, .iload 4, .iconst 1, .iadd, .iaload, .aload 0, .iload 4, .iconst 2, .iadd, .iaload, .aload 3, .invokeinterface 291 4, .istore 5, .aload 2, .aload 0, .iload 4, .iconst 1, .iadd, .iaload, .aload 0, .iload 4, .iconst 2, .iadd, .iaload, .invokeinterface 242 3, .istore 6, .aload 2, .invokeinterface 161 1, .iload 5, .if_icmp .eq 76, .iconst 0, .ireturn] := rfl
theorem zb_299_76 : zB 299 76 = [.iload 5, .ifCond .ne 77, .aload 3, .iconst 0, .laload, .iload 6, .i2l, .lcmp, .ifCond .eq 77, .iconst 0, .ireturn] := rfl
theorem zb_299_77 : zB 299 77 = [.goto 106] := rfl
theorem zb_299_78 : zB 299 78 = [.aload 1, .invokeinterface 144 1, .aload 2, .invokeinterface 246 1, .if_icmp .eq 106, .iconst 0, .ireturn] := rfl
theorem zb_299_79 : zB 299 79 = [.aload 1, .aload 0, .iload 4, .iconst 1, .iadd, .iaload, .invokeinterface 145 2, .aload 2, .aload 0, .iload 4, .iconst 1, .iadd, .iaload, .invokeinterface 247 2, .if_icmp .eq 106, .iconst 0, .ireturn] := rfl
theorem zb_299_80 : zB 299 80 = [.aload 1, .aload 0, .iload 4, .iconst 1, .iadd, .iaload, .aload 0, .iload 4, .iconst 2, .iadd, .iaload, .aload 3, .invokeinterface 292 4, .istore 5, .aload 2, .aload 0, .iload 4, .iconst 1, .iadd, .iaload, .aload 0, .iload 4, .iconst 2, .iadd, .iaload, .invokeinterface 249 3, .istore 6, .aload 2, .invokeinterface 161 1, .iload 5, .if_icmp .eq 81, .iconst 0, .ireturn] := rfl
theorem zb_299_81 : zB 299 81 = [.iload 5, .ifCond .ne 84, .aload 3, .iconst 0, .laload, .iload 6, .ifCond .eq 82, .jsr_w 1, .goto 83] := rfl
theorem zb_299_82 : zB 299 82 = [.jsr_w 0, .goto_w 83] := rfl
theorem zb_299_83 : zB 299 83 = [.lcmp, .ifCond .eq 84, .iconst 0, .ireturn] := rfl
theorem zb_299_84 : zB 299 84 = [.goto 106] := rfl
theorem zb_299_85 : zB 299 85 = [.aload 1, .aload 0, .iload 4, .iconst 1, .iadd, .iaload, .aload 0, .iload 4, .iconst 2, .iadd, .iaload, .aload 3, .invokeinterface 293 4, .istore 5, .aload 2, .aload 0, .iload 4, .iconst 1, .iadd, .iaload, .aload 0, .iload 4, .iconst 2, .iadd, .iaload, .invokeinterface 254 3, .istore 6, .aload 2, .invokeinterface 161 1, .iload 5, .if_icmp .eq 86, .iconst 0, .ireturn] := rfl
theorem zb_299_86 : zB 299 86 = [.iload 5, .ifCond .ne 87, .aload 3, .iconst 0, .laload, .iload 6, .i2l, .lcmp, .ifCond .eq 87, .iconst 0, .ireturn] := rfl
theorem zb_299_87 : zB 299 87 = [.goto 106] := rfl
theorem zb_299_88 : zB 299 88 = [.aload 1, .aload 0, .iload 4, .iconst 1, .iadd, .iaload, .aload 0, .iload 4, .iconst 2, .iadd, .iaload, .aload 0, .iload 4, .iconst 3, .iadd, .iaload, .aload 3, .invokeinterface 294 5, .istore 5, .aload 2, .aload 0, .iload 4, .iconst 1, .iadd, .iaload, .aload 0, .iload 4, .iconst 2, .iadd, .iaload, .aload 0, .iload 4, .iconst 3, .iadd, .iaload, .invokeinterface 255 4, .istore 6, .aload 2, .invokeinterface 161 1, .iload 5, .if_icmp .eq 89, .iconst 0, .ireturn] := rfl
theorem zb_299_89 : zB 299 89 = [.iload 5, .ifCond .ne 90, .aload 3, .iconst 0, .laload, .iload 6, .i2l, .lcmp, .ifCond .eq 90, .iconst 0, .ireturn] := rfl
theorem zb_299_90 : zB 299 90 = [.goto 106] := rfl
theorem zb_299_91 : zB 299 91 = [.aload 1, .aload 0, .iload 4, .iconst 1, .iadd, .iaload, .aload 3, .invokeinterface 295 3, .istore 5, .aload 2, .aload 0, .iload 4, .iconst 1, .iadd, .iaload, .invokeinterface 257 2, .istore 6, .aload 2, .invokeinterface 161 1, .iload 5, .if_icmp .eq 92, .iconst 0, .ireturn] := rfl
theorem zb_299_92 : zB 299 92 = [.iload 5, .ifCond .ne 93, .aload 3, .iconst 0, .laload, .iload 6, .i2l, .lcmp, .ifCond .eq 93, .iconst 0, .ireturn] := rfl
theorem zb_299_93 : zB 299 93 = [.goto 106] := rfl
theorem zb_299_94 : zB 299 94 = [.aload 1, .aload 0, .iload 4, .iconst 1, .iadd, .iaload, .aload 3, .invokeinterface 296 3, .istore 5, .aload 2, .aload 0, .iload 4, .iconst 1, .iadd, .iaload, .invokeinterface 258 2, .istore 6, .aload 2, .invokeinterface 161 1, .iload 5, .if_icmp .eq 95, .iconst 0, .ireturn] := rfl
theorem zb_299_95 : zB 299 95 = [.iload 5, .ifCond .ne 96, .aload 3, .iconst 0, .laload, .iload 6, .i2l, .lcmp, .ifCond .eq 96, .iconst 0, .ireturn] := rfl
theorem zb_299_96 : zB 299 96 = [.goto 106] := rfl
theorem zb_299_97 : zB 299 97 = [.aload 1, .aload 0, .iload 4, .iconst 1, .iadd, .iaload, .aload 3, .invokeinterface 297 3, .istore 5, .aload 2, .aload 0, .iload 4, .iconst 1, .iadd, .iaload, .invokeinterface 259 2, .istore 6, .aload 2, .invokeinterface 161 1, .iload 5, .if_icmp .eq 98, .iconst 0, .ireturn] := rfl
theorem zb_299_98 : zB 299 98 = [.iload 5, .ifCond .ne 99, .aload 3, .iconst 0, .laload, .iload 6, .i2l, .lcmp, .ifCond .eq 99, .iconst 0, .ireturn] := rfl
theorem zb_299_99 : zB 299 99 = [.goto 106] := rfl
theorem zb_299_100 : zB 299 100 = [.aload 1, .invokeinterface 152 1, .aload 2, .invokeinterface 260 1, .if_icmp .eq 106, .iconst 0, .ireturn] := rfl
theorem zb_299_101 : zB 299 101 = [.aload 1, .invokeinterface 153 1, .aload 2, .invokeinterface 266 1, .if_icmp .eq 106, .iconst 0, .ireturn] := rfl
theorem zb_299_102 : zB 299 102 = [.aload 1, .aload 3, .invokeinterface 298 2, .istore 5, .aload 2, .invokeinterface 267 1, .istore 6, .aload 2, .invokeinterface 161 1, .iload 5, .if_icmp .eq 103, .iconst 0, .ireturn] := rfl
theorem zb_299_103 : zB 299 103 = [.iload 5, .ifCond .ne 104, .aload 3, .iconst 0, .laload, .iload 6, .i2l, .lcmp, .ifCond .eq 104, .iconst 0, .ireturn] := rfl
theorem zb_299_104 : zB 299 104 = [.goto 106] := rfl
theorem zb_299_105 : zB 299 105 = [.aload 1, .invokeinterface 155 1, .aload 2, .invokeinterface 269 1, .lcmp, .ifCond .eq 106, .iconst 0, .ireturn] := rfl
theorem zb_299_106 : zB 299 106 = [.iinc 4 6, .goto 1] := rfl
theorem zb_299_107 : zB 299 107 = [.iconst 1, .ireturn] := rfl
theorem zb_300_0 : zB 300 0 = [.iload 0, .iload 1, .if_icmp .lt 1, .iload 0, .goto 2] := rfl
theorem zb_300_1 : zB 300 1 = [.iload 1, .goto_w 2] := rfl
theorem zb_300_2 : zB 300 2 = [.ireturn] := rfl
theorem zb_301_0 : zB 301 0 = [.iload 0, .iload 1, .if_icmp .gt 1, .iload 0, .goto 2] := rfl
theorem zb_301_1 : zB 301 1 = [.iload 1, .goto_w 2] := rfl
theorem zb_301_2 : zB 301 2 = [.ireturn] := rfl
theorem zb_302_0 : zB 302 0 = [.iload 0, .iload 0, .iconst 1, .iushr, .iconst 1431655765, .iand, .isub, .istore 0, .iload 0, .iconst 858993459, .iand, .iload 0, .iconst 2, .iushr, .iconst 858993459, .iand, .iadd, .istore 0, .iload 0, .iload 0, .iconst 4, .iushr, .iadd, .iconst 252645135, .iand, .istore 0, .iload 0, .iload 0, .iconst 8, .iushr, .iadd, .istore 0, .iload 0, .iload 0, .iconst 16, .iushr, .iadd, .istore 0, .iload 0, .iconst 63, .iand, .ireturn] := rfl
theorem zb_303_0 : zB 303 0 = [.fload 0, .invokeinterface 304 1, .ifCond .ne 1, .fload 0, .f2i, .ireturn] := rfl
theorem zb_303_1 : zB 303 1 = [.iconst 2143289344, .ireturn] := rfl
theorem zb_304_0 : zB 304 0 = [.fload 0, .fload 0, .fcmp .l, .ifCond .eq 1, .iconst 1, .goto 2] := rfl
theorem zb_304_1 : zB 304 1 = [.iconst 0, .goto_w 2] := rfl
theorem zb_304_2 : zB 304 2 = [.ireturn] := rfl
theorem zb_305_0 : zB 305 0 = [.aload 1, .iload 2, .invokeinterface 91 2, .ifCond .ne 1, .aload 0, .iload 2, .iconst 1, .iload 3, .iload 4, .invokevirtual 1, .iconst 0, .invokeinterface 59 1, .ireturn] := rfl
theorem zb_305_1 : zB 305 1 = [.aload 1, .iload 2, .invokeinterface 81 2, .istore 6, .iload 6, .iload 4, .if_icmp .le 2, .aload 0, .iload 2, .iconst 2, .iload 3, .iload 4, .iadd, .iload 4, .invokevirtual 1, .iload 4, .invokeinterface 59 1, .ireturn] := rfl
theorem zb_305_2 : zB 305 2 = [.iconst 0, .istore 7, .goto_w 3] := rfl
theorem zb_305_3 : zB 305 3 = [.iload 7, .aload 1, .getfield 449, .if_icmp .ge 7, .aload 1, .iload 7, .iload 2, .invokeinterface 84 3, .ifCond .ne 4, .goto 6] := rfl
theorem zb_305_4 : zB 305 4 = [.aload 0, .aload 1, .iload 7, .iload 3, .iload 4, .iload 6, .iload 5, .invokeinterface 63 7, .istore 8, .iload 8, .invokeinterface 61 1, .istore 6, .iload 8, .invokeinterface 60 1, .ifCond .ne 5, .aload 1, .iload 7, .invokeinterface 86 2, .ifCond .eq 5, .aload 0, .iload 2, .iconst 4, .iload 3, .iload 6, .iadd, .iload 4, .invokevirtual 1, .iload 6, .invokeinterface 59 1, .ireturn] := rfl
theorem zb_305_5 : zB 305 5 = [.iload 8, .invokeinterface 60 1, .ifCond .ne 6, .aload 0, .invokevirtual 2, .goto_w 6] := rfl
theorem zb_305_6 : zB 305 6 = [.iinc 7 1, .goto 3] := rfl
theorem zb_305_7 : zB 305 7 = [.iload 6, .invokeinterface 58 1, .ireturn] := rfl
theorem zb_306_0 : zB 306 0 = [.aload 1, .iload 2, .invokeinterface 91 2, .ifCond .ne 1, .aload 0, .iload 2, .iconst 1, .iload 3, .iload 4, .invokevirtual 1, .iconst 0, .invokeinterface 59 1, .ireturn] := rfl
theorem zb_306_1 : zB 306 1 = [.aload 1, .iload 2, .invokeinterface 81 2, .istore 6, .iload 6, .iload 4, .if_icmp .le 2, .aload 0, .iload 2, .iconst 2, .iload 3, .iload 4, .iadd, .iload 4, .invokevirtual 1, .iload 4, .invokeinterface 59 1, .ireturn] := rfl
theorem zb_306_2 : zB 306 2 = [.iconst 0, .istore 7, .goto_w 3] := rfl
theorem zb_306_3 : zB 306 3 = [.iload 7, .aload 1, .getfield 449, .if_icmp .ge 7, .aload 1, .iload 7, .iload 2, .invokeinterface 84 3, .ifCond .ne 4, .goto 6] := rfl
theorem zb_306_4 : zB 306 4 = [.aload 0, .aload 1, .iload 7, .iload 3, .iload 4, .iload 6, .iload 5, .invokeinterface 63 7, .istore 8, .iload 8, .invokeinterface 61 1, .istore 6, .iload 8, .invokeinterface 60 1, .ifCond .ne 5, .aload 1, .iload 7, .invokeinterface 86 2, .ifCond .eq 5, .aload 0, .iload 2, .iconst 4, .iload 3, .iload 6, .iadd, .iload 4, .invokevirtual 1, .iload 6, .invokeinterface 59 1, .ireturn] := rfl
theorem zb_306_5 : zB 306 5 = [.iload 8, .invokeinterface 60 1, .ifCond .ne 6, .aload 0, .invokevirtual 2, .goto_w 6] := rfl
theorem zb_306_6 : zB 306 6 = [.iinc 7 1, .goto 3] := rfl
theorem zb_306_7 : zB 306 7 = [.iload 6, .invokeinterface 58 1, .ireturn] := rfl
theorem zc_0 {d a : Nat} {s : zS} {V : zV} {Q : zO → zH → Prop}  : zcall (d + 1) 0 [.ref a] (s, V) Q = zwp (zcall d) 0 Q (zB 0 0) [.ref a] [] (s, V) := zcall_in (by decide) rfl (zRc_8 rfl rfl)
theorem zc_1 {d a : Nat} {a1 a2 : Value} {s : zS} {V : zV} {Q : zO → zH → Prop} (ht : s.tg a = 0) : zcall (d + 1) 1 [.ref a, a1, a2] (s, V) Q = zwp (zcall d) 1 Q (zB 1 0) [.ref a, a1, a2, zJ, zJ] [] (s, V) := zcall_in (by decide) rfl (zRc_t rfl rfl ht (by decide) (by decide))
theorem zc_2 {d a : Nat} {a1 a2 a3 : Value} {s : zS} {V : zV} {Q : zO → zH → Prop} (ht : s.tg a = 0) : zcall (d + 1) 2 [.ref a, a1, a2, a3] (s, V) Q = zwp (zcall d) 2 Q (zB 2 0) [.ref a, a1, a2, a3, zJ] [] (s, V) := zcall_in (by decide) rfl (zRc_t rfl rfl ht (by decide) (by decide))
theorem zc_3 {d a : Nat} {a1 a2 a3 a4 a5 : Value} {s : zS} {V : zV} {Q : zO → zH → Prop} (ht : s.tg a = 0) : zcall (d + 1) 3 [.ref a, a1, a2, a3, a4, a5] (s, V) Q = zwp (zcall d) 3 Q (zB 3 0) [.ref a, a1, a2, a3, a4, a5] [] (s, V) := zcall_in (by decide) rfl (zRc_t rfl rfl ht (by decide) (by decide))
theorem zc_4 {d a : Nat} {a1 a2 a3 a4 : Value} {s : zS} {V : zV} {Q : zO → zH → Prop} (ht : s.tg a = 0) : zcall (d + 1) 4 [.ref a, a1, a2, a3, a4] (s, V) Q = zwp (zcall d) 4 Q (zB 4 0) [.ref a, a1, a2, a3, a4] [] (s, V) := zcall_in (by decide) rfl (zRc_t rfl rfl ht (by decide) (by decide))
theorem zc_5 {d a : Nat} {s : zS} {V : zV} {Q : zO → zH → Prop} (ht : s.tg a = 0) : zcall (d + 1) 5 [.ref a] (s, V) Q = zwp (zcall d) 5 Q (zB 5 0) [.ref a] [] (s, V) := zcall_in (by decide) rfl (zRc_t rfl rfl ht (by decide) (by decide))
theorem zc_6 {d a : Nat} {s : zS} {V : zV} {Q : zO → zH → Prop}  : zcall (d + 1) 6 [.ref a] (s, V) Q = zwp (zcall d) 6 Q (zB 6 0) [.ref a] [] (s, V) := zcall_in (by decide) rfl (zRc_8 rfl rfl)
theorem zc_7 {d a : Nat} {a1 a2 : Value} {s : zS} {V : zV} {Q : zO → zH → Prop} (ht : s.tg a = 1) : zcall (d + 1) 7 [.ref a, a1, a2] (s, V) Q = zwp (zcall d) 7 Q (zB 7 0) [.ref a, a1, a2, zJ, zJ, zJ, zJ] [] (s, V) := zcall_in (by decide) rfl (zRc_t rfl rfl ht (by decide) (by decide))
theorem zc_8 {d : Nat} {a0 a1 : Value} {h : zH} {Q : zO → zH → Prop} : zcall (d + 1) 8 [a0, a1] h Q = zwp (zcall d) 8 Q (zB 8 0) [a0, a1] [] h := zcall_in (by decide) rfl (zRc_9 rfl rfl (by decide))
theorem zc_9 {d a : Nat} {a1 a2 a3 : Value} {s : zS} {V : zV} {Q : zO → zH → Prop} (ht : s.tg a = 1) : zcall (d + 1) 9 [.ref a, a1, a2, a3] (s, V) Q = zwp (zcall d) 9 Q (zB 9 0) [.ref a, a1, a2, a3, zJ, zJ, zJ] [] (s, V) := zcall_in (by decide) rfl (zRc_t rfl rfl ht (by decide) (by decide))
theorem zc_10 {d a : Nat} {a1 a2 : Value} {s : zS} {V : zV} {Q : zO → zH → Prop} (ht : s.tg a = 1) : zcall (d + 1) 10 [.ref a, a1, a2] (s, V) Q = zwp (zcall d) 10 Q (zB 10 0) [.ref a, a1, a2] [] (s, V) := zcall_in (by decide) rfl (zRc_t rfl rfl ht (by decide) (by decide))
theorem zc_11 {d a : Nat} {a1 a2 a3 : Value} {s : zS} {V : zV} {Q : zO → zH → Prop} (ht : s.tg a = 1) : zcall (d + 1) 11 [.ref a, a1, a2, a3] (s, V) Q = zwp (zcall d) 11 Q (zB 11 0) [.ref a, a1, a2, a3, zJ] [] (s, V) := zcall_in (by decide) rfl (zRc_t rfl rfl ht (by decide) (by decide))
theorem zc_12 {d a : Nat} {a1 a2 a3 : Value} {s : zS} {V : zV} {Q : zO → zH → Prop} (ht : s.tg a = 1) : zcall (d + 1) 12 [.ref a, a1, a2, a3] (s, V) Q = zwp (zcall d) 12 Q (zB 12 0) [.ref a, a1, a2, a3, zJ, zJ] [] (s, V) := zcall_in (by decide) rfl (zRc_t rfl rfl ht (by decide) (by decide))
theorem zc_13 {d a : Nat} {a1 a2 a3 a4 : Value} {s : zS} {V : zV} {Q : zO → zH → Prop} (ht : s.tg a = 1) : zcall (d + 1) 13 [.ref a, a1, a2, a3, a4] (s, V) Q = zwp (zcall d) 13 Q (zB 13 0) [.ref a, a1, a2, a3, a4, zJ, zJ] [] (s, V) := zcall_in (by decide) rfl (zRc_t rfl rfl ht (by decide) (by decide))
theorem zc_14 {d a : Nat} {a1 a2 a3 : Value} {s : zS} {V : zV} {Q : zO → zH → Prop} (ht : s.tg a = 1) : zcall (d + 1) 14 [.ref a, a1, a2, a3] (s, V) Q = zwp (zcall d) 14 Q (zB 14 0) [.ref a, a1, a2, a3, zJ, zJ, zJ] [] (s, V) := zcall_in (by decide) rfl (zRc_t rfl rfl ht (by decide) (by decide))
theorem zc_15 {d a : Nat} {a1 a2 : Value} {s : zS} {V : zV} {Q : zO → zH → Prop} (ht : s.tg a = 1) : zcall (d + 1) 15 [.ref a, a1, a2] (s, V) Q = zwp (zcall d) 15 Q (zB 15 0) [.ref a, a1, a2, zJ, zJ, zJ, zJ, zJ, zJ, zJ, zJ] [] (s, V) := zcall_in (by decide) rfl (zRc_t rfl rfl ht (by decide) (by decide))
theorem zc_16 {d a : Nat} {a1 a2 : Value} {s : zS} {V : zV} {Q : zO → zH → Prop} (ht : s.tg a = 1) : zcall (d + 1) 16 [.ref a, a1, a2] (s, V) Q = zwp (zcall d) 16 Q (zB 16 0) [.ref a, a1, a2, zJ, zJ, zJ, zJ, zJ, zJ] [] (s, V) := zcall_in (by decide) rfl (zRc_t rfl rfl ht (by decide) (by decide))
theorem zc_17 {d a : Nat} {s : zS} {V : zV} {Q : zO → zH → Prop}  : zcall (d + 1) 17 [.ref a] (s, V) Q = zwp (zcall d) 17 Q (zB 17 0) [.ref a] [] (s, V) := zcall_in (by decide) rfl (zRc_8 rfl rfl)
theorem zc_18 {d a : Nat} {a1 : Value} {s : zS} {V : zV} {Q : zO → zH → Prop} (ht : s.tg a = 2) : zcall (d + 1) 18 [.ref a, a1] (s, V) Q = zwp (zcall d) 18 Q (zB 18 0) [.ref a, a1, zJ, zJ, zJ] [] (s, V) := zcall_in (by decide) rfl (zRc_t rfl rfl ht (by decide) (by decide))
theorem zc_19 {d a : Nat} {a1 : Value} {s : zS} {V : zV} {Q : zO → zH → Prop} (ht : s.tg a = 2) : zcall (d + 1) 19 [.ref a, a1] (s, V) Q = zwp (zcall d) 19 Q (zB 19 0) [.ref a, a1, zJ] [] (s, V) := zcall_in (by decide) rfl (zRc_t rfl rfl ht (by decide) (by decide))
theorem zc_20 {d a : Nat} {a1 a2 : Value} {s : zS} {V : zV} {Q : zO → zH → Prop} (ht : s.tg a = 2) : zcall (d + 1) 20 [.ref a, a1, a2] (s, V) Q = zwp (zcall d) 20 Q (zB 20 0) [.ref a, a1, a2, zJ] [] (s, V) := zcall_in (by decide) rfl (zRc_t rfl rfl ht (by decide) (by decide))
theorem zc_21 {d a : Nat} {a1 : Value} {s : zS} {V : zV} {Q : zO → zH → Prop} (ht : s.tg a = 2) : zcall (d + 1) 21 [.ref a, a1] (s, V) Q = zwp (zcall d) 21 Q (zB 21 0) [.ref a, a1] [] (s, V) := zcall_in (by decide) rfl (zRc_t rfl rfl ht (by decide) (by decide))
theorem zc_22 {d a : Nat} {s : zS} {V : zV} {Q : zO → zH → Prop} (ht : s.tg a = 2) : zcall (d + 1) 22 [.ref a] (s, V) Q = zwp (zcall d) 22 Q (zB 22 0) [.ref a] [] (s, V) := zcall_in (by decide) rfl (zRc_t rfl rfl ht (by decide) (by decide))
theorem zc_23 {d a : Nat} {a1 : Value} {s : zS} {V : zV} {Q : zO → zH → Prop} (ht : s.tg a = 2) : zcall (d + 1) 23 [.ref a, a1] (s, V) Q = zwp (zcall d) 23 Q (zB 23 0) [.ref a, a1, zJ] [] (s, V) := zcall_in (by decide) rfl (zRc_t rfl rfl ht (by decide) (by decide))
theorem zc_24 {d a : Nat} {a1 a2 : Value} {s : zS} {V : zV} {Q : zO → zH → Prop} (ht : s.tg a = 2) : zcall (d + 1) 24 [.ref a, a1, a2] (s, V) Q = zwp (zcall d) 24 Q (zB 24 0) [.ref a, a1, a2, zJ, zJ] [] (s, V) := zcall_in (by decide) rfl (zRc_t rfl rfl ht (by decide) (by decide))
theorem zc_25 {d a : Nat} {a1 : Value} {s : zS} {V : zV} {Q : zO → zH → Prop} (ht : s.tg a = 2) : zcall (d + 1) 25 [.ref a, a1] (s, V) Q = zwp (zcall d) 25 Q (zB 25 0) [.ref a, a1, zJ] [] (s, V) := zcall_in (by decide) rfl (zRc_t rfl rfl ht (by decide) (by decide))
theorem zc_26 {d a : Nat} {a1 a2 : Value} {s : zS} {V : zV} {Q : zO → zH → Prop} (ht : s.tg a = 2) : zcall (d + 1) 26 [.ref a, a1, a2] (s, V) Q = zwp (zcall d) 26 Q (zB 26 0) [.ref a, a1, a2, zJ, zJ, zJ, zJ] [] (s, V) := zcall_in (by decide) rfl (zRc_t rfl rfl ht (by decide) (by decide))
theorem zc_27 {d a : Nat} {a1 : Value} {s : zS} {V : zV} {Q : zO → zH → Prop} (ht : s.tg a = 2) : zcall (d + 1) 27 [.ref a, a1] (s, V) Q = zwp (zcall d) 27 Q (zB 27 0) [.ref a, a1, zJ, zJ] [] (s, V) := zcall_in (by decide) rfl (zRc_t rfl rfl ht (by decide) (by decide))
theorem zc_28 {d a : Nat} {a1 : Value} {s : zS} {V : zV} {Q : zO → zH → Prop} (ht : s.tg a = 2) : zcall (d + 1) 28 [.ref a, a1] (s, V) Q = zwp (zcall d) 28 Q (zB 28 0) [.ref a, a1, zJ, zJ, zJ] [] (s, V) := zcall_in (by decide) rfl (zRc_t rfl rfl ht (by decide) (by decide))
theorem zc_29 {d a : Nat} {a1 a2 a3 : Value} {s : zS} {V : zV} {Q : zO → zH → Prop} (ht : s.tg a = 2) : zcall (d + 1) 29 [.ref a, a1, a2, a3] (s, V) Q = zwp (zcall d) 29 Q (zB 29 0) [.ref a, a1, a2, a3, zJ, zJ] [] (s, V) := zcall_in (by decide) rfl (zRc_t rfl rfl ht (by decide) (by decide))
theorem zc_30 {d a : Nat} {a1 a2 : Value} {s : zS} {V : zV} {Q : zO → zH → Prop} (ht : s.tg a = 2) : zcall (d + 1) 30 [.ref a, a1, a2] (s, V) Q = zwp (zcall d) 30 Q (zB 30 0) [.ref a, a1, a2, zJ, zJ] [] (s, V) := zcall_in (by decide) rfl (zRc_t rfl rfl ht (by decide) (by decide))
theorem zc_31 {d a : Nat} {s : zS} {V : zV} {Q : zO → zH → Prop}  : zcall (d + 1) 31 [.ref a] (s, V) Q = zwp (zcall d) 31 Q (zB 31 0) [.ref a, zJ] [] (s, V) := zcall_in (by decide) rfl (zRc_8 rfl rfl)
theorem zc_32 {d a : Nat} {a1 : Value} {s : zS} {V : zV} {Q : zO → zH → Prop} (ht : s.tg a = 3) : zcall (d + 1) 32 [.ref a, a1] (s, V) Q = zwp (zcall d) 32 Q (zB 32 0) [.ref a, a1] [] (s, V) := zcall_in (by decide) rfl (zRc_t rfl rfl ht (by decide) (by decide))
theorem zc_33 {d a : Nat} {s : zS} {V : zV} {Q : zO → zH → Prop} (ht : s.tg a = 3) : zcall (d + 1) 33 [.ref a] (s, V) Q = zwp (zcall d) 33 Q (zB 33 0) [.ref a, zJ, zJ] [] (s, V) := zcall_in (by decide) rfl (zRc_t rfl rfl ht (by decide) (by decide))
theorem zc_34 {d a : Nat} {s : zS} {V : zV} {Q : zO → zH → Prop} (ht : s.tg a = 3) : zcall (d + 1) 34 [.ref a] (s, V) Q = zwp (zcall d) 34 Q (zB 34 0) [.ref a] [] (s, V) := zcall_in (by decide) rfl (zRc_t rfl rfl ht (by decide) (by decide))
theorem zc_35 {d a : Nat} {a1 : Value} {s : zS} {V : zV} {Q : zO → zH → Prop} (ht : s.tg a = 3) : zcall (d + 1) 35 [.ref a, a1] (s, V) Q = zwp (zcall d) 35 Q (zB 35 0) [.ref a, a1] [] (s, V) := zcall_in (by decide) rfl (zRc_t rfl rfl ht (by decide) (by decide))
theorem zc_36 {d a : Nat} {s : zS} {V : zV} {Q : zO → zH → Prop}  : zcall (d + 1) 36 [.ref a] (s, V) Q = zwp (zcall d) 36 Q (zB 36 0) [.ref a] [] (s, V) := zcall_in (by decide) rfl (zRc_8 rfl rfl)
theorem zc_37 {d a : Nat} {a1 : Value} {s : zS} {V : zV} {Q : zO → zH → Prop} (ht : s.tg a = 4) : zcall (d + 1) 37 [.ref a, a1] (s, V) Q = zwp (zcall d) 37 Q (zB 37 0) [.ref a, a1, zJ, zJ] [] (s, V) := zcall_in (by decide) rfl (zRc_t rfl rfl ht (by decide) (by decide))
theorem zc_38 {d a : Nat} {a1 a2 : Value} {s : zS} {V : zV} {Q : zO → zH → Prop} (ht : s.tg a = 4) : zcall (d + 1) 38 [.ref a, a1, a2] (s, V) Q = zwp (zcall d) 38 Q (zB 38 0) [.ref a, a1, a2, zJ, zJ, zJ, zJ, zJ, zJ, zJ, zJ] [] (s, V) := zcall_in (by decide) rfl (zRc_t rfl rfl ht (by decide) (by decide))
theorem zc_39 {d a : Nat} {a1 a2 a3 : Value} {s : zS} {V : zV} {Q : zO → zH → Prop} (ht : s.tg a = 4) : zcall (d + 1) 39 [.ref a, a1, a2, a3] (s, V) Q = zwp (zcall d) 39 Q (zB 39 0) [.ref a, a1, a2, a3, zJ, zJ] [] (s, V) := zcall_in (by decide) rfl (zRc_t rfl rfl ht (by decide) (by decide))
theorem zc_40 {d a : Nat} {a1 a2 : Value} {s : zS} {V : zV} {Q : zO → zH → Prop} (ht : s.tg a = 4) : zcall (d + 1) 40 [.ref a, a1, a2] (s, V) Q = zwp (zcall d) 40 Q (zB 40 0) [.ref a, a1, a2, zJ, zJ] [] (s, V) := zcall_in (by decide) rfl (zRc_t rfl rfl ht (by decide) (by decide))
theorem zc_41 {d a : Nat} {a1 a2 a3 : Value} {s : zS} {V : zV} {Q : zO → zH → Prop} (ht : s.tg a = 4) : zcall (d + 1) 41 [.ref a, a1, a2, a3] (s, V) Q = zwp (zcall d) 41 Q (zB 41 0) [.ref a, a1, a2, a3, zJ, zJ, zJ] [] (s, V) := zcall_in (by decide) rfl (zRc_t rfl rfl ht (by decide) (by decide))
theorem zc_42 {d a : Nat} {a1 : Value} {s : zS} {V : zV} {Q : zO → zH → Prop} (ht : s.tg a = 4) : zcall (d + 1) 42 [.ref a, a1] (s, V) Q = zwp (zcall d) 42 Q (zB 42 0) [.ref a, a1, zJ, zJ] [] (s, V) := zcall_in (by decide) rfl (zRc_t rfl rfl ht (by decide) (by decide))
theorem zc_43 {d a : Nat} {a1 a2 a3 : Value} {s : zS} {V : zV} {Q : zO → zH → Prop} (ht : s.tg a = 4) : zcall (d + 1) 43 [.ref a, a1, a2, a3] (s, V) Q = zwp (zcall d) 43 Q (zB 43 0) [.ref a, a1, a2, a3, zJ, zJ, zJ, zJ, zJ, zJ] [] (s, V) := zcall_in (by decide) rfl (zRc_t rfl rfl ht (by decide) (by decide))
theorem zc_44 {d : Nat} {a0 a1 : Value} {h : zH} {Q : zO → zH → Prop} : zcall (d + 1) 44 [a0, a1] h Q = zwp (zcall d) 44 Q (zB 44 0) [a0, a1, zJ, zJ] [] h := zcall_in (by decide) rfl (zRc_9 rfl rfl (by decide))
theorem zc_45 {d a : Nat} {a1 a2 : Value} {s : zS} {V : zV} {Q : zO → zH → Prop} (ht : s.tg a = 4) : zcall (d + 1) 45 [.ref a, a1, a2] (s, V) Q = zwp (zcall d) 45 Q (zB 45 0) [.ref a, a1, a2, zJ, zJ, zJ, zJ] [] (s, V) := zcall_in (by decide) rfl (zRc_t rfl rfl ht (by decide) (by decide))
theorem zc_46 {d a : Nat} {s : zS} {V : zV} {Q : zO → zH → Prop}  : zcall (d + 1) 46 [.ref a] (s, V) Q = zwp (zcall d) 46 Q (zB 46 0) [.ref a] [] (s, V) := zcall_in (by decide) rfl (zRc_8 rfl rfl)
theorem zc_47 {d a : Nat} {a1 a2 a3 : Value} {s : zS} {V : zV} {Q : zO → zH → Prop} (ht : s.tg a = 5) : zcall (d + 1) 47 [.ref a, a1, a2, a3] (s, V) Q = zwp (zcall d) 47 Q (zB 47 0) [.ref a, a1, a2, a3] [] (s, V) := zcall_in (by decide) rfl (zRc_t rfl rfl ht (by decide) (by decide))
theorem zc_48 {d a : Nat} {a1 a2 a3 a4 a5 : Value} {s : zS} {V : zV} {Q : zO → zH → Prop} (ht : s.tg a = 5) : zcall (d + 1) 48 [.ref a, a1, a2, a3, a4, a5] (s, V) Q = zwp (zcall d) 48 Q (zB 48 0) [.ref a, a1, a2, a3, a4, a5, zJ, zJ] [] (s, V) := zcall_in (by decide) rfl (zRc_t rfl rfl ht (by decide) (by decide))
theorem zc_49 {d a : Nat} {a1 a2 a3 : Value} {s : zS} {V : zV} {Q : zO → zH → Prop} (ht : s.tg a = 5) : zcall (d + 1) 49 [.ref a, a1, a2, a3] (s, V) Q = zwp (zcall d) 49 Q (zB 49 0) [.ref a, a1, a2, a3, zJ] [] (s, V) := zcall_in (by decide) rfl (zRc_t rfl rfl ht (by decide) (by decide))
theorem zc_50 {d a : Nat} {a1 a2 a3 a4 : Value} {s : zS} {V : zV} {Q : zO → zH → Prop} (ht : s.tg a = 5) : zcall (d + 1) 50 [.ref a, a1, a2, a3, a4] (s, V) Q = zwp (zcall d) 50 Q (zB 50 0) [.ref a, a1, a2, a3, a4] [] (s, V) := zcall_in (by decide) rfl (zRc_t rfl rfl ht (by decide) (by decide))
theorem zc_51 {d a : Nat} {s : zS} {V : zV} {Q : zO → zH → Prop} (ht : s.tg a = 5) : zcall (d + 1) 51 [.ref a] (s, V) Q = zwp (zcall d) 51 Q (zB 51 0) [.ref a] [] (s, V) := zcall_in (by decide) rfl (zRc_t rfl rfl ht (by decide) (by decide))
theorem zc_52 {d a : Nat} {s : zS} {V : zV} {Q : zO → zH → Prop} (ht : s.tg a = 5) : zcall (d + 1) 52 [.ref a] (s, V) Q = zwp (zcall d) 52 Q (zB 52 0) [.ref a] [] (s, V) := zcall_in (by decide) rfl (zRc_t rfl rfl ht (by decide) (by decide))
theorem zc_53 {d a : Nat} {a1 : Value} {s : zS} {V : zV} {Q : zO → zH → Prop} (ht : s.tg a = 5) : zcall (d + 1) 53 [.ref a, a1] (s, V) Q = zwp (zcall d) 53 Q (zB 53 0) [.ref a, a1] [] (s, V) := zcall_in (by decide) rfl (zRc_t rfl rfl ht (by decide) (by decide))
theorem zc_54 {d a : Nat} {s : zS} {V : zV} {Q : zO → zH → Prop} (ht : s.tg a = 5) : zcall (d + 1) 54 [.ref a] (s, V) Q = zwp (zcall d) 54 Q (zB 54 0) [.ref a] [] (s, V) := zcall_in (by decide) rfl (zRc_t rfl rfl ht (by decide) (by decide))
theorem zc_55 {d a : Nat} {a1 a2 : Value} {s : zS} {V : zV} {Q : zO → zH → Prop} (ht : s.tg a = 5) : zcall (d + 1) 55 [.ref a, a1, a2] (s, V) Q = zwp (zcall d) 55 Q (zB 55 0) [.ref a, a1, a2] [] (s, V) := zcall_in (by decide) rfl (zRc_t rfl rfl ht (by decide) (by decide))
theorem zc_56 {d a : Nat} {a1 a2 : Value} {s : zS} {V : zV} {Q : zO → zH → Prop} (ht : s.tg a = 5) : zcall (d + 1) 56 [.ref a, a1, a2] (s, V) Q = zwp (zcall d) 56 Q (zB 56 0) [.ref a, a1, a2] [] (s, V) := zcall_in (by decide) rfl (zRc_t rfl rfl ht (by decide) (by decide))
theorem zc_57 {d a : Nat} {s : zS} {V : zV} {Q : zO → zH → Prop}  : zcall (d + 1) 57 [.ref a] (s, V) Q = zwp (zcall d) 57 Q (zB 57 0) [.ref a] [] (s, V) := zcall_in (by decide) rfl (zRc_8 rfl rfl)
theorem zc_58 {d : Nat} {a0 : Value} {h : zH} {Q : zO → zH → Prop} : zcall (d + 1) 58 [a0] h Q = zwp (zcall d) 58 Q (zB 58 0) [a0] [] h := zcall_in (by decide) rfl (zRc_9 rfl rfl (by decide))
theorem zc_59 {d : Nat} {a0 : Value} {h : zH} {Q : zO → zH → Prop} : zcall (d + 1) 59 [a0] h Q = zwp (zcall d) 59 Q (zB 59 0) [a0] [] h := zcall_in (by decide) rfl (zRc_9 rfl rfl (by decide))
theorem zc_60 {d : Nat} {a0 : Value} {h : zH} {Q : zO → zH → Prop} : zcall (d + 1) 60 [a0] h Q = zwp (zcall d) 60 Q (zB 60 0) [a0] [] h := zcall_in (by decide) rfl (zRc_9 rfl rfl (by decide))
theorem zc_61 {d : Nat} {a0 : Value} {h : zH} {Q : zO → zH → Prop} : zcall (d + 1) 61 [a0] h Q = zwp (zcall d) 61 Q (zB 61 0) [a0] [] h := zcall_in (by decide) rfl (zRc_9 rfl rfl (by decide))
theorem zc_62 {d a : Nat} {a1 a2 a3 a4 a5 : Value} {s : zS} {V : zV} {Q : zO → zH → Prop} (ht : s.tg a = 0 ∨ s.tg a = 5) : zcall (d + 1) 62 [.ref a, a1, a2, a3, a4, a5] (s, V) Q = zwp (zcall d) 62 Q (zB 62 0) [.ref a, a1, a2, a3, a4, a5, zJ, zJ, zJ] [] (s, V) := zcall_in (by decide) rfl (zRc_6 rfl rfl ht)
theorem zc_63 {d a : Nat} {a1 a2 a3 a4 a5 a6 : Value} {s : zS} {V : zV} {Q : zO → zH → Prop} (ht : s.tg a = 0 ∨ s.tg a = 5) : zcall (d + 1) 63 [.ref a, a1, a2, a3, a4, a5, a6] (s, V) Q = zwp (zcall d) 63 Q (zB 63 0) [.ref a, a1, a2, a3, a4, a5, a6, zJ, zJ, zJ] [] (s, V) := zcall_in (by decide) rfl (zRc_6 rfl rfl ht)
theorem zc_64 {d a : Nat} {a1 a2 a3 a4 a5 a6 : Value} {s : zS} {V : zV} {Q : zO → zH → Prop} (ht : s.tg a = 0 ∨ s.tg a = 5) : zcall (d + 1) 64 [.ref a, a1, a2, a3, a4, a5, a6] (s, V) Q = zwp (zcall d) 64 Q (zB 64 0) [.ref a, a1, a2, a3, a4, a5, a6, zJ, zJ, zJ, zJ, zJ] [] (s, V) := zcall_in (by decide) rfl (zRc_6 rfl rfl ht)
theorem zc_65 {d a : Nat} {s : zS} {V : zV} {Q : zO → zH → Prop}  : zcall (d + 1) 65 [.ref a] (s, V) Q = zwp (zcall d) 65 Q (zB 65 0) [.ref a] [] (s, V) := zcall_in (by decide) rfl (zRc_8 rfl rfl)
theorem zc_66 {d a : Nat} {a1 : Value} {s : zS} {V : zV} {Q : zO → zH → Prop} (ht : s.tg a = 7) : zcall (d + 1) 66 [.ref a, a1] (s, V) Q = zwp (zcall d) 66 Q (zB 66 0) [.ref a, a1, zJ] [] (s, V) := zcall_in (by decide) rfl (zRc_t rfl rfl ht (by decide) (by decide))
theorem zc_67 {d a : Nat} {a1 : Value} {s : zS} {V : zV} {Q : zO → zH → Prop} (ht : s.tg a = 7) : zcall (d + 1) 67 [.ref a, a1] (s, V) Q = zwp (zcall d) 67 Q (zB 67 0) [.ref a, a1] [] (s, V) := zcall_in (by decide) rfl (zRc_t rfl rfl ht (by decide) (by decide))
theorem zc_68 {d a : Nat} {a1 : Value} {s : zS} {V : zV} {Q : zO → zH → Prop} (ht : s.tg a = 7) : zcall (d + 1) 68 [.ref a, a1] (s, V) Q = zwp (zcall d) 68 Q (zB 68 0) [.ref a, a1] [] (s, V) := zcall_in (by decide) rfl (zRc_t rfl rfl ht (by decide) (by decide))
theorem zc_69 {d a : Nat} {a1 : Value} {s : zS} {V : zV} {Q : zO → zH → Prop} (ht : s.tg a = 7) : zcall (d + 1) 69 [.ref a, a1] (s, V) Q = zwp (zcall d) 69 Q (zB 69 0) [.ref a, a1] [] (s, V) := zcall_in (by decide) rfl (zRc_t rfl rfl ht (by decide) (by decide))
theorem zc_70 {d a : Nat} {a1 : Value} {s : zS} {V : zV} {Q : zO → zH → Prop} (ht : s.tg a = 7) : zcall (d + 1) 70 [.ref a, a1] (s, V) Q = zwp (zcall d) 70 Q (zB 70 0) [.ref a, a1] [] (s, V) := zcall_in (by decide) rfl (zRc_t rfl rfl ht (by decide) (by decide))
theorem zc_71 {d a : Nat} {a1 : Value} {s : zS} {V : zV} {Q : zO → zH → Prop} (ht : s.tg a = 7) : zcall (d + 1) 71 [.ref a, a1] (s, V) Q = zwp (zcall d) 71 Q (zB 71 0) [.ref a, a1, zJ, zJ] [] (s, V) := zcall_in (by decide) rfl (zRc_t rfl rfl ht (by decide) (by decide))
theorem zc_72 {d a : Nat} {a1 a2 a3 a4 a5 : Value} {s : zS} {V : zV} {Q : zO → zH → Prop} (ht : s.tg a = 7) : zcall (d + 1) 72 [.ref a, a1, a2, a3, a4, a5] (s, V) Q = zwp (zcall d) 72 Q (zB 72 0) [.ref a, a1, a2, a3, a4, a5] [] (s, V) := zcall_in (by decide) rfl (zRc_t rfl rfl ht (by decide) (by decide))
theorem zc_73 {d a : Nat} {a1 a2 a3 a4 a5 : Value} {s : zS} {V : zV} {Q : zO → zH → Prop} (ht : s.tg a = 7) : zcall (d + 1) 73 [.ref a, a1, a2, a3, a4, a5] (s, V) Q = zwp (zcall d) 73 Q (zB 73 0) [.ref a, a1, a2, a3, a4, a5, zJ] [] (s, V) := zcall_in (by decide) rfl (zRc_t rfl rfl ht (by decide) (by decide))
theorem zc_74 {d a : Nat} {a1 : Value} {s : zS} {V : zV} {Q : zO → zH → Prop} (ht : s.tg a = 7) : zcall (d + 1) 74 [.ref a, a1] (s, V) Q = zwp (zcall d) 74 Q (zB 74 0) [.ref a, a1, zJ] [] (s, V) := zcall_in (by decide) rfl (zRc_t rfl rfl ht (by decide) (by decide))
theorem zc_75 {d a : Nat} {a1 : Value} {s : zS} {V : zV} {Q : zO → zH → Prop} (ht : s.tg a = 7) : zcall (d + 1) 75 [.ref a, a1] (s, V) Q = zwp (zcall d) 75 Q (zB 75 0) [.ref a, a1, zJ] [] (s, V) := zcall_in (by decide) rfl (zRc_t rfl rfl ht (by decide) (by decide))
theorem zc_76 {d a : Nat} {a1 a2 a3 : Value} {s : zS} {V : zV} {Q : zO → zH → Prop} (ht : s.tg a = 7) : zcall (d + 1) 76 [.ref a, a1, a2, a3] (s, V) Q = zwp (zcall d) 76 Q (zB 76 0) [.ref a, a1, a2, a3] [] (s, V) := zcall_in (by decide) rfl (zRc_t rfl rfl ht (by decide) (by decide))
theorem zc_77 {d a : Nat} {a1 a2 a3 : Value} {s : zS} {V : zV} {Q : zO → zH → Prop} (ht : s.tg a = 7) : zcall (d + 1) 77 [.ref a, a1, a2, a3] (s, V) Q = zwp (zcall d) 77 Q (zB 77 0) [.ref a, a1, a2, a3, zJ] [] (s, V) := zcall_in (by decide) rfl (zRc_t rfl rfl ht (by decide) (by decide))
theorem zc_78 {d a : Nat} {a1 a2 : Value} {s : zS} {V : zV} {Q : zO → zH → Prop} (ht : s.tg a = 7) : zcall (d + 1) 78 [.ref a, a1, a2] (s, V) Q = zwp (zcall d) 78 Q (zB 78 0) [.ref a, a1, a2] [] (s, V) := zcall_in (by decide) rfl (zRc_t rfl rfl ht (by decide) (by decide))
theorem zc_79 {d a : Nat} {a1 a2 : Value} {s : zS} {V : zV} {Q : zO → zH → Prop} (ht : s.tg a = 7) : zcall (d + 1) 79 [.ref a, a1, a2] (s, V) Q = zwp (zcall d) 79 Q (zB 79 0) [.ref a, a1, a2, zJ] [] (s, V) := zcall_in (by decide) rfl (zRc_t rfl rfl ht (by decide) (by decide))
theorem zc_80 {d a : Nat} {a1 a2 : Value} {s : zS} {V : zV} {Q : zO → zH → Prop} (ht : s.tg a = 7) : zcall (d + 1) 80 [.ref a, a1, a2] (s, V) Q = zwp (zcall d) 80 Q (zB 80 0) [.ref a, a1, a2] [] (s, V) := zcall_in (by decide) rfl (zRc_t rfl rfl ht (by decide) (by decide))
theorem zc_81 {d a : Nat} {a1 : Value} {s : zS} {V : zV} {Q : zO → zH → Prop} (ht : s.tg a = 7) : zcall (d + 1) 81 [.ref a, a1] (s, V) Q = zwp (zcall d) 81 Q (zB 81 0) [.ref a, a1] [] (s, V) := zcall_in (by decide) rfl (zRc_t rfl rfl ht (by decide) (by decide))
theorem zc_82 {d a : Nat} {a1 : Value} {s : zS} {V : zV} {Q : zO → zH → Prop} (ht : s.tg a = 7) : zcall (d + 1) 82 [.ref a, a1] (s, V) Q = zwp (zcall d) 82 Q (zB 82 0) [.ref a, a1, zJ, zJ] [] (s, V) := zcall_in (by decide) rfl (zRc_t rfl rfl ht (by decide) (by decide))
theorem zc_83 {d a : Nat} {a1 : Value} {s : zS} {V : zV} {Q : zO → zH → Prop} (ht : s.tg a = 7) : zcall (d + 1) 83 [.ref a, a1] (s, V) Q = zwp (zcall d) 83 Q (zB 83 0) [.ref a, a1, zJ] [] (s, V) := zcall_in (by decide) rfl (zRc_t rfl rfl ht (by decide) (by decide))
theorem zc_84 {d a : Nat} {a1 a2 : Value} {s : zS} {V : zV} {Q : zO → zH → Prop} (ht : s.tg a = 7) : zcall (d + 1) 84 [.ref a, a1, a2] (s, V) Q = zwp (zcall d) 84 Q (zB 84 0) [.ref a, a1, a2] [] (s, V) := zcall_in (by decide) rfl (zRc_t rfl rfl ht (by decide) (by decide))
theorem zc_85 {d a : Nat} {a1 a2 : Value} {s : zS} {V : zV} {Q : zO → zH → Prop} (ht : s.tg a = 7) : zcall (d + 1) 85 [.ref a, a1, a2] (s, V) Q = zwp (zcall d) 85 Q (zB 85 0) [.ref a, a1, a2] [] (s, V) := zcall_in (by decide) rfl (zRc_t rfl rfl ht (by decide) (by decide))
theorem zc_86 {d a : Nat} {a1 : Value} {s : zS} {V : zV} {Q : zO → zH → Prop} (ht : s.tg a = 7) : zcall (d + 1) 86 [.ref a, a1] (s, V) Q = zwp (zcall d) 86 Q (zB 86 0) [.ref a, a1] [] (s, V) := zcall_in (by decide) rfl (zRc_t rfl rfl ht (by decide) (by decide))
theorem zc_87 {d a : Nat} {a1 : Value} {s : zS} {V : zV} {Q : zO → zH → Prop} (ht : s.tg a = 7) : zcall (d + 1) 87 [.ref a, a1] (s, V) Q = zwp (zcall d) 87 Q (zB 87 0) [.ref a, a1, zJ, zJ, zJ, zJ] [] (s, V) := zcall_in (by decide) rfl (zRc_t rfl rfl ht (by decide) (by decide))
theorem zc_88 {d a : Nat} {a1 : Value} {s : zS} {V : zV} {Q : zO → zH → Prop} (ht : s.tg a = 7) : zcall (d + 1) 88 [.ref a, a1] (s, V) Q = zwp (zcall d) 88 Q (zB 88 0) [.ref a, a1, zJ, zJ] [] (s, V) := zcall_in (by decide) rfl (zRc_t rfl rfl ht (by decide) (by decide))
theorem zc_89 {d a : Nat} {a1 a2 : Value} {s : zS} {V : zV} {Q : zO → zH → Prop} (ht : s.tg a = 7) : zcall (d + 1) 89 [.ref a, a1, a2] (s, V) Q = zwp (zcall d) 89 Q (zB 89 0) [.ref a, a1, a2, zJ] [] (s, V) := zcall_in (by decide) rfl (zRc_t rfl rfl ht (by decide) (by decide))
theorem zc_90 {d a : Nat} {a1 a2 : Value} {s : zS} {V : zV} {Q : zO → zH → Prop} (ht : s.tg a = 7) : zcall (d + 1) 90 [.ref a, a1, a2] (s, V) Q = zwp (zcall d) 90 Q (zB 90 0) [.ref a, a1, a2, zJ] [] (s, V) := zcall_in (by decide) rfl (zRc_t rfl rfl ht (by decide) (by decide))
theorem zc_91 {d a : Nat} {a1 : Value} {s : zS} {V : zV} {Q : zO → zH → Prop} (ht : s.tg a = 7) : zcall (d + 1) 91 [.ref a, a1] (s, V) Q = zwp (zcall d) 91 Q (zB 91 0) [.ref a, a1] [] (s, V) := zcall_in (by decide) rfl (zRc_t rfl rfl ht (by decide) (by decide))
theorem zc_92 {d a : Nat} {s : zS} {V : zV} {Q : zO → zH → Prop} (ht : s.tg a = 7) : zcall (d + 1) 92 [.ref a] (s, V) Q = zwp (zcall d) 92 Q (zB 92 0) [.ref a, zJ, zJ] [] (s, V) := zcall_in (by decide) rfl (zRc_t rfl rfl ht (by decide) (by decide))
theorem zc_93 {d a : Nat} {s : zS} {V : zV} {Q : zO → zH → Prop} (ht : s.tg a = 7) : zcall (d + 1) 93 [.ref a] (s, V) Q = zwp (zcall d) 93 Q (zB 93 0) [.ref a] [] (s, V) := zcall_in (by decide) rfl (zRc_t rfl rfl ht (by decide) (by decide))
theorem zc_94 {d a : Nat} {a1 : Value} {s : zS} {V : zV} {Q : zO → zH → Prop} (ht : s.tg a = 7) : zcall (d + 1) 94 [.ref a, a1] (s, V) Q = zwp (zcall d) 94 Q (zB 94 0) [.ref a, a1] [] (s, V) := zcall_in (by decide) rfl (zRc_t rfl rfl ht (by decide) (by decide))
theorem zc_95 {d a : Nat} {a1 : Value} {s : zS} {V : zV} {Q : zO → zH → Prop} (ht : s.tg a = 7) : zcall (d + 1) 95 [.ref a, a1] (s, V) Q = zwp (zcall d) 95 Q (zB 95 0) [.ref a, a1] [] (s, V) := zcall_in (by decide) rfl (zRc_t rfl rfl ht (by decide) (by decide))
theorem zc_96 {d a : Nat} {a1 : Value} {s : zS} {V : zV} {Q : zO → zH → Prop} (ht : s.tg a = 7) : zcall (d + 1) 96 [.ref a, a1] (s, V) Q = zwp (zcall d) 96 Q (zB 96 0) [.ref a, a1] [] (s, V) := zcall_in (by decide) rfl (zRc_t rfl rfl ht (by decide) (by decide))
theorem zc_97 {d a : Nat} {a1 : Value} {s : zS} {V : zV} {Q : zO → zH → Prop} (ht : s.tg a = 7) : zcall (d + 1) 97 [.ref a, a1] (s, V) Q = zwp (zcall d) 97 Q (zB 97 0) [.ref a, a1] [] (s, V) := zcall_in (by decide) rfl (zRc_t rfl rfl ht (by decide) (by decide))
theorem zc_98 {d a : Nat} {a1 : Value} {s : zS} {V : zV} {Q : zO → zH → Prop} (ht : s.tg a = 7) : zcall (d + 1) 98 [.ref a, a1] (s, V) Q = zwp (zcall d) 98 Q (zB 98 0) [.ref a, a1, zJ] [] (s, V) := zcall_in (by decide) rfl (zRc_t rfl rfl ht (by decide) (by decide))
theorem zc_99 {d a : Nat} {s : zS} {V : zV} {Q : zO → zH → Prop} (ht : s.tg a = 7) : zcall (d + 1) 99 [.ref a] (s, V) Q = zwp (zcall d) 99 Q (zB 99 0) [.ref a, zJ, zJ, zJ, zJ] [] (s, V) := zcall_in (by decide) rfl (zRc_t rfl rfl ht (by decide) (by decide))
theorem zc_100 {d a : Nat} {a1 a2 : Value} {s : zS} {V : zV} {Q : zO → zH → Prop} (ht : s.tg a = 7) : zcall (d + 1) 100 [.ref a, a1, a2] (s, V) Q = zwp (zcall d) 100 Q (zB 100 0) [.ref a, a1, a2, zJ] [] (s, V) := zcall_in (by decide) rfl (zRc_t rfl rfl ht (by decide) (by decide))
theorem zc_101 {d a : Nat} {a1 a2 : Value} {s : zS} {V : zV} {Q : zO → zH → Prop} (ht : s.tg a = 7) : zcall (d + 1) 101 [.ref a, a1, a2] (s, V) Q = zwp (zcall d) 101 Q (zB 101 0) [.ref a, a1, a2] [] (s, V) := zcall_in (by decide) rfl (zRc_t rfl rfl ht (by decide) (by decide))
theorem zc_102 {d a : Nat} {s : zS} {V : zV} {Q : zO → zH → Prop}  : zcall (d + 1) 102 [.ref a] (s, V) Q = zwp (zcall d) 102 Q (zB 102 0) [.ref a] [] (s, V) := zcall_in (by decide) rfl (zRc_8 rfl rfl)
theorem zc_103 {d a : Nat} {s : zS} {V : zV} {Q : zO → zH → Prop} (ht : s.tg a = 8) : zcall (d + 1) 103 [.ref a] (s, V) Q = zwp (zcall d) 103 Q (zB 103 0) [.ref a] [] (s, V) := zcall_in (by decide) rfl (zRc_t rfl rfl ht (by decide) (by decide))
theorem zc_104 {d a : Nat} {a1 : Value} {s : zS} {V : zV} {Q : zO → zH → Prop} (ht : s.tg a = 8) : zcall (d + 1) 104 [.ref a, a1] (s, V) Q = zwp (zcall d) 104 Q (zB 104 0) [.ref a, a1] [] (s, V) := zcall_in (by decide) rfl (zRc_t rfl rfl ht (by decide) (by decide))
theorem zc_105 {d a : Nat} {s : zS} {V : zV} {Q : zO → zH → Prop} (ht : s.tg a = 8) : zcall (d + 1) 105 [.ref a] (s, V) Q = zwp (zcall d) 105 Q (zB 105 0) [.ref a, zJ] [] (s, V) := zcall_in (by decide) rfl (zRc_t rfl rfl ht (by decide) (by decide))
theorem zc_106 {d a : Nat} {s : zS} {V : zV} {Q : zO → zH → Prop} (ht : s.tg a = 8) : zcall (d + 1) 106 [.ref a] (s, V) Q = zwp (zcall d) 106 Q (zB 106 0) [.ref a, zJ, zJ] [] (s, V) := zcall_in (by decide) rfl (zRc_t rfl rfl ht (by decide) (by decide))
theorem zc_107 {d : Nat} {a0 : Value} {h : zH} {Q : zO → zH → Prop} : zcall (d + 1) 107 [a0] h Q = zwp (zcall d) 107 Q (zB 107 0) [a0] [] h := zcall_in (by decide) rfl (zRc_9 rfl rfl (by decide))
theorem zc_108 {d : Nat} {a0 : Value} {h : zH} {Q : zO → zH → Prop} : zcall (d + 1) 108 [a0] h Q = zwp (zcall d) 108 Q (zB 108 0) [a0] [] h := zcall_in (by decide) rfl (zRc_9 rfl rfl (by decide))
theorem zc_109 {d a : Nat} {a1 a2 : Value} {s : zS} {V : zV} {Q : zO → zH → Prop} (ht : s.tg a = 8) : zcall (d + 1) 109 [.ref a, a1, a2] (s, V) Q = zwp (zcall d) 109 Q (zB 109 0) [.ref a, a1, a2, zJ, zJ, zJ, zJ] [] (s, V) := zcall_in (by decide) rfl (zRc_t rfl rfl ht (by decide) (by decide))
theorem zc_110 {d : Nat} {a0 : Value} {h : zH} {Q : zO → zH → Prop} : zcall (d + 1) 110 [a0] h Q = zwp (zcall d) 110 Q (zB 110 0) [a0] [] h := zcall_in (by decide) rfl (zRc_9 rfl rfl (by decide))
theorem zc_111 {d a : Nat} {a1 : Value} {s : zS} {V : zV} {Q : zO → zH → Prop} (ht : s.tg a = 8) : zcall (d + 1) 111 [.ref a, a1] (s, V) Q = zwp (zcall d) 111 Q (zB 111 0) [.ref a, a1, zJ] [] (s, V) := zcall_in (by decide) rfl (zRc_t rfl rfl ht (by decide) (by decide))
theorem zc_112 {d a : Nat} {a1 a2 : Value} {s : zS} {V : zV} {Q : zO → zH → Prop} (ht : s.tg a = 8) : zcall (d + 1) 112 [.ref a, a1, a2] (s, V) Q = zwp (zcall d) 112 Q (zB 112 0) [.ref a, a1, a2, zJ, zJ] [] (s, V) := zcall_in (by decide) rfl (zRc_t rfl rfl ht (by decide) (by decide))
theorem zc_113 {d a : Nat} {a1 a2 : Value} {s : zS} {V : zV} {Q : zO → zH → Prop} (ht : s.tg a = 8) : zcall (d + 1) 113 [.ref a, a1, a2] (s, V) Q = zwp (zcall d) 113 Q (zB 113 0) [.ref a, a1, a2, zJ, zJ, zJ] [] (s, V) := zcall_in (by decide) rfl (zRc_t rfl rfl ht (by decide) (by decide))
theorem zc_114 {d a : Nat} {a1 a2 : Value} {s : zS} {V : zV} {Q : zO → zH → Prop} (ht : s.tg a = 8) : zcall (d + 1) 114 [.ref a, a1, a2] (s, V) Q = zwp (zcall d) 114 Q (zB 114 0) [.ref a, a1, a2, zJ, zJ, zJ] [] (s, V) := zcall_in (by decide) rfl (zRc_t rfl rfl ht (by decide) (by decide))
theorem zc_115 {d a : Nat} {s : zS} {V : zV} {Q : zO → zH → Prop}  : zcall (d + 1) 115 [.ref a] (s, V) Q = zwp (zcall d) 115 Q (zB 115 0) [.ref a] [] (s, V) := zcall_in (by decide) rfl (zRc_8 rfl rfl)
theorem zc_116 {d a : Nat} {a1 : Value} {s : zS} {V : zV} {Q : zO → zH → Prop} (ht : s.tg a = 9) : zcall (d + 1) 116 [.ref a, a1] (s, V) Q = zwp (zcall d) 116 Q (zB 116 0) [.ref a, a1] [] (s, V) := zcall_in (by decide) rfl (zRc_t rfl rfl ht (by decide) (by decide))
theorem zc_117 {d a : Nat} {a1 a2 a3 a4 a5 : Value} {s : zS} {V : zV} {Q : zO → zH → Prop} (ht : s.tg a = 9) : zcall (d + 1) 117 [.ref a, a1, a2, a3, a4, a5] (s, V) Q = zwp (zcall d) 117 Q (zB 117 0) [.ref a, a1, a2, a3, a4, a5] [] (s, V) := zcall_in (by decide) rfl (zRc_t rfl rfl ht (by decide) (by decide))
theorem zc_118 {d a : Nat} {a1 : Value} {s : zS} {V : zV} {Q : zO → zH → Prop} (ht : s.tg a = 9) : zcall (d + 1) 118 [.ref a, a1] (s, V) Q = zwp (zcall d) 118 Q (zB 118 0) [.ref a, a1] [] (s, V) := zcall_in (by decide) rfl (zRc_t rfl rfl ht (by decide) (by decide))
theorem zc_119 {d a : Nat} {a1 a2 a3 : Value} {s : zS} {V : zV} {Q : zO → zH → Prop} (ht : s.tg a = 9) : zcall (d + 1) 119 [.ref a, a1, a2, a3] (s, V) Q = zwp (zcall d) 119 Q (zB 119 0) [.ref a, a1, a2, a3] [] (s, V) := zcall_in (by decide) rfl (zRc_t rfl rfl ht (by decide) (by decide))
theorem zc_120 {d a : Nat} {a1 a2 : Value} {s : zS} {V : zV} {Q : zO → zH → Prop} (ht : s.tg a = 9) : zcall (d + 1) 120 [.ref a, a1, a2] (s, V) Q = zwp (zcall d) 120 Q (zB 120 0) [.ref a, a1, a2] [] (s, V) := zcall_in (by decide) rfl (zRc_t rfl rfl ht (by decide) (by decide))
theorem zc_121 {d a : Nat} {s : zS} {V : zV} {Q : zO → zH → Prop} (ht : s.tg a = 9) : zcall (d + 1) 121 [.ref a] (s, V) Q = zwp (zcall d) 121 Q (zB 121 0) [.ref a] [] (s, V) := zcall_in (by decide) rfl (zRc_t rfl rfl ht (by decide) (by decide))
theorem zc_122 {d a : Nat} {s : zS} {V : zV} {Q : zO → zH → Prop} (ht : s.tg a = 9) : zcall (d + 1) 122 [.ref a] (s, V) Q = zwp (zcall d) 122 Q (zB 122 0) [.ref a] [] (s, V) := zcall_in (by decide) rfl (zRc_t rfl rfl ht (by decide) (by decide))
theorem zc_123 {d a : Nat} {a1 a2 : Value} {s : zS} {V : zV} {Q : zO → zH → Prop} (ht : s.tg a = 9) : zcall (d + 1) 123 [.ref a, a1, a2] (s, V) Q = zwp (zcall d) 123 Q (zB 123 0) [.ref a, a1, a2] [] (s, V) := zcall_in (by decide) rfl (zRc_t rfl rfl ht (by decide) (by decide))
theorem zc_124 {d a : Nat} {a1 a2 : Value} {s : zS} {V : zV} {Q : zO → zH → Prop} (ht : s.tg a = 9) : zcall (d + 1) 124 [.ref a, a1, a2] (s, V) Q = zwp (zcall d) 124 Q (zB 124 0) [.ref a, a1, a2] [] (s, V) := zcall_in (by decide) rfl (zRc_t rfl rfl ht (by decide) (by decide))
theorem zc_125 {d a : Nat} {a1 a2 : Value} {s : zS} {V : zV} {Q : zO → zH → Prop} (ht : s.tg a = 9) : zcall (d + 1) 125 [.ref a, a1, a2] (s, V) Q = zwp (zcall d) 125 Q (zB 125 0) [.ref a, a1, a2] [] (s, V) := zcall_in (by decide) rfl (zRc_t rfl rfl ht (by decide) (by decide))
theorem zc_126 {d a : Nat} {a1 : Value} {s : zS} {V : zV} {Q : zO → zH → Prop} (ht : s.tg a = 9) : zcall (d + 1) 126 [.ref a, a1] (s, V) Q = zwp (zcall d) 126 Q (zB 126 0) [.ref a, a1] [] (s, V) := zcall_in (by decide) rfl (zRc_t rfl rfl ht (by decide) (by decide))
theorem zc_127 {d a : Nat} {a1 : Value} {s : zS} {V : zV} {Q : zO → zH → Prop} (ht : s.tg a = 9) : zcall (d + 1) 127 [.ref a, a1] (s, V) Q = zwp (zcall d) 127 Q (zB 127 0) [.ref a, a1] [] (s, V) := zcall_in (by decide) rfl (zRc_t rfl rfl ht (by decide) (by decide))
theorem zc_128 {d a : Nat} {a1 a2 : Value} {s : zS} {V : zV} {Q : zO → zH → Prop} (ht : s.tg a = 9) : zcall (d + 1) 128 [.ref a, a1, a2] (s, V) Q = zwp (zcall d) 128 Q (zB 128 0) [.ref a, a1, a2] [] (s, V) := zcall_in (by decide) rfl (zRc_t rfl rfl ht (by decide) (by decide))
theorem zc_129 {d a : Nat} {a1 : Value} {s : zS} {V : zV} {Q : zO → zH → Prop} (ht : s.tg a = 9) : zcall (d + 1) 129 [.ref a, a1] (s, V) Q = zwp (zcall d) 129 Q (zB 129 0) [.ref a, a1] [] (s, V) := zcall_in (by decide) rfl (zRc_t rfl rfl ht (by decide) (by decide))
theorem zc_130 {d a : Nat} {a1 a2 : Value} {s : zS} {V : zV} {Q : zO → zH → Prop} (ht : s.tg a = 9) : zcall (d + 1) 130 [.ref a, a1, a2] (s, V) Q = zwp (zcall d) 130 Q (zB 130 0) [.ref a, a1, a2] [] (s, V) := zcall_in (by decide) rfl (zRc_t rfl rfl ht (by decide) (by decide))
theorem zc_131 {d a : Nat} {a1 a2 : Value} {s : zS} {V : zV} {Q : zO → zH → Prop} (ht : s.tg a = 9) : zcall (d + 1) 131 [.ref a, a1, a2] (s, V) Q = zwp (zcall d) 131 Q (zB 131 0) [.ref a, a1, a2] [] (s, V) := zcall_in (by decide) rfl (zRc_t rfl rfl ht (by decide) (by decide))
theorem zc_132 {d a : Nat} {a1 : Value} {s : zS} {V : zV} {Q : zO → zH → Prop} (ht : s.tg a = 9) : zcall (d + 1) 132 [.ref a, a1] (s, V) Q = zwp (zcall d) 132 Q (zB 132 0) [.ref a, a1] [] (s, V) := zcall_in (by decide) rfl (zRc_t rfl rfl ht (by decide) (by decide))
theorem zc_133 {d a : Nat} {a1 : Value} {s : zS} {V : zV} {Q : zO → zH → Prop} (ht : s.tg a = 9) : zcall (d + 1) 133 [.ref a, a1] (s, V) Q = zwp (zcall d) 133 Q (zB 133 0) [.ref a, a1] [] (s, V) := zcall_in (by decide) rfl (zRc_t rfl rfl ht (by decide) (by decide))
theorem zc_134 {d a : Nat} {s : zS} {V : zV} {Q : zO → zH → Prop} (ht : s.tg a = 9) : zcall (d + 1) 134 [.ref a] (s, V) Q = zwp (zcall d) 134 Q (zB 134 0) [.ref a] [] (s, V) := zcall_in (by decide) rfl (zRc_t rfl rfl ht (by decide) (by decide))
theorem zc_135 {d a : Nat} {s : zS} {V : zV} {Q : zO → zH → Prop} (ht : s.tg a = 9) : zcall (d + 1) 135 [.ref a] (s, V) Q = zwp (zcall d) 135 Q (zB 135 0) [.ref a] [] (s, V) := zcall_in (by decide) rfl (zRc_t rfl rfl ht (by decide) (by decide))
theorem zc_136 {d a : Nat} {a1 : Value} {s : zS} {V : zV} {Q : zO → zH → Prop} (ht : s.tg a = 9) : zcall (d + 1) 136 [.ref a, a1] (s, V) Q = zwp (zcall d) 136 Q (zB 136 0) [.ref a, a1] [] (s, V) := zcall_in (by decide) rfl (zRc_t rfl rfl ht (by decide) (by decide))
theorem zc_137 {d a : Nat} {a1 : Value} {s : zS} {V : zV} {Q : zO → zH → Prop} (ht : s.tg a = 9) : zcall (d + 1) 137 [.ref a, a1] (s, V) Q = zwp (zcall d) 137 Q (zB 137 0) [.ref a, a1] [] (s, V) := zcall_in (by decide) rfl (zRc_t rfl rfl ht (by decide) (by decide))
theorem zc_138 {d a : Nat} {a1 : Value} {s : zS} {V : zV} {Q : zO → zH → Prop} (ht : s.tg a = 9) : zcall (d + 1) 138 [.ref a, a1] (s, V) Q = zwp (zcall d) 138 Q (zB 138 0) [.ref a, a1] [] (s, V) := zcall_in (by decide) rfl (zRc_t rfl rfl ht (by decide) (by decide))
theorem zc_139 {d a : Nat} {s : zS} {V : zV} {Q : zO → zH → Prop} (ht : s.tg a = 9) : zcall (d + 1) 139 [.ref a] (s, V) Q = zwp (zcall d) 139 Q (zB 139 0) [.ref a] [] (s, V) := zcall_in (by decide) rfl (zRc_t rfl rfl ht (by decide) (by decide))
theorem zc_140 {d a : Nat} {a1 : Value} {s : zS} {V : zV} {Q : zO → zH → Prop} (ht : s.tg a = 9) : zcall (d + 1) 140 [.ref a, a1] (s, V) Q = zwp (zcall d) 140 Q (zB 140 0) [.ref a, a1] [] (s, V) := zcall_in (by decide) rfl (zRc_t rfl rfl ht (by decide) (by decide))
theorem zc_141 {d a : Nat} {a1 : Value} {s : zS} {V : zV} {Q : zO → zH → Prop} (ht : s.tg a = 9) : zcall (d + 1) 141 [.ref a, a1] (s, V) Q = zwp (zcall d) 141 Q (zB 141 0) [.ref a, a1, zJ] [] (s, V) := zcall_in (by decide) rfl (zRc_t rfl rfl ht (by decide) (by decide))
theorem zc_142 {d a : Nat} {a1 : Value} {s : zS} {V : zV} {Q : zO → zH → Prop} (ht : s.tg a = 9) : zcall (d + 1) 142 [.ref a, a1] (s, V) Q = zwp (zcall d) 142 Q (zB 142 0) [.ref a, a1] [] (s, V) := zcall_in (by decide) rfl (zRc_t rfl rfl ht (by decide) (by decide))
theorem zc_143 {d a : Nat} {a1 a2 : Value} {s : zS} {V : zV} {Q : zO → zH → Prop} (ht : s.tg a = 9) : zcall (d + 1) 143 [.ref a, a1, a2] (s, V) Q = zwp (zcall d) 143 Q (zB 143 0) [.ref a, a1, a2] [] (s, V) := zcall_in (by decide) rfl (zRc_t rfl rfl ht (by decide) (by decide))
theorem zc_144 {d a : Nat} {s : zS} {V : zV} {Q : zO → zH → Prop} (ht : s.tg a = 9) : zcall (d + 1) 144 [.ref a] (s, V) Q = zwp (zcall d) 144 Q (zB 144 0) [.ref a] [] (s, V) := zcall_in (by decide) rfl (zRc_t rfl rfl ht (by decide) (by decide))
theorem zc_145 {d a : Nat} {a1 : Value} {s : zS} {V : zV} {Q : zO → zH → Prop} (ht : s.tg a = 9) : zcall (d + 1) 145 [.ref a, a1] (s, V) Q = zwp (zcall d) 145 Q (zB 145 0) [.ref a, a1] [] (s, V) := zcall_in (by decide) rfl (zRc_t rfl rfl ht (by decide) (by decide))
theorem zc_146 {d a : Nat} {a1 a2 : Value} {s : zS} {V : zV} {Q : zO → zH → Prop} (ht : s.tg a = 9) : zcall (d + 1) 146 [.ref a, a1, a2] (s, V) Q = zwp (zcall d) 146 Q (zB 146 0) [.ref a, a1, a2] [] (s, V) := zcall_in (by decide) rfl (zRc_t rfl rfl ht (by decide) (by decide))
theorem zc_147 {d a : Nat} {a1 a2 : Value} {s : zS} {V : zV} {Q : zO → zH → Prop} (ht : s.tg a = 9) : zcall (d + 1) 147 [.ref a, a1, a2] (s, V) Q = zwp (zcall d) 147 Q (zB 147 0) [.ref a, a1, a2] [] (s, V) := zcall_in (by decide) rfl (zRc_t rfl rfl ht (by decide) (by decide))
theorem zc_148 {d a : Nat} {a1 a2 a3 : Value} {s : zS} {V : zV} {Q : zO → zH → Prop} (ht : s.tg a = 9) : zcall (d + 1) 148 [.ref a, a1, a2, a3] (s, V) Q = zwp (zcall d) 148 Q (zB 148 0) [.ref a, a1, a2, a3] [] (s, V) := zcall_in (by decide) rfl (zRc_t rfl rfl ht (by decide) (by decide))
theorem zc_149 {d a : Nat} {a1 : Value} {s : zS} {V : zV} {Q : zO → zH → Prop} (ht : s.tg a = 9) : zcall (d + 1) 149 [.ref a, a1] (s, V) Q = zwp (zcall d) 149 Q (zB 149 0) [.ref a, a1] [] (s, V) := zcall_in (by decide) rfl (zRc_t rfl rfl ht (by decide) (by decide))
theorem zc_150 {d a : Nat} {a1 : Value} {s : zS} {V : zV} {Q : zO → zH → Prop} (ht : s.tg a = 9) : zcall (d + 1) 150 [.ref a, a1] (s, V) Q = zwp (zcall d) 150 Q (zB 150 0) [.ref a, a1] [] (s, V) := zcall_in (by decide) rfl (zRc_t rfl rfl ht (by decide) (by decide))
theorem zc_151 {d a : Nat} {a1 : Value} {s : zS} {V : zV} {Q : zO → zH → Prop} (ht : s.tg a = 9) : zcall (d + 1) 151 [.ref a, a1] (s, V) Q = zwp (zcall d) 151 Q (zB 151 0) [.ref a, a1] [] (s, V) := zcall_in (by decide) rfl (zRc_t rfl rfl ht (by decide) (by decide))
theorem zc_152 {d a : Nat} {s : zS} {V : zV} {Q : zO → zH → Prop} (ht : s.tg a = 9) : zcall (d + 1) 152 [.ref a] (s, V) Q = zwp (zcall d) 152 Q (zB 152 0) [.ref a] [] (s, V) := zcall_in (by decide) rfl (zRc_t rfl rfl ht (by decide) (by decide))
theorem zc_153 {d a : Nat} {s : zS} {V : zV} {Q : zO → zH → Prop} (ht : s.tg a = 9) : zcall (d + 1) 153 [.ref a] (s, V) Q = zwp (zcall d) 153 Q (zB 153 0) [.ref a, zJ, zJ] [] (s, V) := zcall_in (by decide) rfl (zRc_t rfl rfl ht (by decide) (by decide))
theorem zc_154 {d a : Nat} {s : zS} {V : zV} {Q : zO → zH → Prop} (ht : s.tg a = 9) : zcall (d + 1) 154 [.ref a] (s, V) Q = zwp (zcall d) 154 Q (zB 154 0) [.ref a] [] (s, V) := zcall_in (by decide) rfl (zRc_t rfl rfl ht (by decide) (by decide))
theorem zc_155 {d a : Nat} {s : zS} {V : zV} {Q : zO → zH → Prop} (ht : s.tg a = 9) : zcall (d + 1) 155 [.ref a] (s, V) Q = zwp (zcall d) 155 Q (zB 155 0) [.ref a, zJ, zJ, zJ, zJ] [] (s, V) := zcall_in (by decide) rfl (zRc_t rfl rfl ht (by decide) (by decide))
theorem zc_157 {d : Nat} {a0 a1 a2 : Value} {h : zH} {Q : zO → zH → Prop} : zcall (d + 1) 157 [a0, a1, a2] h Q = zwp (zcall d) 157 Q (zB 157 0) [a0, a1, a2] [] h := zcall_in (by decide) rfl (zRc_9 rfl rfl (by decide))
theorem zc_158 {d : Nat} {a0 a1 : Value} {h : zH} {Q : zO → zH → Prop} : zcall (d + 1) 158 [a0, a1] h Q = zwp (zcall d) 158 Q (zB 158 0) [a0, a1] [] h := zcall_in (by decide) rfl (zRc_9 rfl rfl (by decide))
theorem zc_159 {d : Nat} {a0 : Value} {h : zH} {Q : zO → zH → Prop} : zcall (d + 1) 159 [a0] h Q = zwp (zcall d) 159 Q (zB 159 0) [a0, zJ, zJ, zJ] [] h := zcall_in (by decide) rfl (zRc_9 rfl rfl (by decide))
theorem zc_160 {d a : Nat} {s : zS} {V : zV} {Q : zO → zH → Prop}  : zcall (d + 1) 160 [.ref a] (s, V) Q = zwp (zcall d) 160 Q (zB 160 0) [.ref a] [] (s, V) := zcall_in (by decide) rfl (zRc_8 rfl rfl)
theorem zc_161 {d a : Nat} {s : zS} {V : zV} {Q : zO → zH → Prop} (ht : s.tg a = 10) : zcall (d + 1) 161 [.ref a] (s, V) Q = zwp (zcall d) 161 Q (zB 161 0) [.ref a] [] (s, V) := zcall_in (by decide) rfl (zRc_t rfl rfl ht (by decide) (by decide))
theorem zc_162 {d : Nat} {a0 a1 a2 : Value} {h : zH} {Q : zO → zH → Prop} : zcall (d + 1) 162 [a0, a1, a2] h Q = zwp (zcall d) 162 Q (zB 162 0) [a0, a1, a2] [] h := zcall_in (by decide) rfl (zRc_9 rfl rfl (by decide))
theorem zc_163 {d a : Nat} {a1 : Value} {s : zS} {V : zV} {Q : zO → zH → Prop} (ht : s.tg a = 10) : zcall (d + 1) 163 [.ref a, a1] (s, V) Q = zwp (zcall d) 163 Q (zB 163 0) [.ref a, a1] [] (s, V) := zcall_in (by decide) rfl (zRc_t rfl rfl ht (by decide) (by decide))
theorem zc_164 {d a : Nat} {a1 : Value} {s : zS} {V : zV} {Q : zO → zH → Prop} (ht : s.tg a = 10) : zcall (d + 1) 164 [.ref a, a1] (s, V) Q = zwp (zcall d) 164 Q (zB 164 0) [.ref a, a1] [] (s, V) := zcall_in (by decide) rfl (zRc_t rfl rfl ht (by decide) (by decide))
theorem zc_165 {d a : Nat} {s : zS} {V : zV} {Q : zO → zH → Prop} (ht : s.tg a = 10) : zcall (d + 1) 165 [.ref a] (s, V) Q = zwp (zcall d) 165 Q (zB 165 0) [.ref a, zJ] [] (s, V) := zcall_in (by decide) rfl (zRc_t rfl rfl ht (by decide) (by decide))
theorem zc_166 {d a : Nat} {s : zS} {V : zV} {Q : zO → zH → Prop} (ht : s.tg a = 10) : zcall (d + 1) 166 [.ref a] (s, V) Q = zwp (zcall d) 166 Q (zB 166 0) [.ref a, zJ] [] (s, V) := zcall_in (by decide) rfl (zRc_t rfl rfl ht (by decide) (by decide))
theorem zc_167 {d a : Nat} {a1 : Value} {s : zS} {V : zV} {Q : zO → zH → Prop} (ht : s.tg a = 10) : zcall (d + 1) 167 [.ref a, a1] (s, V) Q = zwp (zcall d) 167 Q (zB 167 0) [.ref a, a1, zJ] [] (s, V) := zcall_in (by decide) rfl (zRc_t rfl rfl ht (by decide) (by decide))
theorem zc_168 {d a : Nat} {a1 a2 : Value} {s : zS} {V : zV} {Q : zO → zH → Prop} (ht : s.tg a = 10) : zcall (d + 1) 168 [.ref a, a1, a2] (s, V) Q = zwp (zcall d) 168 Q (zB 168 0) [.ref a, a1, a2] [] (s, V) := zcall_in (by decide) rfl (zRc_t rfl rfl ht (by decide) (by decide))
theorem zc_169 {d a : Nat} {a1 a2 a3 : Value} {s : zS} {V : zV} {Q : zO → zH → Prop} (ht : s.tg a = 10) : zcall (d + 1) 169 [.ref a, a1, a2, a3] (s, V) Q = zwp (zcall d) 169 Q (zB 169 0) [.ref a, a1, a2, a3] [] (s, V) := zcall_in (by decide) rfl (zRc_t rfl rfl ht (by decide) (by decide))
theorem zc_170 {d a : Nat} {a1 a2 : Value} {s : zS} {V : zV} {Q : zO → zH → Prop} (ht : s.tg a = 10) : zcall (d + 1) 170 [.ref a, a1, a2] (s, V) Q = zwp (zcall d) 170 Q (zB 170 0) [.ref a, a1, a2] [] (s, V) := zcall_in (by decide) rfl (zRc_t rfl rfl ht (by decide) (by decide))
theorem zc_171 {d a : Nat} {a1 : Value} {s : zS} {V : zV} {Q : zO → zH → Prop} (ht : s.tg a = 10) : zcall (d + 1) 171 [.ref a, a1] (s, V) Q = zwp (zcall d) 171 Q (zB 171 0) [.ref a, a1] [] (s, V) := zcall_in (by decide) rfl (zRc_t rfl rfl ht (by decide) (by decide))
theorem zc_172 {d a : Nat} {a1 : Value} {s : zS} {V : zV} {Q : zO → zH → Prop} (ht : s.tg a = 10) : zcall (d + 1) 172 [.ref a, a1] (s, V) Q = zwp (zcall d) 172 Q (zB 172 0) [.ref a, a1] [] (s, V) := zcall_in (by decide) rfl (zRc_t rfl rfl ht (by decide) (by decide))
theorem zc_173 {d a : Nat} {a1 : Value} {s : zS} {V : zV} {Q : zO → zH → Prop} (ht : s.tg a = 10) : zcall (d + 1) 173 [.ref a, a1] (s, V) Q = zwp (zcall d) 173 Q (zB 173 0) [.ref a, a1] [] (s, V) := zcall_in (by decide) rfl (zRc_t rfl rfl ht (by decide) (by decide))
theorem zc_174 {d a : Nat} {a1 : Value} {s : zS} {V : zV} {Q : zO → zH → Prop} (ht : s.tg a = 10) : zcall (d + 1) 174 [.ref a, a1] (s, V) Q = zwp (zcall d) 174 Q (zB 174 0) [.ref a, a1] [] (s, V) := zcall_in (by decide) rfl (zRc_t rfl rfl ht (by decide) (by decide))
theorem zc_175 {d a : Nat} {a1 : Value} {s : zS} {V : zV} {Q : zO → zH → Prop} (ht : s.tg a = 10) : zcall (d + 1) 175 [.ref a, a1] (s, V) Q = zwp (zcall d) 175 Q (zB 175 0) [.ref a, a1] [] (s, V) := zcall_in (by decide) rfl (zRc_t rfl rfl ht (by decide) (by decide))
theorem zc_176 {d a : Nat} {a1 : Value} {s : zS} {V : zV} {Q : zO → zH → Prop} (ht : s.tg a = 10) : zcall (d + 1) 176 [.ref a, a1] (s, V) Q = zwp (zcall d) 176 Q (zB 176 0) [.ref a, a1] [] (s, V) := zcall_in (by decide) rfl (zRc_t rfl rfl ht (by decide) (by decide))
theorem zc_177 {d a : Nat} {a1 : Value} {s : zS} {V : zV} {Q : zO → zH → Prop} (ht : s.tg a = 10) : zcall (d + 1) 177 [.ref a, a1] (s, V) Q = zwp (zcall d) 177 Q (zB 177 0) [.ref a, a1] [] (s, V) := zcall_in (by decide) rfl (zRc_t rfl rfl ht (by decide) (by decide))
theorem zc_178 {d a : Nat} {a1 a2 : Value} {s : zS} {V : zV} {Q : zO → zH → Prop} (ht : s.tg a = 10) : zcall (d + 1) 178 [.ref a, a1, a2] (s, V) Q = zwp (zcall d) 178 Q (zB 178 0) [.ref a, a1, a2, zJ] [] (s, V) := zcall_in (by decide) rfl (zRc_t rfl rfl ht (by decide) (by decide))
theorem zc_179 {d a : Nat} {a1 : Value} {s : zS} {V : zV} {Q : zO → zH → Prop} (ht : s.tg a = 10) : zcall (d + 1) 179 [.ref a, a1] (s, V) Q = zwp (zcall d) 179 Q (zB 179 0) [.ref a, a1, zJ, zJ] [] (s, V) := zcall_in (by decide) rfl (zRc_t rfl rfl ht (by decide) (by decide))
theorem zc_180 {d a : Nat} {s : zS} {V : zV} {Q : zO → zH → Prop} (ht : s.tg a = 10) : zcall (d + 1) 180 [.ref a] (s, V) Q = zwp (zcall d) 180 Q (zB 180 0) [.ref a, zJ, zJ, zJ] [] (s, V) := zcall_in (by decide) rfl (zRc_t rfl rfl ht (by decide) (by decide))
theorem zc_181 {d a : Nat} {s : zS} {V : zV} {Q : zO → zH → Prop} (ht : s.tg a = 10) : zcall (d + 1) 181 [.ref a] (s, V) Q = zwp (zcall d) 181 Q (zB 181 0) [.ref a, zJ, zJ, zJ] [] (s, V) := zcall_in (by decide) rfl (zRc_t rfl rfl ht (by decide) (by decide))
theorem zc_182 {d a : Nat} {a1 a2 : Value} {s : zS} {V : zV} {Q : zO → zH → Prop} (ht : s.tg a = 10) : zcall (d + 1) 182 [.ref a, a1, a2] (s, V) Q = zwp (zcall d) 182 Q (zB 182 0) [.ref a, a1, a2] [] (s, V) := zcall_in (by decide) rfl (zRc_t rfl rfl ht (by decide) (by decide))
theorem zc_183 {d a : Nat} {a1 : Value} {s : zS} {V : zV} {Q : zO → zH → Prop} (ht : s.tg a = 10) : zcall (d + 1) 183 [.ref a, a1] (s, V) Q = zwp (zcall d) 183 Q (zB 183 0) [.ref a, a1, zJ] [] (s, V) := zcall_in (by decide) rfl (zRc_t rfl rfl ht (by decide) (by decide))
theorem zc_184 {d a : Nat} {a1 a2 a3 a4 a5 : Value} {s : zS} {V : zV} {Q : zO → zH → Prop} (ht : s.tg a = 10) : zcall (d + 1) 184 [.ref a, a1, a2, a3, a4, a5] (s, V) Q = zwp (zcall d) 184 Q (zB 184 0) [.ref a, a1, a2, a3, a4, a5, zJ] [] (s, V) := zcall_in (by decide) rfl (zRc_t rfl rfl ht (by decide) (by decide))
theorem zc_185 {d : Nat} {a0 a1 : Value} {h : zH} {Q : zO → zH → Prop} : zcall (d + 1) 185 [a0, a1] h Q = zwp (zcall d) 185 Q (zB 185 0) [a0, a1] [] h := zcall_in (by decide) rfl (zRc_9 rfl rfl (by decide))
theorem zc_186 {d a : Nat} {a1 a2 a3 : Value} {s : zS} {V : zV} {Q : zO → zH → Prop} (ht : s.tg a = 10) : zcall (d + 1) 186 [.ref a, a1, a2, a3] (s, V) Q = zwp (zcall d) 186 Q (zB 186 0) [.ref a, a1, a2, a3] [] (s, V) := zcall_in (by decide) rfl (zRc_t rfl rfl ht (by decide) (by decide))
theorem zc_187 {d a : Nat} {s : zS} {V : zV} {Q : zO → zH → Prop} (ht : s.tg a = 10) : zcall (d + 1) 187 [.ref a] (s, V) Q = zwp (zcall d) 187 Q (zB 187 0) [.ref a, zJ, zJ] [] (s, V) := zcall_in (by decide) rfl (zRc_t rfl rfl ht (by decide) (by decide))
theorem zc_188 {d a : Nat} {a1 : Value} {s : zS} {V : zV} {Q : zO → zH → Prop} (ht : s.tg a = 10) : zcall (d + 1) 188 [.ref a, a1] (s, V) Q = zwp (zcall d) 188 Q (zB 188 0) [.ref a, a1] [] (s, V) := zcall_in (by decide) rfl (zRc_t rfl rfl ht (by decide) (by decide))
theorem zc_189 {d a : Nat} {a1 : Value} {s : zS} {V : zV} {Q : zO → zH → Prop} (ht : s.tg a = 10) : zcall (d + 1) 189 [.ref a, a1] (s, V) Q = zwp (zcall d) 189 Q (zB 189 0) [.ref a, a1] [] (s, V) := zcall_in (by decide) rfl (zRc_t rfl rfl ht (by decide) (by decide))
theorem zc_190 {d a : Nat} {a1 : Value} {s : zS} {V : zV} {Q : zO → zH → Prop} (ht : s.tg a = 10) : zcall (d + 1) 190 [.ref a, a1] (s, V) Q = zwp (zcall d) 190 Q (zB 190 0) [.ref a, a1] [] (s, V) := zcall_in (by decide) rfl (zRc_t rfl rfl ht (by decide) (by decide))
theorem zc_191 {d a : Nat} {a1 : Value} {s : zS} {V : zV} {Q : zO → zH → Prop} (ht : s.tg a = 10) : zcall (d + 1) 191 [.ref a, a1] (s, V) Q = zwp (zcall d) 191 Q (zB 191 0) [.ref a, a1, zJ, zJ] [] (s, V) := zcall_in (by decide) rfl (zRc_t rfl rfl ht (by decide) (by decide))
theorem zc_192 {d a : Nat} {a1 : Value} {s : zS} {V : zV} {Q : zO → zH → Prop} (ht : s.tg a = 10) : zcall (d + 1) 192 [.ref a, a1] (s, V) Q = zwp (zcall d) 192 Q (zB 192 0) [.ref a, a1] [] (s, V) := zcall_in (by decide) rfl (zRc_t rfl rfl ht (by decide) (by decide))
theorem zc_193 {d a : Nat} {a1 : Value} {s : zS} {V : zV} {Q : zO → zH → Prop} (ht : s.tg a = 10) : zcall (d + 1) 193 [.ref a, a1] (s, V) Q = zwp (zcall d) 193 Q (zB 193 0) [.ref a, a1] [] (s, V) := zcall_in (by decide) rfl (zRc_t rfl rfl ht (by decide) (by decide))
theorem zc_194 {d a : Nat} {a1 a2 a3 a4 a5 : Value} {s : zS} {V : zV} {Q : zO → zH → Prop} (ht : s.tg a = 10) : zcall (d + 1) 194 [.ref a, a1, a2, a3, a4, a5] (s, V) Q = zwp (zcall d) 194 Q (zB 194 0) [.ref a, a1, a2, a3, a4, a5] [] (s, V) := zcall_in (by decide) rfl (zRc_t rfl rfl ht (by decide) (by decide))
theorem zc_195 {d a : Nat} {a1 : Value} {s : zS} {V : zV} {Q : zO → zH → Prop} (ht : s.tg a = 10) : zcall (d + 1) 195 [.ref a, a1] (s, V) Q = zwp (zcall d) 195 Q (zB 195 0) [.ref a, a1, zJ, zJ] [] (s, V) := zcall_in (by decide) rfl (zRc_t rfl rfl ht (by decide) (by decide))
theorem zc_196 {d a : Nat} {a1 : Value} {s : zS} {V : zV} {Q : zO → zH → Prop} (ht : s.tg a = 10) : zcall (d + 1) 196 [.ref a, a1] (s, V) Q = zwp (zcall d) 196 Q (zB 196 0) [.ref a, a1, zJ] [] (s, V) := zcall_in (by decide) rfl (zRc_t rfl rfl ht (by decide) (by decide))
theorem zc_197 {d a : Nat} {a1 a2 a3 : Value} {s : zS} {V : zV} {Q : zO → zH → Prop} (ht : s.tg a = 10) : zcall (d + 1) 197 [.ref a, a1, a2, a3] (s, V) Q = zwp (zcall d) 197 Q (zB 197 0) [.ref a, a1, a2, a3] [] (s, V) := zcall_in (by decide) rfl (zRc_t rfl rfl ht (by decide) (by decide))
theorem zc_198 {d a : Nat} {a1 a2 : Value} {s : zS} {V : zV} {Q : zO → zH → Prop} (ht : s.tg a = 10) : zcall (d + 1) 198 [.ref a, a1, a2] (s, V) Q = zwp (zcall d) 198 Q (zB 198 0) [.ref a, a1, a2, zJ] [] (s, V) := zcall_in (by decide) rfl (zRc_t rfl rfl ht (by decide) (by decide))
theorem zc_199 {d a : Nat} {s : zS} {V : zV} {Q : zO → zH → Prop} (ht : s.tg a = 10) : zcall (d + 1) 199 [.ref a] (s, V) Q = zwp (zcall d) 199 Q (zB 199 0) [.ref a] [] (s, V) := zcall_in (by decide) rfl (zRc_t rfl rfl ht (by decide) (by decide))
theorem zc_200 {d a : Nat} {s : zS} {V : zV} {Q : zO → zH → Prop} (ht : s.tg a = 10) : zcall (d + 1) 200 [.ref a] (s, V) Q = zwp (zcall d) 200 Q (zB 200 0) [.ref a] [] (s, V) := zcall_in (by decide) rfl (zRc_t rfl rfl ht (by decide) (by decide))
theorem zc_201 {d a : Nat} {a1 a2 : Value} {s : zS} {V : zV} {Q : zO → zH → Prop} (ht : s.tg a = 10) : zcall (d + 1) 201 [.ref a, a1, a2] (s, V) Q = zwp (zcall d) 201 Q (zB 201 0) [.ref a, a1, a2] [] (s, V) := zcall_in (by decide) rfl (zRc_t rfl rfl ht (by decide) (by decide))
theorem zc_202 {d a : Nat} {a1 a2 : Value} {s : zS} {V : zV} {Q : zO → zH → Prop} (ht : s.tg a = 10) : zcall (d + 1) 202 [.ref a, a1, a2] (s, V) Q = zwp (zcall d) 202 Q (zB 202 0) [.ref a, a1, a2] [] (s, V) := zcall_in (by decide) rfl (zRc_t rfl rfl ht (by decide) (by decide))
theorem zc_203 {d a : Nat} {a1 a2 : Value} {s : zS} {V : zV} {Q : zO → zH → Prop} (ht : s.tg a = 10) : zcall (d + 1) 203 [.ref a, a1, a2] (s, V) Q = zwp (zcall d) 203 Q (zB 203 0) [.ref a, a1, a2] [] (s, V) := zcall_in (by decide) rfl (zRc_t rfl rfl ht (by decide) (by decide))
theorem zc_204 {d a : Nat} {a1 a2 : Value} {s : zS} {V : zV} {Q : zO → zH → Prop} (ht : s.tg a = 10) : zcall (d + 1) 204 [.ref a, a1, a2] (s, V) Q = zwp (zcall d) 204 Q (zB 204 0) [.ref a, a1, a2] [] (s, V) := zcall_in (by decide) rfl (zRc_t rfl rfl ht (by decide) (by decide))
theorem zc_205 {d a : Nat} {a1 a2 : Value} {s : zS} {V : zV} {Q : zO → zH → Prop} (ht : s.tg a = 10) : zcall (d + 1) 205 [.ref a, a1, a2] (s, V) Q = zwp (zcall d) 205 Q (zB 205 0) [.ref a, a1, a2] [] (s, V) := zcall_in (by decide) rfl (zRc_t rfl rfl ht (by decide) (by decide))
theorem zc_206 {d a : Nat} {a1 : Value} {s : zS} {V : zV} {Q : zO → zH → Prop} (ht : s.tg a = 10) : zcall (d + 1) 206 [.ref a, a1] (s, V) Q = zwp (zcall d) 206 Q (zB 206 0) [.ref a, a1] [] (s, V) := zcall_in (by decide) rfl (zRc_t rfl rfl ht (by decide) (by decide))
theorem zc_207 {d a : Nat} {s : zS} {V : zV} {Q : zO → zH → Prop} (ht : s.tg a = 10) : zcall (d + 1) 207 [.ref a] (s, V) Q = zwp (zcall d) 207 Q (zB 207 0) [.ref a, zJ, zJ, zJ, zJ] [] (s, V) := zcall_in (by decide) rfl (zRc_t rfl rfl ht (by decide) (by decide))
theorem zc_208 {d a : Nat} {a1 : Value} {s : zS} {V : zV} {Q : zO → zH → Prop} (ht : s.tg a = 10) : zcall (d + 1) 208 [.ref a, a1] (s, V) Q = zwp (zcall d) 208 Q (zB 208 0) [.ref a, a1] [] (s, V) := zcall_in (by decide) rfl (zRc_t rfl rfl ht (by decide) (by decide))
theorem zc_209 {d a : Nat} {a1 : Value} {s : zS} {V : zV} {Q : zO → zH → Prop} (ht : s.tg a = 10) : zcall (d + 1) 209 [.ref a, a1] (s, V) Q = zwp (zcall d) 209 Q (zB 209 0) [.ref a, a1] [] (s, V) := zcall_in (by decide) rfl (zRc_t rfl rfl ht (by decide) (by decide))
theorem zc_210 {d a : Nat} {a1 a2 a3 : Value} {s : zS} {V : zV} {Q : zO → zH → Prop} (ht : s.tg a = 10) : zcall (d + 1) 210 [.ref a, a1, a2, a3] (s, V) Q = zwp (zcall d) 210 Q (zB 210 0) [.ref a, a1, a2, a3] [] (s, V) := zcall_in (by decide) rfl (zRc_t rfl rfl ht (by decide) (by decide))
theorem zc_211 {d a : Nat} {s : zS} {V : zV} {Q : zO → zH → Prop} (ht : s.tg a = 10) : zcall (d + 1) 211 [.ref a] (s, V) Q = zwp (zcall d) 211 Q (zB 211 0) [.ref a, zJ] [] (s, V) := zcall_in (by decide) rfl (zRc_t rfl rfl ht (by decide) (by decide))
theorem zc_212 {d a : Nat} {a1 : Value} {s : zS} {V : zV} {Q : zO → zH → Prop} (ht : s.tg a = 10) : zcall (d + 1) 212 [.ref a, a1] (s, V) Q = zwp (zcall d) 212 Q (zB 212 0) [.ref a, a1] [] (s, V) := zcall_in (by decide) rfl (zRc_t rfl rfl ht (by decide) (by decide))
theorem zc_213 {d a : Nat} {s : zS} {V : zV} {Q : zO → zH → Prop} (ht : s.tg a = 10) : zcall (d + 1) 213 [.ref a] (s, V) Q = zwp (zcall d) 213 Q (zB 213 0) [.ref a, zJ, zJ] [] (s, V) := zcall_in (by decide) rfl (zRc_t rfl rfl ht (by decide) (by decide))
theorem zc_214 {d a : Nat} {a1 a2 : Value} {s : zS} {V : zV} {Q : zO → zH → Prop} (ht : s.tg a = 10) : zcall (d + 1) 214 [.ref a, a1, a2] (s, V) Q = zwp (zcall d) 214 Q (zB 214 0) [.ref a, a1, a2, zJ] [] (s, V) := zcall_in (by decide) rfl (zRc_t rfl rfl ht (by decide) (by decide))
theorem zc_215 {d a : Nat} {s : zS} {V : zV} {Q : zO → zH → Prop} (ht : s.tg a = 10) : zcall (d + 1) 215 [.ref a] (s, V) Q = zwp (zcall d) 215 Q (zB 215 0) [.ref a, zJ, zJ, zJ, zJ] [] (s, V) := zcall_in (by decide) rfl (zRc_t rfl rfl ht (by decide) (by decide))
theorem zc_216 {d a : Nat} {s : zS} {V : zV} {Q : zO → zH → Prop} (ht : s.tg a = 10) : zcall (d + 1) 216 [.ref a] (s, V) Q = zwp (zcall d) 216 Q (zB 216 0) [.ref a, zJ] [] (s, V) := zcall_in (by decide) rfl (zRc_t rfl rfl ht (by decide) (by decide))
theorem zc_217 {d a : Nat} {a1 a2 : Value} {s : zS} {V : zV} {Q : zO → zH → Prop} (ht : s.tg a = 10) : zcall (d + 1) 217 [.ref a, a1, a2] (s, V) Q = zwp (zcall d) 217 Q (zB 217 0) [.ref a, a1, a2, zJ, zJ, zJ] [] (s, V) := zcall_in (by decide) rfl (zRc_t rfl rfl ht (by decide) (by decide))
theorem zc_218 {d a : Nat} {a1 a2 : Value} {s : zS} {V : zV} {Q : zO → zH → Prop} (ht : s.tg a = 10) : zcall (d + 1) 218 [.ref a, a1, a2] (s, V) Q = zwp (zcall d) 218 Q (zB 218 0) [.ref a, a1, a2, zJ, zJ] [] (s, V) := zcall_in (by decide) rfl (zRc_t rfl rfl ht (by decide) (by decide))
theorem zc_219 {d a : Nat} {a1 : Value} {s : zS} {V : zV} {Q : zO → zH → Prop} (ht : s.tg a = 10) : zcall (d + 1) 219 [.ref a, a1] (s, V) Q = zwp (zcall d) 219 Q (zB 219 0) [.ref a, a1] [] (s, V) := zcall_in (by decide) rfl (zRc_t rfl rfl ht (by decide) (by decide))
theorem zc_220 {d a : Nat} {a1 a2 : Value} {s : zS} {V : zV} {Q : zO → zH → Prop} (ht : s.tg a = 10) : zcall (d + 1) 220 [.ref a, a1, a2] (s, V) Q = zwp (zcall d) 220 Q (zB 220 0) [.ref a, a1, a2] [] (s, V) := zcall_in (by decide) rfl (zRc_t rfl rfl ht (by decide) (by decide))
theorem zc_221 {d a : Nat} {a1 a2 : Value} {s : zS} {V : zV} {Q : zO → zH → Prop} (ht : s.tg a = 10) : zcall (d + 1) 221 [.ref a, a1, a2] (s, V) Q = zwp (zcall d) 221 Q (zB 221 0) [.ref a, a1, a2] [] (s, V) := zcall_in (by decide) rfl (zRc_t rfl rfl ht (by decide) (by decide))
theorem zc_222 {d a : Nat} {a1 : Value} {s : zS} {V : zV} {Q : zO → zH → Prop} (ht : s.tg a = 10) : zcall (d + 1) 222 [.ref a, a1] (s, V) Q = zwp (zcall d) 222 Q (zB 222 0) [.ref a, a1, zJ] [] (s, V) := zcall_in (by decide) rfl (zRc_t rfl rfl ht (by decide) (by decide))
theorem zc_223 {d a : Nat} {a1 : Value} {s : zS} {V : zV} {Q : zO → zH → Prop} (ht : s.tg a = 10) : zcall (d + 1) 223 [.ref a, a1] (s, V) Q = zwp (zcall d) 223 Q (zB 223 0) [.ref a, a1, zJ, zJ, zJ] [] (s, V) := zcall_in (by decide) rfl (zRc_t rfl rfl ht (by decide) (by decide))
theorem zc_224 {d a : Nat} {s : zS} {V : zV} {Q : zO → zH → Prop} (ht : s.tg a = 10) : zcall (d + 1) 224 [.ref a] (s, V) Q = zwp (zcall d) 224 Q (zB 224 0) [.ref a, zJ] [] (s, V) := zcall_in (by decide) rfl (zRc_t rfl rfl ht (by decide) (by decide))
theorem zc_225 {d a : Nat} {a1 : Value} {s : zS} {V : zV} {Q : zO → zH → Prop} (ht : s.tg a = 10) : zcall (d + 1) 225 [.ref a, a1] (s, V) Q = zwp (zcall d) 225 Q (zB 225 0) [.ref a, a1] [] (s, V) := zcall_in (by decide) rfl (zRc_t rfl rfl ht (by decide) (by decide))
theorem zc_226 {d a : Nat} {s : zS} {V : zV} {Q : zO → zH → Prop} (ht : s.tg a = 10) : zcall (d + 1) 226 [.ref a] (s, V) Q = zwp (zcall d) 226 Q (zB 226 0) [.ref a, zJ, zJ] [] (s, V) := zcall_in (by decide) rfl (zRc_t rfl rfl ht (by decide) (by decide))
theorem zc_227 {d a : Nat} {s : zS} {V : zV} {Q : zO → zH → Prop} (ht : s.tg a = 10) : zcall (d + 1) 227 [.ref a] (s, V) Q = zwp (zcall d) 227 Q (zB 227 0) [.ref a] [] (s, V) := zcall_in (by decide) rfl (zRc_t rfl rfl ht (by decide) (by decide))
theorem zc_228 {d a : Nat} {s : zS} {V : zV} {Q : zO → zH → Prop} (ht : s.tg a = 10) : zcall (d + 1) 228 [.ref a] (s, V) Q = zwp (zcall d) 228 Q (zB 228 0) [.ref a, zJ, zJ, zJ] [] (s, V) := zcall_in (by decide) rfl (zRc_t rfl rfl ht (by decide) (by decide))
theorem zc_229 {d a : Nat} {s : zS} {V : zV} {Q : zO → zH → Prop} (ht : s.tg a = 10) : zcall (d + 1) 229 [.ref a] (s, V) Q = zwp (zcall d) 229 Q (zB 229 0) [.ref a, zJ, zJ] [] (s, V) := zcall_in (by decide) rfl (zRc_t rfl rfl ht (by decide) (by decide))
theorem zc_230 {d a : Nat} {a1 a2 : Value} {s : zS} {V : zV} {Q : zO → zH → Prop} (ht : s.tg a = 10) : zcall (d + 1) 230 [.ref a, a1, a2] (s, V) Q = zwp (zcall d) 230 Q (zB 230 0) [.ref a, a1, a2, zJ, zJ, zJ, zJ] [] (s, V) := zcall_in (by decide) rfl (zRc_t rfl rfl ht (by decide) (by decide))
theorem zc_231 {d a : Nat} {s : zS} {V : zV} {Q : zO → zH → Prop} (ht : s.tg a = 10) : zcall (d + 1) 231 [.ref a] (s, V) Q = zwp (zcall d) 231 Q (zB 231 0) [.ref a, zJ, zJ, zJ, zJ, zJ] [] (s, V) := zcall_in (by decide) rfl (zRc_t rfl rfl ht (by decide) (by decide))
theorem zc_232 {d a : Nat} {a1 : Value} {s : zS} {V : zV} {Q : zO → zH → Prop} (ht : s.tg a = 10) : zcall (d + 1) 232 [.ref a, a1] (s, V) Q = zwp (zcall d) 232 Q (zB 232 0) [.ref a, a1] [] (s, V) := zcall_in (by decide) rfl (zRc_t rfl rfl ht (by decide) (by decide))
theorem zc_233 {d a : Nat} {a1 : Value} {s : zS} {V : zV} {Q : zO → zH → Prop} (ht : s.tg a = 10) : zcall (d + 1) 233 [.ref a, a1] (s, V) Q = zwp (zcall d) 233 Q (zB 233 0) [.ref a, a1] [] (s, V) := zcall_in (by decide) rfl (zRc_t rfl rfl ht (by decide) (by decide))
theorem zc_234 {d a : Nat} {a1 : Value} {s : zS} {V : zV} {Q : zO → zH → Prop} (ht : s.tg a = 10) : zcall (d + 1) 234 [.ref a, a1] (s, V) Q = zwp (zcall d) 234 Q (zB 234 0) [.ref a, a1] [] (s, V) := zcall_in (by decide) rfl (zRc_t rfl rfl ht (by decide) (by decide))
theorem zc_235 {d a : Nat} {s : zS} {V : zV} {Q : zO → zH → Prop} (ht : s.tg a = 10) : zcall (d + 1) 235 [.ref a] (s, V) Q = zwp (zcall d) 235 Q (zB 235 0) [.ref a] [] (s, V) := zcall_in (by decide) rfl (zRc_t rfl rfl ht (by decide) (by decide))
theorem zc_236 {d a : Nat} {a1 : Value} {s : zS} {V : zV} {Q : zO → zH → Prop} (ht : s.tg a = 10) : zcall (d + 1) 236 [.ref a, a1] (s, V) Q = zwp (zcall d) 236 Q (zB 236 0) [.ref a, a1, zJ, zJ] [] (s, V) := zcall_in (by decide) rfl (zRc_t rfl rfl ht (by decide) (by decide))
theorem zc_237 {d a : Nat} {a1 : Value} {s : zS} {V : zV} {Q : zO → zH → Prop} (ht : s.tg a = 10) : zcall (d + 1) 237 [.ref a, a1] (s, V) Q = zwp (zcall d) 237 Q (zB 237 0) [.ref a, a1] [] (s, V) := zcall_in (by decide) rfl (zRc_t rfl rfl ht (by decide) (by decide))
theorem zc_238 {d a : Nat} {a1 : Value} {s : zS} {V : zV} {Q : zO → zH → Prop} (ht : s.tg a = 10) : zcall (d + 1) 238 [.ref a, a1] (s, V) Q = zwp (zcall d) 238 Q (zB 238 0) [.ref a, a1, zJ] [] (s, V) := zcall_in (by decide) rfl (zRc_t rfl rfl ht (by decide) (by decide))
theorem zc_239 {d a : Nat} {a1 a2 : Value} {s : zS} {V : zV} {Q : zO → zH → Prop} (ht : s.tg a = 10) : zcall (d + 1) 239 [.ref a, a1, a2] (s, V) Q = zwp (zcall d) 239 Q (zB 239 0) [.ref a, a1, a2, zJ, zJ, zJ] [] (s, V) := zcall_in (by decide) rfl (zRc_t rfl rfl ht (by decide) (by decide))
theorem zc_240 {d a : Nat} {a1 : Value} {s : zS} {V : zV} {Q : zO → zH → Prop} (ht : s.tg a = 10) : zcall (d + 1) 240 [.ref a, a1] (s, V) Q = zwp (zcall d) 240 Q (zB 240 0) [.ref a, a1, zJ, zJ, zJ, zJ, zJ, zJ] [] (s, V) := zcall_in (by decide) rfl (zRc_t rfl rfl ht (by decide) (by decide))
theorem zc_241 {d a : Nat} {a1 : Value} {s : zS} {V : zV} {Q : zO → zH → Prop} (ht : s.tg a = 10) : zcall (d + 1) 241 [.ref a, a1] (s, V) Q = zwp (zcall d) 241 Q (zB 241 0) [.ref a, a1] [] (s, V) := zcall_in (by decide) rfl (zRc_t rfl rfl ht (by decide) (by decide))
theorem zc_242 {d a : Nat} {a1 a2 : Value} {s : zS} {V : zV} {Q : zO → zH → Prop} (ht : s.tg a = 10) : zcall (d + 1) 242 [.ref a, a1, a2] (s, V) Q = zwp (zcall d) 242 Q (zB 242 0) [.ref a, a1, a2, zJ] [] (s, V) := zcall_in (by decide) rfl (zRc_t rfl rfl ht (by decide) (by decide))
theorem zc_243 {d a : Nat} {a1 : Value} {s : zS} {V : zV} {Q : zO → zH → Prop} (ht : s.tg a = 10) : zcall (d + 1) 243 [.ref a, a1] (s, V) Q = zwp (zcall d) 243 Q (zB 243 0) [.ref a, a1, zJ, zJ] [] (s, V) := zcall_in (by decide) rfl (zRc_t rfl rfl ht (by decide) (by decide))
theorem zc_244 {d a : Nat} {a1 a2 a3 : Value} {s : zS} {V : zV} {Q : zO → zH → Prop} (ht : s.tg a = 10) : zcall (d + 1) 244 [.ref a, a1, a2, a3] (s, V) Q = zwp (zcall d) 244 Q (zB 244 0) [.ref a, a1, a2, a3, zJ] [] (s, V) := zcall_in (by decide) rfl (zRc_t rfl rfl ht (by decide) (by decide))
theorem zc_245 {d a : Nat} {s : zS} {V : zV} {Q : zO → zH → Prop} (ht : s.tg a = 10) : zcall (d + 1) 245 [.ref a] (s, V) Q = zwp (zcall d) 245 Q (zB 245 0) [.ref a, zJ, zJ, zJ, zJ, zJ] [] (s, V) := zcall_in (by decide) rfl (zRc_t rfl rfl ht (by decide) (by decide))
theorem zc_246 {d a : Nat} {s : zS} {V : zV} {Q : zO → zH → Prop} (ht : s.tg a = 10) : zcall (d + 1) 246 [.ref a] (s, V) Q = zwp (zcall d) 246 Q (zB 246 0) [.ref a] [] (s, V) := zcall_in (by decide) rfl (zRc_t rfl rfl ht (by decide) (by decide))
theorem zc_247 {d a : Nat} {a1 : Value} {s : zS} {V : zV} {Q : zO → zH → Prop} (ht : s.tg a = 10) : zcall (d + 1) 247 [.ref a, a1] (s, V) Q = zwp (zcall d) 247 Q (zB 247 0) [.ref a, a1, zJ, zJ, zJ, zJ, zJ, zJ] [] (s, V) := zcall_in (by decide) rfl (zRc_t rfl rfl ht (by decide) (by decide))
theorem zc_248 {d a : Nat} {a1 : Value} {s : zS} {V : zV} {Q : zO → zH → Prop} (ht : s.tg a = 10) : zcall (d + 1) 248 [.ref a, a1] (s, V) Q = zwp (zcall d) 248 Q (zB 248 0) [.ref a, a1, zJ, zJ] [] (s, V) := zcall_in (by decide) rfl (zRc_t rfl rfl ht (by decide) (by decide))
theorem zc_249 {d a : Nat} {a1 a2 : Value} {s : zS} {V : zV} {Q : zO → zH → Prop} (ht : s.tg a = 10) : zcall (d + 1) 249 [.ref a, a1, a2] (s, V) Q = zwp (zcall d) 249 Q (zB 249 0) [.ref a, a1, a2] [] (s, V) := zcall_in (by decide) rfl (zRc_t rfl rfl ht (by decide) (by decide))
theorem zc_250 {d a : Nat} {a1 : Value} {s : zS} {V : zV} {Q : zO → zH → Prop} (ht : s.tg a = 10) : zcall (d + 1) 250 [.ref a, a1] (s, V) Q = zwp (zcall d) 250 Q (zB 250 0) [.ref a, a1, zJ] [] (s, V) := zcall_in (by decide) rfl (zRc_t rfl rfl ht (by decide) (by decide))
theorem zc_251 {d : Nat} {a0 : Value} {h : zH} {Q : zO → zH → Prop} : zcall (d + 1) 251 [a0] h Q = zwp (zcall d) 251 Q (zB 251 0) [a0, zJ, zJ] [] h := zcall_in (by decide) rfl (zRc_9 rfl rfl (by decide))
theorem zc_252 {d a : Nat} {a1 : Value} {s : zS} {V : zV} {Q : zO → zH → Prop} (ht : s.tg a = 10) : zcall (d + 1) 252 [.ref a, a1] (s, V) Q = zwp (zcall d) 252 Q (zB 252 0) [.ref a, a1, zJ, zJ] [] (s, V) := zcall_in (by decide) rfl (zRc_t rfl rfl ht (by decide) (by decide))
theorem zc_253 {d a : Nat} {a1 a2 a3 : Value} {s : zS} {V : zV} {Q : zO → zH → Prop} (ht : s.tg a = 10) : zcall (d + 1) 253 [.ref a, a1, a2, a3] (s, V) Q = zwp (zcall d) 253 Q (zB 253 0) [.ref a, a1, a2, a3, zJ, zJ, zJ] [] (s, V) := zcall_in (by decide) rfl (zRc_t rfl rfl ht (by decide) (by decide))
theorem zc_254 {d a : Nat} {a1 a2 : Value} {s : zS} {V : zV} {Q : zO → zH → Prop} (ht : s.tg a = 10) : zcall (d + 1) 254 [.ref a, a1, a2] (s, V) Q = zwp (zcall d) 254 Q (zB 254 0) [.ref a, a1, a2] [] (s, V) := zcall_in (by decide) rfl (zRc_t rfl rfl ht (by decide) (by decide))
theorem zc_255 {d a : Nat} {a1 a2 a3 : Value} {s : zS} {V : zV} {Q : zO → zH → Prop} (ht : s.tg a = 10) : zcall (d + 1) 255 [.ref a, a1, a2, a3] (s, V) Q = zwp (zcall d) 255 Q (zB 255 0) [.ref a, a1, a2, a3] [] (s, V) := zcall_in (by decide) rfl (zRc_t rfl rfl ht (by decide) (by decide))
theorem zc_256 {d a : Nat} {a1 : Value} {s : zS} {V : zV} {Q : zO → zH → Prop} (ht : s.tg a = 10) : zcall (d + 1) 256 [.ref a, a1] (s, V) Q = zwp (zcall d) 256 Q (zB 256 0) [.ref a, a1, zJ, zJ, zJ, zJ, zJ, zJ, zJ] [] (s, V) := zcall_in (by decide) rfl (zRc_t rfl rfl ht (by decide) (by decide))
theorem zc_257 {d a : Nat} {a1 : Value} {s : zS} {V : zV} {Q : zO → zH → Prop} (ht : s.tg a = 10) : zcall (d + 1) 257 [.ref a, a1] (s, V) Q = zwp (zcall d) 257 Q (zB 257 0) [.ref a, a1] [] (s, V) := zcall_in (by decide) rfl (zRc_t rfl rfl ht (by decide) (by decide))
theorem zc_258 {d a : Nat} {a1 : Value} {s : zS} {V : zV} {Q : zO → zH → Prop} (ht : s.tg a = 10) : zcall (d + 1) 258 [.ref a, a1] (s, V) Q = zwp (zcall d) 258 Q (zB 258 0) [.ref a, a1, zJ, zJ, zJ, zJ, zJ, zJ] [] (s, V) := zcall_in (by decide) rfl (zRc_t rfl rfl ht (by decide) (by decide))
theorem zc_259 {d a : Nat} {a1 : Value} {s : zS} {V : zV} {Q : zO → zH → Prop} (ht : s.tg a = 10) : zcall (d + 1) 259 [.ref a, a1] (s, V) Q = zwp (zcall d) 259 Q (zB 259 0) [.ref a, a1] [] (s, V) := zcall_in (by decide) rfl (zRc_t rfl rfl ht (by decide) (by decide))
theorem zc_260 {d a : Nat} {s : zS} {V : zV} {Q : zO → zH → Prop} (ht : s.tg a = 10) : zcall (d + 1) 260 [.ref a] (s, V) Q = zwp (zcall d) 260 Q (zB 260 0) [.ref a, zJ] [] (s, V) := zcall_in (by decide) rfl (zRc_t rfl rfl ht (by decide) (by decide))
theorem zc_261 {d a : Nat} {a1 a2 : Value} {s : zS} {V : zV} {Q : zO → zH → Prop} (ht : s.tg a = 10) : zcall (d + 1) 261 [.ref a, a1, a2] (s, V) Q = zwp (zcall d) 261 Q (zB 261 0) [.ref a, a1, a2] [] (s, V) := zcall_in (by decide) rfl (zRc_t rfl rfl ht (by decide) (by decide))
theorem zc_262 {d : Nat} {a0 : Value} {h : zH} {Q : zO → zH → Prop} : zcall (d + 1) 262 [a0] h Q = zwp (zcall d) 262 Q (zB 262 0) [a0] [] h := zcall_in (by decide) rfl (zRc_9 rfl rfl (by decide))
theorem zc_263 {d a : Nat} {a1 : Value} {s : zS} {V : zV} {Q : zO → zH → Prop} (ht : s.tg a = 10) : zcall (d + 1) 263 [.ref a, a1] (s, V) Q = zwp (zcall d) 263 Q (zB 263 0) [.ref a, a1, zJ] [] (s, V) := zcall_in (by decide) rfl (zRc_t rfl rfl ht (by decide) (by decide))
theorem zc_264 {d a : Nat} {s : zS} {V : zV} {Q : zO → zH → Prop} (ht : s.tg a = 10) : zcall (d + 1) 264 [.ref a] (s, V) Q = zwp (zcall d) 264 Q (zB 264 0) [.ref a, zJ, zJ] [] (s, V) := zcall_in (by decide) rfl (zRc_t rfl rfl ht (by decide) (by decide))
theorem zc_265 {d a : Nat} {s : zS} {V : zV} {Q : zO → zH → Prop} (ht : s.tg a = 10) : zcall (d + 1) 265 [.ref a] (s, V) Q = zwp (zcall d) 265 Q (zB 265 0) [.ref a] [] (s, V) := zcall_in (by decide) rfl (zRc_t rfl rfl ht (by decide) (by decide))
theorem zc_266 {d a : Nat} {s : zS} {V : zV} {Q : zO → zH → Prop} (ht : s.tg a = 10) : zcall (d + 1) 266 [.ref a] (s, V) Q = zwp (zcall d) 266 Q (zB 266 0) [.ref a, zJ, zJ] [] (s, V) := zcall_in (by decide) rfl (zRc_t rfl rfl ht (by decide) (by decide))
theorem zc_267 {d a : Nat} {s : zS} {V : zV} {Q : zO → zH → Prop} (ht : s.tg a = 10) : zcall (d + 1) 267 [.ref a] (s, V) Q = zwp (zcall d) 267 Q (zB 267 0) [.ref a, zJ] [] (s, V) := zcall_in (by decide) rfl (zRc_t rfl rfl ht (by decide) (by decide))
theorem zc_268 {d a : Nat} {a1 : Value} {s : zS} {V : zV} {Q : zO → zH → Prop} (ht : s.tg a = 10) : zcall (d + 1) 268 [.ref a, a1] (s, V) Q = zwp (zcall d) 268 Q (zB 268 0) [.ref a, a1] [] (s, V) := zcall_in (by decide) rfl (zRc_t rfl rfl ht (by decide) (by decide))
theorem zc_269 {d a : Nat} {s : zS} {V : zV} {Q : zO → zH → Prop} (ht : s.tg a = 10) : zcall (d + 1) 269 [.ref a] (s, V) Q = zwp (zcall d) 269 Q (zB 269 0) [.ref a, zJ, zJ] [] (s, V) := zcall_in (by decide) rfl (zRc_t rfl rfl ht (by decide) (by decide))
theorem zc_270 {d : Nat} {a0 a1 a2 : Value} {h : zH} {Q : zO → zH → Prop} : zcall (d + 1) 270 [a0, a1, a2] h Q = zwp (zcall d) 270 Q (zB 270 0) [a0, a1, a2, zJ] [] h := zcall_in (by decide) rfl (zRc_9 rfl rfl (by decide))
theorem zc_271 {d : Nat} {a0 a1 a2 a3 a4 a5 a6 : Value} {h : zH} {Q : zO → zH → Prop} : zcall (d + 1) 271 [a0, a1, a2, a3, a4, a5, a6] h Q = zwp (zcall d) 271 Q (zB 271 0) [a0, a1, a2, a3, a4, a5, a6, zJ] [] h := zcall_in (by decide) rfl (zRc_9 rfl rfl (by decide))
theorem zc_272 {d : Nat} {a0 a1 a2 : Value} {h : zH} {Q : zO → zH → Prop} : zcall (d + 1) 272 [a0, a1, a2] h Q = zwp (zcall d) 272 Q (zB 272 0) [a0, a1, a2, zJ] [] h := zcall_in (by decide) rfl (zRc_9 rfl rfl (by decide))
theorem zc_273 {d : Nat} {a0 a1 a2 a3 a4 : Value} {h : zH} {Q : zO → zH → Prop} : zcall (d + 1) 273 [a0, a1, a2, a3, a4] h Q = zwp (zcall d) 273 Q (zB 273 0) [a0, a1, a2, a3, a4, zJ] [] h := zcall_in (by decide) rfl (zRc_9 rfl rfl (by decide))
theorem zc_274 {d : Nat} {a0 a1 a2 a3 : Value} {h : zH} {Q : zO → zH → Prop} : zcall (d + 1) 274 [a0, a1, a2, a3] h Q = zwp (zcall d) 274 Q (zB 274 0) [a0, a1, a2, a3, zJ] [] h := zcall_in (by decide) rfl (zRc_9 rfl rfl (by decide))
theorem zc_275 {d : Nat} {a0 a1 a2 a3 : Value} {h : zH} {Q : zO → zH → Prop} : zcall (d + 1) 275 [a0, a1, a2, a3] h Q = zwp (zcall d) 275 Q (zB 275 0) [a0, a1, a2, a3, zJ] [] h := zcall_in (by decide) rfl (zRc_9 rfl rfl (by decide))
theorem zc_276 {d : Nat} {a0 a1 a2 a3 : Value} {h : zH} {Q : zO → zH → Prop} : zcall (d + 1) 276 [a0, a1, a2, a3] h Q = zwp (zcall d) 276 Q (zB 276 0) [a0, a1, a2, a3, zJ] [] h := zcall_in (by decide) rfl (zRc_9 rfl rfl (by decide))
theorem zc_277 {d : Nat} {a0 a1 a2 a3 : Value} {h : zH} {Q : zO → zH → Prop} : zcall (d + 1) 277 [a0, a1, a2, a3] h Q = zwp (zcall d) 277 Q (zB 277 0) [a0, a1, a2, a3, zJ] [] h := zcall_in (by decide) rfl (zRc_9 rfl rfl (by decide))
theorem zc_278 {d : Nat} {a0 a1 a2 : Value} {h : zH} {Q : zO → zH → Prop} : zcall (d + 1) 278 [a0, a1, a2] h Q = zwp (zcall d) 278 Q (zB 278 0) [a0, a1, a2, zJ] [] h := zcall_in (by decide) rfl (zRc_9 rfl rfl (by decide))
theorem zc_279 {d : Nat} {a0 a1 a2 a3 : Value} {h : zH} {Q : zO → zH → Prop} : zcall (d + 1) 279 [a0, a1, a2, a3] h Q = zwp (zcall d) 279 Q (zB 279 0) [a0, a1, a2, a3, zJ] [] h := zcall_in (by decide) rfl (zRc_9 rfl rfl (by decide))
theorem zc_280 {d : Nat} {a0 a1 a2 : Value} {h : zH} {Q : zO → zH → Prop} : zcall (d + 1) 280 [a0, a1, a2] h Q = zwp (zcall d) 280 Q (zB 280 0) [a0, a1, a2, zJ] [] h := zcall_in (by decide) rfl (zRc_9 rfl rfl (by decide))
theorem zc_281 {d : Nat} {a0 a1 a2 a3 : Value} {h : zH} {Q : zO → zH → Prop} : zcall (d + 1) 281 [a0, a1, a2, a3] h Q = zwp (zcall d) 281 Q (zB 281 0) [a0, a1, a2, a3, zJ] [] h := zcall_in (by decide) rfl (zRc_9 rfl rfl (by decide))
theorem zc_282 {d : Nat} {a0 a1 a2 a3 : Value} {h : zH} {Q : zO → zH → Prop} : zcall (d + 1) 282 [a0, a1, a2, a3] h Q = zwp (zcall d) 282 Q (zB 282 0) [a0, a1, a2, a3, zJ] [] h := zcall_in (by decide) rfl (zRc_9 rfl rfl (by decide))
theorem zc_283 {d : Nat} {a0 a1 a2 : Value} {h : zH} {Q : zO → zH → Prop} : zcall (d + 1) 283 [a0, a1, a2] h Q = zwp (zcall d) 283 Q (zB 283 0) [a0, a1, a2, zJ] [] h := zcall_in (by decide) rfl (zRc_9 rfl rfl (by decide))
theorem zc_284 {d : Nat} {a0 a1 a2 : Value} {h : zH} {Q : zO → zH → Prop} : zcall (d + 1) 284 [a0, a1, a2] h Q = zwp (zcall d) 284 Q (zB 284 0) [a0, a1, a2, zJ] [] h := zcall_in (by decide) rfl (zRc_9 rfl rfl (by decide))
theorem zc_285 {d : Nat} {a0 a1 a2 : Value} {h : zH} {Q : zO → zH → Prop} : zcall (d + 1) 285 [a0, a1, a2] h Q = zwp (zcall d) 285 Q (zB 285 0) [a0, a1, a2, zJ] [] h := zcall_in (by decide) rfl (zRc_9 rfl rfl (by decide))
theorem zc_286 {d : Nat} {a0 a1 a2 : Value} {h : zH} {Q : zO → zH → Prop} : zcall (d + 1) 286 [a0, a1, a2] h Q = zwp (zcall d) 286 Q (zB 286 0) [a0, a1, a2, zJ] [] h := zcall_in (by decide) rfl (zRc_9 rfl rfl (by decide))
theorem zc_287 {d : Nat} {a0 a1 a2 : Value} {h : zH} {Q : zO → zH → Prop} : zcall (d + 1) 287 [a0, a1, a2] h Q = zwp (zcall d) 287 Q (zB 287 0) [a0, a1, a2, zJ] [] h := zcall_in (by decide) rfl (zRc_9 rfl rfl (by decide))
theorem zc_288 {d : Nat} {a0 a1 a2 : Value} {h : zH} {Q : zO → zH → Prop} : zcall (d + 1) 288 [a0, a1, a2] h Q = zwp (zcall d) 288 Q (zB 288 0) [a0, a1, a2, zJ] [] h := zcall_in (by decide) rfl (zRc_9 rfl rfl (by decide))
theorem zc_289 {d : Nat} {a0 a1 a2 : Value} {h : zH} {Q : zO → zH → Prop} : zcall (d + 1) 289 [a0, a1, a2] h Q = zwp (zcall d) 289 Q (zB 289 0) [a0, a1, a2, zJ] [] h := zcall_in (by decide) rfl (zRc_9 rfl rfl (by decide))
theorem zc_290 {d : Nat} {a0 a1 a2 : Value} {h : zH} {Q : zO → zH → Prop} : zcall (d + 1) 290 [a0, a1, a2] h Q = zwp (zcall d) 290 Q (zB 290 0) [a0, a1, a2, zJ] [] h := zcall_in (by decide) rfl (zRc_9 rfl rfl (by decide))
theorem zc_291 {d : Nat} {a0 a1 a2 a3 : Value} {h : zH} {Q : zO → zH → Prop} : zcall (d + 1) 291 [a0, a1, a2, a3] h Q = zwp (zcall d) 291 Q (zB 291 0) [a0, a1, a2, a3, zJ] [] h := zcall_in (by decide) rfl (zRc_9 rfl rfl (by decide))
theorem zc_292 {d : Nat} {a0 a1 a2 a3 : Value} {h : zH} {Q : zO → zH → Prop} : zcall (d + 1) 292 [a0, a1, a2, a3] h Q = zwp (zcall d) 292 Q (zB 292 0) [a0, a1, a2, a3, zJ] [] h := zcall_in (by decide) rfl (zRc_9 rfl rfl (by decide))
theorem zc_293 {d : Nat} {a0 a1 a2 a3 : Value} {h : zH} {Q : zO → zH → Prop} : zcall (d + 1) 293 [a0, a1, a2, a3] h Q = zwp (zcall d) 293 Q (zB 293 0) [a0, a1, a2, a3, zJ] [] h := zcall_in (by decide) rfl (zRc_9 rfl rfl (by decide))
theorem zc_294 {d : Nat} {a0 a1 a2 a3 a4 : Value} {h : zH} {Q : zO → zH → Prop} : zcall (d + 1) 294 [a0, a1, a2, a3, a4] h Q = zwp (zcall d) 294 Q (zB 294 0) [a0, a1, a2, a3, a4, zJ] [] h := zcall_in (by decide) rfl (zRc_9 rfl rfl (by decide))
theorem zc_295 {d : Nat} {a0 a1 a2 : Value} {h : zH} {Q : zO → zH → Prop} : zcall (d + 1) 295 [a0, a1, a2] h Q = zwp (zcall d) 295 Q (zB 295 0) [a0, a1, a2, zJ] [] h := zcall_in (by decide) rfl (zRc_9 rfl rfl (by decide))
theorem zc_296 {d : Nat} {a0 a1 a2 : Value} {h : zH} {Q : zO → zH → Prop} : zcall (d + 1) 296 [a0, a1, a2] h Q = zwp (zcall d) 296 Q (zB 296 0) [a0, a1, a2, zJ] [] h := zcall_in (by decide) rfl (zRc_9 rfl rfl (by decide))
theorem zc_297 {d : Nat} {a0 a1 a2 : Value} {h : zH} {Q : zO → zH → Prop} : zcall (d + 1) 297 [a0, a1, a2] h Q = zwp (zcall d) 297 Q (zB 297 0) [a0, a1, a2, zJ] [] h := zcall_in (by decide) rfl (zRc_9 rfl rfl (by decide))
theorem zc_298 {d : Nat} {a0 a1 : Value} {h : zH} {Q : zO → zH → Prop} : zcall (d + 1) 298 [a0, a1] h Q = zwp (zcall d) 298 Q (zB 298 0) [a0, a1, zJ] [] h := zcall_in (by decide) rfl (zRc_9 rfl rfl (by decide))
theorem zc_300 {d : Nat} {a0 a1 : Value} {h : zH} {Q : zO → zH → Prop} : zcall (d + 1) 300 [a0, a1] h Q = zwp (zcall d) 300 Q (zB 300 0) [a0, a1] [] h := zcall_in (by decide) rfl (zRc_9 rfl rfl (by decide))
theorem zc_301 {d : Nat} {a0 a1 : Value} {h : zH} {Q : zO → zH → Prop} : zcall (d + 1) 301 [a0, a1] h Q = zwp (zcall d) 301 Q (zB 301 0) [a0, a1] [] h := zcall_in (by decide) rfl (zRc_9 rfl rfl (by decide))
theorem zc_302 {d : Nat} {a0 : Value} {h : zH} {Q : zO → zH → Prop} : zcall (d + 1) 302 [a0] h Q = zwp (zcall d) 302 Q (zB 302 0) [a0] [] h := zcall_in (by decide) rfl (zRc_9 rfl rfl (by decide))
theorem zc_303 {d : Nat} {a0 : Value} {h : zH} {Q : zO → zH → Prop} : zcall (d + 1) 303 [a0] h Q = zwp (zcall d) 303 Q (zB 303 0) [a0] [] h := zcall_in (by decide) rfl (zRc_9 rfl rfl (by decide))
theorem zc_304 {d : Nat} {a0 : Value} {h : zH} {Q : zO → zH → Prop} : zcall (d + 1) 304 [a0] h Q = zwp (zcall d) 304 Q (zB 304 0) [a0] [] h := zcall_in (by decide) rfl (zRc_9 rfl rfl (by decide))
theorem zc_305 {d a : Nat} {a1 a2 a3 a4 a5 : Value} {s : zS} {V : zV} {Q : zO → zH → Prop} (ht : s.tg a = 0) : zcall (d + 1) 305 [.ref a, a1, a2, a3, a4, a5] (s, V) Q = zwp (zcall d) 305 Q (zB 305 0) [.ref a, a1, a2, a3, a4, a5, zJ, zJ, zJ] [] (s, V) := zcall_in (by decide) rfl (zRc_t rfl rfl ht (by decide) (by decide))
theorem zc_306 {d a : Nat} {a1 a2 a3 a4 a5 : Value} {s : zS} {V : zV} {Q : zO → zH → Prop} (ht : s.tg a = 5) : zcall (d + 1) 306 [.ref a, a1, a2, a3, a4, a5] (s, V) Q = zwp (zcall d) 306 Q (zB 306 0) [.ref a, a1, a2, a3, a4, a5, zJ, zJ, zJ] [] (s, V) := zcall_in (by decide) rfl (zRc_t rfl rfl ht (by decide) (by decide))
