/-! THE LAW, 11: its loop -/
def zPS : List (Int × Int) := [(0, 2), (1, 5), (2, 8), (3, 11), (4, 14), (5, 17), (6, 18), (7, 19), (8, 22), (9, 25), (10, 30), (11, 31), (12, 34), (13, 39), (14, 42), (15, 45), (16, 48), (17, 51), (18, 54), (19, 55), (20, 56), (21, 59), (22, 62), (23, 65), (24, 66), (25, 69), (26, 72), (27, 75), (28, 78), (29, 79), (30, 80), (31, 85), (32, 88), (33, 91), (34, 94), (35, 97), (36, 100), (37, 101), (38, 102), (39, 105)]
section
variable {d N : Nat} {s : zS} {V : zV} {σ : zσ} {X : Int → Int}
theorem zand_i {a b : Int} : -2147483648 ≤ zand a b ∧ zand a b < 2147483648 := by
  unfold zand
  have h1 := Int32.le_toInt (Int32.ofInt a &&& Int32.ofInt b)
  have h2 := Int32.toInt_lt (Int32.ofInt a &&& Int32.ofInt b)
  exact ⟨by omega, by omega⟩
theorem k_switch (hd : 100 ≤ d) (hw : zWc σ s V) (hm : zWm σ s V) (ho : zOK σ) (hX : ∀ j, zI32 (X j)) (hS : zSc N X s V) (hN : N ≤ 3072) {i : Int} (i0 : 0 ≤ i) (i1 : i + 6 ≤ N) (hq : zLnx d N X i s) {a b : Value} {w : Int} : zwp (zcall d) 299 zLawQ (zB 299 (zsw zPS 106 w)) [.ref 4, .ref 5, .ref 164, .ref 191, zi i, a, b] [] (s, V) := by
  by_cases c0 : w = 0
  · rw [show zsw zPS 106 w = 2 by subst c0; decide]
    exact k_addService hd hw hm ho hX hS hN i0 i1 hq
  by_cases c1 : w = 1
  · rw [show zsw zPS 106 w = 5 by subst c1; decide]
    exact k_addCall hd hw hm ho hX hS hN i0 i1 hq
  by_cases c2 : w = 2
  · rw [show zsw zPS 106 w = 8 by subst c2; decide]
    exact k_removeCall hd hw hm ho hX hS hN i0 i1 hq
  by_cases c3 : w = 3
  · rw [show zsw zPS 106 w = 11 by subst c3; decide]
    exact k_set hd hw hm ho hX hS hN i0 i1 hq
  by_cases c4 : w = 4
  · rw [show zsw zPS 106 w = 14 by subst c4; decide]
    exact k_setLimit hd hw hm ho hX hS hN i0 i1 hq
  by_cases c5 : w = 5
  · rw [show zsw zPS 106 w = 17 by subst c5; decide]
    exact k_services hd hw hm ho hX hS hN i0 i1 hq
  by_cases c6 : w = 6
  · rw [show zsw zPS 106 w = 18 by subst c6; decide]
    exact k_calls hd hw hm ho hX hS hN i0 i1 hq
  by_cases c7 : w = 7
  · rw [show zsw zPS 106 w = 19 by subst c7; decide]
    exact k_service hd hw hm ho hX hS hN i0 i1 hq
  by_cases c8 : w = 8
  · rw [show zsw zPS 106 w = 22 by subst c8; decide]
    exact k_call hd hw hm ho hX hS hN i0 i1 hq
  by_cases c9 : w = 9
  · rw [show zsw zPS 106 w = 25 by subst c9; decide]
    exact k_depends hd hw hm ho hX hS hN i0 i1 hq
  by_cases c10 : w = 10
  · rw [show zsw zPS 106 w = 30 by subst c10; decide]
    exact k_order hd hw hm ho hX hS hN i0 i1 hq
  by_cases c11 : w = 11
  · rw [show zsw zPS 106 w = 31 by subst c11; decide]
    exact k_level hd hw hm ho hX hS hN i0 i1 hq
  by_cases c12 : w = 12
  · rw [show zsw zPS 106 w = 34 by subst c12; decide]
    exact k_request hd hw hm ho hX hS hN i0 i1 hq
  by_cases c13 : w = 13
  · rw [show zsw zPS 106 w = 39 by subst c13; decide]
    exact k_result hd hw hm ho hX hS hN i0 i1 hq
  by_cases c14 : w = 14
  · rw [show zsw zPS 106 w = 42 by subst c14; decide]
    exact k_failure hd hw hm ho hX hS hN i0 i1 hq
  by_cases c15 : w = 15
  · rw [show zsw zPS 106 w = 45 by subst c15; decide]
    exact k_attempt hd hw hm ho hX hS hN i0 i1 hq
  by_cases c16 : w = 16
  · rw [show zsw zPS 106 w = 48 by subst c16; decide]
    exact k_leastBudget hd hw hm ho hX hS hN i0 i1 hq
  by_cases c17 : w = 17
  · rw [show zsw zPS 106 w = 51 by subst c17; decide]
    exact k_worst hd hw hm ho hX hS hN i0 i1 hq
  by_cases c18 : w = 18
  · rw [show zsw zPS 106 w = 54 by subst c18; decide]
    exact k_unsound hd hw hm ho hX hS hN i0 i1 hq
  by_cases c19 : w = 19
  · rw [show zsw zPS 106 w = 55 by subst c19; decide]
    exact k_tighten hd hw hm ho hX hS hN i0 i1 hq
  by_cases c20 : w = 20
  · rw [show zsw zPS 106 w = 56 by subst c20; decide]
    exact k_fail hd hw hm ho hX hS hN i0 i1 hq
  by_cases c21 : w = 21
  · rw [show zsw zPS 106 w = 59 by subst c21; decide]
    exact k_repair hd hw hm ho hX hS hN i0 i1 hq
  by_cases c22 : w = 22
  · rw [show zsw zPS 106 w = 62 by subst c22; decide]
    exact k_steps hd hw hm ho hX hS hN i0 i1 hq
  by_cases c23 : w = 23
  · rw [show zsw zPS 106 w = 65 by subst c23; decide]
    exact k_down hd hw hm ho hX hS hN i0 i1 hq
  by_cases c24 : w = 24
  · rw [show zsw zPS 106 w = 66 by subst c24; decide]
    exact k_spread hd hw hm ho hX hS hN i0 i1 hq
  by_cases c25 : w = 25
  · rw [show zsw zPS 106 w = 69 by subst c25; decide]
    exact k_calm hd hw hm ho hX hS hN i0 i1 hq
  by_cases c26 : w = 26
  · rw [show zsw zPS 106 w = 72 by subst c26; decide]
    exact k_recoveryTime hd hw hm ho hX hS hN i0 i1 hq
  by_cases c27 : w = 27
  · rw [show zsw zPS 106 w = 75 by subst c27; decide]
    exact k_recoveryStart hd hw hm ho hX hS hN i0 i1 hq
  by_cases c28 : w = 28
  · rw [show zsw zPS 106 w = 78 by subst c28; decide]
    exact k_bestCost hd hw hm ho hX hS hN i0 i1 hq
  by_cases c29 : w = 29
  · rw [show zsw zPS 106 w = 79 by subst c29; decide]
    exact k_bestOrder hd hw hm ho hX hS hN i0 i1 hq
  by_cases c30 : w = 30
  · rw [show zsw zPS 106 w = 80 by subst c30; decide]
    exact k_failsBy hd hw hm ho hX hS hN i0 i1 hq
  by_cases c31 : w = 31
  · rw [show zsw zPS 106 w = 85 by subst c31; decide]
    exact k_cuts hd hw hm ho hX hS hN i0 i1 hq
  by_cases c32 : w = 32
  · rw [show zsw zPS 106 w = 88 by subst c32; decide]
    exact k_cut hd hw hm ho hX hS hN i0 i1 hq
  by_cases c33 : w = 33
  · rw [show zsw zPS 106 w = 91 by subst c33; decide]
    exact k_availability hd hw hm ho hX hS hN i0 i1 hq
  by_cases c34 : w = 34
  · rw [show zsw zPS 106 w = 94 by subst c34; decide]
    exact k_weakest hd hw hm ho hX hS hN i0 i1 hq
  by_cases c35 : w = 35
  · rw [show zsw zPS 106 w = 97 by subst c35; decide]
    exact k_append hd hw hm ho hX hS hN i0 i1 hq
  by_cases c36 : w = 36
  · rw [show zsw zPS 106 w = 100 by subst c36; decide]
    exact k_clearText hd hw hm ho hX hS hN i0 i1 hq
  by_cases c37 : w = 37
  · rw [show zsw zPS 106 w = 101 by subst c37; decide]
    exact k_execute hd hw hm ho hX hS hN i0 i1 hq
  by_cases c38 : w = 38
  · rw [show zsw zPS 106 w = 102 by subst c38; decide]
    exact k_undo hd hw hm ho hX hS hN i0 i1 hq
  by_cases c39 : w = 39
  · rw [show zsw zPS 106 w = 105 by subst c39; decide]
    exact k_digest hd hw hm ho hX hS hN i0 i1 hq
  rw [show zsw zPS 106 w = 106 by simp only [zPS, zsw, c0, c1, c2, c3, c4, c5, c6, c7, c8, c9, c10, c11, c12, c13, c14, c15, c16, c17, c18, c19, c20, c21, c22, c23, c24, c25, c26, c27, c28, c29, c30, c31, c32, c33, c34, c35, c36, c37, c38, c39, ↓reduceIte]]
  exact hq σ s V a b ho hw hm hS zExt.rf
set_option maxRecDepth 20000 in
theorem k_loop (hd : 100 ≤ d) (hX : ∀ j, zI32 (X j)) (hN : N ≤ 3072) : ∀ (f : Nat) (i : Int) (σ : zσ) (s : zS) (V : zV) (a b : Value), 0 ≤ i → i ≤ 3072 → (N : Int) - i < 6 * f + 6 → zOK σ → zWc σ s V → zWm σ s V → zSc N X s V → s.sz + f ≤ 97999 → s.sl + 6012 * f ≤ 8802124 → zwp (zcall d) 299 zLawQ (zB 299 1) [.ref 4, .ref 5, .ref 164, .ref 191, zi i, a, b] [] (s, V) := by
  intro f
  induction f with
  | zero =>
    intro i σ s V a b i0 i1 hf ho hw hm hS q1 q2
    obtain ⟨tS, lS, eS⟩ := id hS
    have c : (N : Int) - 6 < i := by omega
    have hN' : (N : Int) ≤ 1000000 := by omega
    have h20 : 20 ≤ s.tg 4 := by omega
    have h21 : s.tg 4 ≤ 26 ∨ s.tg 4 = 32 := Or.inr tS
    have h22 : s.ln 4 ≤ 1000000 := by omega
    simp (disch := first | assumption | exact zk_299 | ((repeat (first | exact z1n | refine z1I ?_ | refine z1R ?_)); done) | exact rfl | omega | decide) only [zb_299_1, zb_299_107, r_new_9, r_dup_i, r_dup_r, r_inv_1_0, r_inv_1_1, r_inv_1_2, r_inv_1_3, r_inv_1_4, r_K0, r_K1, r_astore_1i, r_astore_1r, r_astore_1j, r_new_10, r_astore_2i, r_astore_2r, r_astore_2j, r_iconst, r_newa_long, r_astore_3i, r_astore_3r, r_astore_3j, r_istore_4i, r_istore_4r, r_istore_4j, r_goto_w, r_iload_4, r_aload_0, r_alen, r_isub, r_icmp_gt, r_ial, r_ial30, r_ial32, r_iand, r_sw, r_aload_1, r_iadd, r_aload_3, r_inv_3_0, r_inv_3_1, r_inv_3_2, r_inv_3_3, r_inv_3_4, r_istore_5i, r_istore_5r, r_istore_5j, r_aload_2, r_inv_2_0, r_inv_2_1, r_inv_2_2, r_inv_2_3, r_inv_2_4, r_istore_6i, r_istore_6r, r_istore_6j, r_iload_5, r_icmp_eq, r_iret, r_bret_0, r_bret_1, r_if_ne, r_laload, r_iload_6, r_i2l, r_lcmp, r_lcmpR, r_if_eq, r_goto, r_inv_7_0, r_inv_7_1, r_inv_7_2, r_inv_7_3, r_inv_7_4, r_inv_6_0, r_inv_6_1, r_inv_6_2, r_inv_6_3, r_inv_6_4, r_inv_5_0, r_inv_5_1, r_inv_5_2, r_inv_5_3, r_inv_5_4, r_inv_4_0, r_inv_4_1, r_inv_4_2, r_inv_4_3, r_inv_4_4, r_lconst, r_iinc_4i, r_iinc_4r, r_iinc_4j, lS, c, ↓reduceIte, not_true_eq_false, not_false_eq_true, Int.reduceEq, Int.reduceLE, Int.reduceLT, Int.reduceAdd, Int.reduceNeg, Int.reduceMul, Int.reduceSub, Int.reduceToNat]
    exact ⟨rfl, by show s.sz ≤ 97999; omega, by show s.sl ≤ 8802124; omega⟩
  | succ f ih =>
    intro i σ s V a b i0 i1 hf ho hw hm hS q1 q2
    obtain ⟨tS, lS, eS⟩ := id hS
    have hN' : (N : Int) ≤ 1000000 := by omega
    have h20 : 20 ≤ s.tg 4 := by omega
    have h21 : s.tg 4 ≤ 26 ∨ s.tg 4 = 32 := Or.inr tS
    have h22 : s.ln 4 ≤ 1000000 := by omega
    by_cases c : (N : Int) - 6 < i
    · simp (disch := first | assumption | exact zk_299 | ((repeat (first | exact z1n | refine z1I ?_ | refine z1R ?_)); done) | exact rfl | omega | decide) only [zb_299_1, zb_299_107, r_new_9, r_dup_i, r_dup_r, r_inv_1_0, r_inv_1_1, r_inv_1_2, r_inv_1_3, r_inv_1_4, r_K0, r_K1, r_astore_1i, r_astore_1r, r_astore_1j, r_new_10, r_astore_2i, r_astore_2r, r_astore_2j, r_iconst, r_newa_long, r_astore_3i, r_astore_3r, r_astore_3j, r_istore_4i, r_istore_4r, r_istore_4j, r_goto_w, r_iload_4, r_aload_0, r_alen, r_isub, r_icmp_gt, r_ial, r_ial30, r_ial32, r_iand, r_sw, r_aload_1, r_iadd, r_aload_3, r_inv_3_0, r_inv_3_1, r_inv_3_2, r_inv_3_3, r_inv_3_4, r_istore_5i, r_istore_5r, r_istore_5j, r_aload_2, r_inv_2_0, r_inv_2_1, r_inv_2_2, r_inv_2_3, r_inv_2_4, r_istore_6i, r_istore_6r, r_istore_6j, r_iload_5, r_icmp_eq, r_iret, r_bret_0, r_bret_1, r_if_ne, r_laload, r_iload_6, r_i2l, r_lcmp, r_lcmpR, r_if_eq, r_goto, r_inv_7_0, r_inv_7_1, r_inv_7_2, r_inv_7_3, r_inv_7_4, r_inv_6_0, r_inv_6_1, r_inv_6_2, r_inv_6_3, r_inv_6_4, r_inv_5_0, r_inv_5_1, r_inv_5_2, r_inv_5_3, r_inv_5_4, r_inv_4_0, r_inv_4_1, r_inv_4_2, r_inv_4_3, r_inv_4_4, r_lconst, r_iinc_4i, r_iinc_4r, r_iinc_4j, lS, c, ↓reduceIte, not_true_eq_false, not_false_eq_true, Int.reduceEq, Int.reduceLE, Int.reduceLT, Int.reduceAdd, Int.reduceNeg, Int.reduceMul, Int.reduceSub, Int.reduceToNat]
      exact ⟨rfl, by show s.sz ≤ 97999; omega, by show s.sl ≤ 8802124; omega⟩
    · obtain ⟨z1, z2⟩ := zand_i (a := X i) (b := 63)
      have hq : zLnx d N X i s := by
        intro σ' s' V' a' b' ho' hw' hm' hS' hx
        obtain ⟨⟨x1, x2⟩, ⟨x3, x4⟩, -⟩ := hx
        simp (disch := first | assumption | exact zk_299 | ((repeat (first | exact z1n | refine z1I ?_ | refine z1R ?_)); done) | exact rfl | omega | decide) only [zb_299_106, r_new_9, r_dup_i, r_dup_r, r_inv_1_0, r_inv_1_1, r_inv_1_2, r_inv_1_3, r_inv_1_4, r_K0, r_K1, r_astore_1i, r_astore_1r, r_astore_1j, r_new_10, r_astore_2i, r_astore_2r, r_astore_2j, r_iconst, r_newa_long, r_astore_3i, r_astore_3r, r_astore_3j, r_istore_4i, r_istore_4r, r_istore_4j, r_goto_w, r_iload_4, r_aload_0, r_alen, r_isub, r_icmp_gt, r_ial, r_ial30, r_ial32, r_iand, r_sw, r_aload_1, r_iadd, r_aload_3, r_inv_3_0, r_inv_3_1, r_inv_3_2, r_inv_3_3, r_inv_3_4, r_istore_5i, r_istore_5r, r_istore_5j, r_aload_2, r_inv_2_0, r_inv_2_1, r_inv_2_2, r_inv_2_3, r_inv_2_4, r_istore_6i, r_istore_6r, r_istore_6j, r_iload_5, r_icmp_eq, r_iret, r_bret_0, r_bret_1, r_if_ne, r_laload, r_iload_6, r_i2l, r_lcmp, r_lcmpR, r_if_eq, r_goto, r_inv_7_0, r_inv_7_1, r_inv_7_2, r_inv_7_3, r_inv_7_4, r_inv_6_0, r_inv_6_1, r_inv_6_2, r_inv_6_3, r_inv_6_4, r_inv_5_0, r_inv_5_1, r_inv_5_2, r_inv_5_3, r_inv_5_4, r_inv_4_0, r_inv_4_1, r_inv_4_2, r_inv_4_3, r_inv_4_4, r_lconst, r_iinc_4i, r_iinc_4r, r_iinc_4j, ↓reduceIte, not_true_eq_false, not_false_eq_true, Int.reduceEq, Int.reduceLE, Int.reduceLT, Int.reduceAdd, Int.reduceNeg, Int.reduceMul, Int.reduceSub, Int.reduceToNat]
        exact ih (i + 6) σ' s' V' a' b' (by omega) (by omega) (by omega) ho' hw' hm' hS' (by omega) (by omega)
      simp (disch := first | assumption | exact zk_299 | ((repeat (first | exact z1n | refine z1I ?_ | refine z1R ?_)); done) | exact rfl | omega | decide) only [zb_299_1, r_new_9, r_dup_i, r_dup_r, r_inv_1_0, r_inv_1_1, r_inv_1_2, r_inv_1_3, r_inv_1_4, r_K0, r_K1, r_astore_1i, r_astore_1r, r_astore_1j, r_new_10, r_astore_2i, r_astore_2r, r_astore_2j, r_iconst, r_newa_long, r_astore_3i, r_astore_3r, r_astore_3j, r_istore_4i, r_istore_4r, r_istore_4j, r_goto_w, r_iload_4, r_aload_0, r_alen, r_isub, r_icmp_gt, r_ial, r_ial30, r_ial32, r_iand, r_sw, r_aload_1, r_iadd, r_aload_3, r_inv_3_0, r_inv_3_1, r_inv_3_2, r_inv_3_3, r_inv_3_4, r_istore_5i, r_istore_5r, r_istore_5j, r_aload_2, r_inv_2_0, r_inv_2_1, r_inv_2_2, r_inv_2_3, r_inv_2_4, r_istore_6i, r_istore_6r, r_istore_6j, r_iload_5, r_icmp_eq, r_iret, r_bret_0, r_bret_1, r_if_ne, r_laload, r_iload_6, r_i2l, r_lcmp, r_lcmpR, r_if_eq, r_goto, r_inv_7_0, r_inv_7_1, r_inv_7_2, r_inv_7_3, r_inv_7_4, r_inv_6_0, r_inv_6_1, r_inv_6_2, r_inv_6_3, r_inv_6_4, r_inv_5_0, r_inv_5_1, r_inv_5_2, r_inv_5_3, r_inv_5_4, r_inv_4_0, r_inv_4_1, r_inv_4_2, r_inv_4_3, r_inv_4_4, r_lconst, r_iinc_4i, r_iinc_4r, r_iinc_4j, lS, c, eS, ↓reduceIte, not_true_eq_false, not_false_eq_true, Int.reduceEq, Int.reduceLE, Int.reduceLT, Int.reduceAdd, Int.reduceNeg, Int.reduceMul, Int.reduceSub, Int.reduceToNat]
      exact k_switch hd hw hm ho hX hS hN i0 (by omega) hq
end
