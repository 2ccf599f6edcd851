/-! CREWS, 4: the model -/
theorem zor_0 {a : Nat} (ha : a < 2147483648) : zor (a : Int) 0 = (a : Int) := by
  have := zor_n (a := a) (b := 0) ha (by omega)
  rw [Nat.or_zero] at this
  exact this
section
variable {d : Nat} {s : zS} {V : zV} {Q : zO → zH → Prop} {ρ : zR} {h : zH} {b : Int → Int} {F : Nat} {t : Int}
def zBn (b : Int → Int) (V : zV) : Prop := ∀ x, 0 ≤ x → x < 12 → V 187 x = zi (b x)
set_option maxRecDepth 20000 in
theorem m_nextBegun (hd : 2 ≤ d) (hM : zMP s V) (hC : zMC ρ V) (hW : zWF ρ) (hN : zMn9 ρ V) (hB : zBn b V) (hI : zQI ρ b F t) (t1 : t ≤ 100000) : zcall d 239 [.ref 164, zi (zDown ρ : Nat), zi (F : Nat)] (s, V) Q = Q (.inl (some (zi (zQn ρ b F)))) (s, V) := by
  obtain ⟨n0, n1, cc0, cc1⟩ := hW.1
  have tM := hM.1
  have vm_s : V 164 0 = .ref 165 := (hM.2 0 (by decide)).1
  have tm_s : s.tg 165 = 20 := (hM.2 0 (by decide)).2.1
  have lm_s : s.ln 165 = 230 := (hM.2 0 (by decide)).2.2
  have vm_needs : V 164 7 = .ref 169 := (hM.2 4 (by decide)).1
  have tm_needs : s.tg 169 = 20 := (hM.2 4 (by decide)).2.1
  have lm_needs : s.ln 169 = 12 := (hM.2 4 (by decide)).2.2
  have vm_begun : V 164 37 = .ref 187 := (hM.2 22 (by decide)).1
  have tm_begun : s.tg 187 = 20 := (hM.2 22 (by decide)).2.1
  have lm_begun : s.ln 187 = 12 := (hM.2 22 (by decide)).2.2
  have e0 := hC.1
  have hD := zDown_lt hW
  have hF := hI.1
  obtain ⟨d, rfl⟩ : ∃ e, d = e + 1 := ⟨d - 1, by omega⟩
  simp (disch := first | assumption | omega) only [zc_239]
  simp (disch := first | assumption | exact zk_239 | ((repeat (first | exact z1n | refine z1I ?_ | refine z1R ?_)); done) | exact rfl | omega | decide) only [zb_239_0, r_iconst, r_istore_3i, r_istore_3r, r_istore_3j, r_istore_4i, r_istore_4r, r_istore_4j, r_goto_w, r_iload_4, r_aload_0, r_gf_640, r_ial, r_ial30, r_ial32, r_icmp_ge, r_iload_1, r_ishr, r_iand, r_icmp_ne, r_gf_677, r_gf_647, r_iload_2, r_ixor, r_if_ne, r_goto, r_istore_5i, r_istore_5r, r_istore_5j, r_iload_5, r_if_eq, r_iload_3, r_icmp_eq, r_inv_3_0, r_inv_3_1, r_inv_3_2, r_inv_3_3, r_inv_3_4, r_K0, r_K1, r_icmp_le, r_iinc_4i, r_iinc_4r, r_iinc_4j, r_iret, r_bret_0, r_bret_1, vm_s, vm_needs, vm_begun, ↓reduceIte, not_true_eq_false, not_false_eq_true, Int.reduceEq, Int.reduceLE, Int.reduceLT, Int.reduceAdd, Int.reduceNeg, Int.reduceMul, Int.reduceSub, Int.reduceToNat]
  have hlp := z_iter (i := 0) (n := ρ.n) (I := fun _ (_ : Value) => True) (P := fun k q => (zwp (zcall d) 239 Q (zB 239 1) [.ref 164, zi (zDown ρ : Nat), zi (F : Nat), zi (zQnk ρ b F k), zi k, q] [] (s, V) = Q (.inl (some (zi (zQn ρ b F)))) (s, V))) n0
  refine hlp ?_ ?_ zJ trivial
  · rintro k q k0 k1 - ih
    have hz := zhas (a := zDown ρ) (x := k) (by omega) k0 (by omega)
    have hb := hB k k0 (by omega)
    have hbr : -1 ≤ b k ∧ b k ≤ 100000 := by
      by_cases e : b k = -1
      · omega
      · have := hI.2.2.1 k e; omega
    have hn0 := zNeeds_lt hW k
    have hnl : zNeeds ρ k &&& zDown ρ < 4096 := zand_lt (zNeeds_lt hW k)
    have hzl : zdf (zNeeds ρ k &&& zDown ρ) F < 4096 := zdf_lt hnl
    have hn9 : V 169 k = zi (zNeeds ρ k : Nat) := by rw [hN k k0 (by omega)]; unfold zNds; rw [if_pos k1]
    have w := (hW.2.1 k k0 k1).2.2.2.2.1
    have key : ∀ x5, zwp (zcall d) 239 Q (zB 239 3) [.ref 164, zi (zDown ρ : Nat), zi (F : Nat), zi (zQnk ρ b F k), zi k, x5] [zi (zb1 (zQc ρ b F k))] (s, V) = Q (.inl (some (zi (zQn ρ b F)))) (s, V) := by
      intro x5
      have ih' := fun v => ih v trivial
      rw [zQnk_s k0] at ih'
      rcases zQnk_is (ρ := ρ) (b := b) (F := F) k0 with ⟨i1, -⟩ | ⟨⟨i1, i2⟩, -⟩
      · by_cases c : zQc ρ b F k = true
        · rw [if_pos ⟨c, Or.inl i1⟩] at ih'
          rw [c, show zb1 true = 1 from rfl, i1]
          simp (disch := first | assumption | exact zk_239 | ((repeat (first | exact z1n | refine z1I ?_ | refine z1R ?_)); done) | exact rfl | omega | decide) only [zb_239_3, zb_239_4, zb_239_5, zb_239_6, r_iconst, r_istore_3i, r_istore_3r, r_istore_3j, r_istore_4i, r_istore_4r, r_istore_4j, r_goto_w, r_iload_4, r_aload_0, r_gf_640, r_ial, r_ial30, r_ial32, r_icmp_ge, r_iload_1, r_ishr, r_iand, r_icmp_ne, r_gf_677, r_gf_647, r_iload_2, r_ixor, r_if_ne, r_goto, r_istore_5i, r_istore_5r, r_istore_5j, r_iload_5, r_if_eq, r_iload_3, r_icmp_eq, r_inv_3_0, r_inv_3_1, r_inv_3_2, r_inv_3_3, r_inv_3_4, r_K0, r_K1, r_icmp_le, r_iinc_4i, r_iinc_4r, r_iinc_4j, r_iret, r_bret_0, r_bret_1, vm_s, vm_needs, vm_begun, ↓reduceIte, not_true_eq_false, not_false_eq_true, Int.reduceEq, Int.reduceLE, Int.reduceLT, Int.reduceAdd, Int.reduceNeg, Int.reduceMul, Int.reduceSub, Int.reduceToNat]
          exact ih' _
        · rw [if_neg (fun z => c z.1)] at ih'
          rw [show zQc ρ b F k = false by simpa using c, show zb1 false = 0 from rfl]
          simp (disch := first | assumption | exact zk_239 | ((repeat (first | exact z1n | refine z1I ?_ | refine z1R ?_)); done) | exact rfl | omega | decide) only [zb_239_3, zb_239_4, zb_239_5, zb_239_6, r_iconst, r_istore_3i, r_istore_3r, r_istore_3j, r_istore_4i, r_istore_4r, r_istore_4j, r_goto_w, r_iload_4, r_aload_0, r_gf_640, r_ial, r_ial30, r_ial32, r_icmp_ge, r_iload_1, r_ishr, r_iand, r_icmp_ne, r_gf_677, r_gf_647, r_iload_2, r_ixor, r_if_ne, r_goto, r_istore_5i, r_istore_5r, r_istore_5j, r_iload_5, r_if_eq, r_iload_3, r_icmp_eq, r_inv_3_0, r_inv_3_1, r_inv_3_2, r_inv_3_3, r_inv_3_4, r_K0, r_K1, r_icmp_le, r_iinc_4i, r_iinc_4r, r_iinc_4j, r_iret, r_bret_0, r_bret_1, vm_s, vm_needs, vm_begun, ↓reduceIte, not_true_eq_false, not_false_eq_true, Int.reduceEq, Int.reduceLE, Int.reduceLT, Int.reduceAdd, Int.reduceNeg, Int.reduceMul, Int.reduceSub, Int.reduceToNat]
          exact ih' _
      · have w2 := (hW.2.1 _ i1 (by omega : zQnk ρ b F k < ρ.n)).2.2.2.2.1
        have i3 : zQnk ρ b F k < ρ.n := by omega
        by_cases c : zQc ρ b F k = true
        · rw [c, show zb1 true = 1 from rfl]
          by_cases g : ρ.S 4 (zQnk ρ b F k) < ρ.S 4 k
          · rw [if_pos ⟨c, Or.inr g⟩] at ih'
            simp (disch := first | assumption | exact zk_239 | ((repeat (first | exact z1n | refine z1I ?_ | refine z1R ?_)); done) | exact rfl | omega | decide) only [zb_239_3, zb_239_4, zb_239_5, zb_239_6, r_iconst, r_istore_3i, r_istore_3r, r_istore_3j, r_istore_4i, r_istore_4r, r_istore_4j, r_goto_w, r_iload_4, r_aload_0, r_gf_640, r_ial, r_ial30, r_ial32, r_icmp_ge, r_iload_1, r_ishr, r_iand, r_icmp_ne, r_gf_677, r_gf_647, r_iload_2, r_ixor, r_if_ne, r_goto, r_istore_5i, r_istore_5r, r_istore_5j, r_iload_5, r_if_eq, r_iload_3, r_icmp_eq, r_inv_3_0, r_inv_3_1, r_inv_3_2, r_inv_3_3, r_inv_3_4, r_K0, r_K1, r_icmp_le, r_iinc_4i, r_iinc_4r, r_iinc_4j, r_iret, r_bret_0, r_bret_1, vm_s, vm_needs, vm_begun, m_of (hC := hC), ↓reduceIte, not_true_eq_false, not_false_eq_true, Int.reduceEq, Int.reduceLE, Int.reduceLT, Int.reduceAdd, Int.reduceNeg, Int.reduceMul, Int.reduceSub, Int.reduceToNat]
            rw [if_neg (by omega), if_neg (by omega)]
            exact ih' _
          · rw [if_neg (by rintro ⟨-, z | z⟩ <;> omega)] at ih'
            simp (disch := first | assumption | exact zk_239 | ((repeat (first | exact z1n | refine z1I ?_ | refine z1R ?_)); done) | exact rfl | omega | decide) only [zb_239_3, zb_239_4, zb_239_5, zb_239_6, r_iconst, r_istore_3i, r_istore_3r, r_istore_3j, r_istore_4i, r_istore_4r, r_istore_4j, r_goto_w, r_iload_4, r_aload_0, r_gf_640, r_ial, r_ial30, r_ial32, r_icmp_ge, r_iload_1, r_ishr, r_iand, r_icmp_ne, r_gf_677, r_gf_647, r_iload_2, r_ixor, r_if_ne, r_goto, r_istore_5i, r_istore_5r, r_istore_5j, r_iload_5, r_if_eq, r_iload_3, r_icmp_eq, r_inv_3_0, r_inv_3_1, r_inv_3_2, r_inv_3_3, r_inv_3_4, r_K0, r_K1, r_icmp_le, r_iinc_4i, r_iinc_4r, r_iinc_4j, r_iret, r_bret_0, r_bret_1, vm_s, vm_needs, vm_begun, m_of (hC := hC), ↓reduceIte, not_true_eq_false, not_false_eq_true, Int.reduceEq, Int.reduceLE, Int.reduceLT, Int.reduceAdd, Int.reduceNeg, Int.reduceMul, Int.reduceSub, Int.reduceToNat]
            rw [if_neg (by omega), if_pos (by omega)]
            exact ih' _
        · rw [if_neg (fun z => c z.1)] at ih'
          rw [show zQc ρ b F k = false by simpa using c, show zb1 false = 0 from rfl]
          simp (disch := first | assumption | exact zk_239 | ((repeat (first | exact z1n | refine z1I ?_ | refine z1R ?_)); done) | exact rfl | omega | decide) only [zb_239_3, zb_239_4, zb_239_5, zb_239_6, r_iconst, r_istore_3i, r_istore_3r, r_istore_3j, r_istore_4i, r_istore_4r, r_istore_4j, r_goto_w, r_iload_4, r_aload_0, r_gf_640, r_ial, r_ial30, r_ial32, r_icmp_ge, r_iload_1, r_ishr, r_iand, r_icmp_ne, r_gf_677, r_gf_647, r_iload_2, r_ixor, r_if_ne, r_goto, r_istore_5i, r_istore_5r, r_istore_5j, r_iload_5, r_if_eq, r_iload_3, r_icmp_eq, r_inv_3_0, r_inv_3_1, r_inv_3_2, r_inv_3_3, r_inv_3_4, r_K0, r_K1, r_icmp_le, r_iinc_4i, r_iinc_4r, r_iinc_4j, r_iret, r_bret_0, r_bret_1, vm_s, vm_needs, vm_begun, ↓reduceIte, not_true_eq_false, not_false_eq_true, Int.reduceEq, Int.reduceLE, Int.reduceLT, Int.reduceAdd, Int.reduceNeg, Int.reduceMul, Int.reduceSub, Int.reduceToNat]
          exact ih' _
    conv => lhs; rw [zb_239_1]
    by_cases c1 : zin (zDown ρ) k = true
    · rw [if_pos c1] at hz
      by_cases c2 : b k = -1
      · by_cases c3 : zdf (zNeeds ρ k &&& zDown ρ) F = 0
        · have c3' : ((zdf (zNeeds ρ k &&& zDown ρ) F : Nat) : Int) = 0 := by rw [c3]; rfl
          have hc : zQc ρ b F k = true := by unfold zQc; rw [c1, decide_eq_true c2, decide_eq_true c3]; rfl
          rw [hc, show zb1 true = 1 from rfl] at key
          rw [c2] at hb
          simp (disch := first | assumption | exact zk_239 | ((repeat (first | exact z1n | refine z1I ?_ | refine z1R ?_)); done) | exact rfl | omega | decide) only [zb_239_2, r_iconst, r_istore_3i, r_istore_3r, r_istore_3j, r_istore_4i, r_istore_4r, r_istore_4j, r_goto_w, r_iload_4, r_aload_0, r_gf_640, r_ial, r_ial30, r_ial32, r_icmp_ge, r_iload_1, r_ishr, r_iand, r_icmp_ne, r_gf_677, r_gf_647, r_iload_2, r_ixor, r_if_ne, r_goto, r_istore_5i, r_istore_5r, r_istore_5j, r_iload_5, r_if_eq, r_iload_3, r_icmp_eq, r_inv_3_0, r_inv_3_1, r_inv_3_2, r_inv_3_3, r_inv_3_4, r_K0, r_K1, r_icmp_le, r_iinc_4i, r_iinc_4r, r_iinc_4j, r_iret, r_bret_0, r_bret_1, vm_s, vm_needs, vm_begun, e0, hz, hb, hn9, zand_n, zandn_n, c3', ↓reduceIte, not_true_eq_false, not_false_eq_true, Int.reduceEq, Int.reduceLE, Int.reduceLT, Int.reduceAdd, Int.reduceNeg, Int.reduceMul, Int.reduceSub, Int.reduceToNat]
          rw [if_neg (by omega)]
          exact key _
        · have c3' : ¬ ((zdf (zNeeds ρ k &&& zDown ρ) F : Nat) : Int) = 0 := by omega
          have hc : zQc ρ b F k = false := by unfold zQc; rw [decide_eq_false c3, Bool.and_false]
          rw [hc, show zb1 false = 0 from rfl] at key
          rw [c2] at hb
          simp (disch := first | assumption | exact zk_239 | ((repeat (first | exact z1n | refine z1I ?_ | refine z1R ?_)); done) | exact rfl | omega | decide) only [zb_239_2, r_iconst, r_istore_3i, r_istore_3r, r_istore_3j, r_istore_4i, r_istore_4r, r_istore_4j, r_goto_w, r_iload_4, r_aload_0, r_gf_640, r_ial, r_ial30, r_ial32, r_icmp_ge, r_iload_1, r_ishr, r_iand, r_icmp_ne, r_gf_677, r_gf_647, r_iload_2, r_ixor, r_if_ne, r_goto, r_istore_5i, r_istore_5r, r_istore_5j, r_iload_5, r_if_eq, r_iload_3, r_icmp_eq, r_inv_3_0, r_inv_3_1, r_inv_3_2, r_inv_3_3, r_inv_3_4, r_K0, r_K1, r_icmp_le, r_iinc_4i, r_iinc_4r, r_iinc_4j, r_iret, r_bret_0, r_bret_1, vm_s, vm_needs, vm_begun, e0, hz, hb, hn9, zand_n, zandn_n, c3', ↓reduceIte, not_true_eq_false, not_false_eq_true, Int.reduceEq, Int.reduceLE, Int.reduceLT, Int.reduceAdd, Int.reduceNeg, Int.reduceMul, Int.reduceSub, Int.reduceToNat]
          rw [if_neg (by omega)]
          exact key _
      · have hc : zQc ρ b F k = false := by unfold zQc; rw [decide_eq_false c2, Bool.and_false, Bool.false_and]
        rw [hc, show zb1 false = 0 from rfl] at key
        simp (disch := first | assumption | exact zk_239 | ((repeat (first | exact z1n | refine z1I ?_ | refine z1R ?_)); done) | exact rfl | omega | decide) only [zb_239_2, r_iconst, r_istore_3i, r_istore_3r, r_istore_3j, r_istore_4i, r_istore_4r, r_istore_4j, r_goto_w, r_iload_4, r_aload_0, r_gf_640, r_ial, r_ial30, r_ial32, r_icmp_ge, r_iload_1, r_ishr, r_iand, r_icmp_ne, r_gf_677, r_gf_647, r_iload_2, r_ixor, r_if_ne, r_goto, r_istore_5i, r_istore_5r, r_istore_5j, r_iload_5, r_if_eq, r_iload_3, r_icmp_eq, r_inv_3_0, r_inv_3_1, r_inv_3_2, r_inv_3_3, r_inv_3_4, r_K0, r_K1, r_icmp_le, r_iinc_4i, r_iinc_4r, r_iinc_4j, r_iret, r_bret_0, r_bret_1, vm_s, vm_needs, vm_begun, e0, hz, hb, c2, ↓reduceIte, not_true_eq_false, not_false_eq_true, Int.reduceEq, Int.reduceLE, Int.reduceLT, Int.reduceAdd, Int.reduceNeg, Int.reduceMul, Int.reduceSub, Int.reduceToNat]
        rw [if_neg (by omega)]
        exact key _
    · rw [if_neg c1] at hz
      have hc : zQc ρ b F k = false := by unfold zQc; rw [show zin (zDown ρ) k = false by simpa using c1]; rfl
      rw [hc, show zb1 false = 0 from rfl] at key
      simp (disch := first | assumption | exact zk_239 | ((repeat (first | exact z1n | refine z1I ?_ | refine z1R ?_)); done) | exact rfl | omega | decide) only [zb_239_2, r_iconst, r_istore_3i, r_istore_3r, r_istore_3j, r_istore_4i, r_istore_4r, r_istore_4j, r_goto_w, r_iload_4, r_aload_0, r_gf_640, r_ial, r_ial30, r_ial32, r_icmp_ge, r_iload_1, r_ishr, r_iand, r_icmp_ne, r_gf_677, r_gf_647, r_iload_2, r_ixor, r_if_ne, r_goto, r_istore_5i, r_istore_5r, r_istore_5j, r_iload_5, r_if_eq, r_iload_3, r_icmp_eq, r_inv_3_0, r_inv_3_1, r_inv_3_2, r_inv_3_3, r_inv_3_4, r_K0, r_K1, r_icmp_le, r_iinc_4i, r_iinc_4r, r_iinc_4j, r_iret, r_bret_0, r_bret_1, vm_s, vm_needs, vm_begun, e0, hz, ↓reduceIte, not_true_eq_false, not_false_eq_true, Int.reduceEq, Int.reduceLE, Int.reduceLT, Int.reduceAdd, Int.reduceNeg, Int.reduceMul, Int.reduceSub, Int.reduceToNat]
      rw [if_neg (by omega)]
      exact key _
  · rintro q -
    simp (disch := first | assumption | exact zk_239 | ((repeat (first | exact z1n | refine z1I ?_ | refine z1R ?_)); done) | exact rfl | omega | decide) only [zb_239_1, zb_239_7, r_iconst, r_istore_3i, r_istore_3r, r_istore_3j, r_istore_4i, r_istore_4r, r_istore_4j, r_goto_w, r_iload_4, r_aload_0, r_gf_640, r_ial, r_ial30, r_ial32, r_icmp_ge, r_iload_1, r_ishr, r_iand, r_icmp_ne, r_gf_677, r_gf_647, r_iload_2, r_ixor, r_if_ne, r_goto, r_istore_5i, r_istore_5r, r_istore_5j, r_iload_5, r_if_eq, r_iload_3, r_icmp_eq, r_inv_3_0, r_inv_3_1, r_inv_3_2, r_inv_3_3, r_inv_3_4, r_K0, r_K1, r_icmp_le, r_iinc_4i, r_iinc_4r, r_iinc_4j, r_iret, r_bret_0, r_bret_1, vm_s, vm_needs, vm_begun, e0, Int.le_refl, ↓reduceIte, not_true_eq_false, not_false_eq_true, Int.reduceEq, Int.reduceLE, Int.reduceLT, Int.reduceAdd, Int.reduceNeg, Int.reduceMul, Int.reduceSub, Int.reduceToNat]
    rfl
set_option maxRecDepth 20000 in
theorem m_starts (hd : 2 ≤ d) (hW : zWF ρ) {c : Int} (t1 : t ≤ 100000) : ∀ (k : Nat) (b : Int → Int) (V1 : zV) (x7 : Value), k ≤ 1000 → zMP s V1 → zMC ρ V1 → zMn9 ρ V1 → zQI ρ b F t → zBn b V1 → (∀ (V2 : zV) (x5 x6 : Value), zFm [187] [] V1 V2 → zBn (zQs ρ F t k b) V2 → zwp (zcall d) 240 Q (zB 240 14) [.ref 164, zi c, zi (zDown ρ : Nat), zi (F : Nat), zi t, x5, x6, x7] [] (s, V2)) → zwp (zcall d) 240 Q (zB 240 13) [.ref 164, zi c, zi (zDown ρ : Nat), zi (F : Nat), zi t, zi (k : Int), zi (zQn ρ b F), x7] [] (s, V1) := by
  obtain ⟨n0, n1, cc0, cc1⟩ := hW.1
  intro k
  induction k with
  | zero =>
    intro b V1 x7 hk hM1 hC1 hN1 hI hB hK
    have := hK V1 (zi 0) (zi (zQn ρ b F)) zFm.rf hB
    have e0 : ((0 : Nat) : Int) = 0 := rfl
    simp (disch := first | assumption | exact zk_240 | ((repeat (first | exact z1n | refine z1I ?_ | refine z1R ?_)); done) | exact rfl | omega | decide) only [zb_240_13, r_aload_0, r_inv_1_0, r_inv_1_1, r_inv_1_2, r_inv_1_3, r_inv_1_4, r_K0, r_K1, r_istore_2i, r_istore_2r, r_istore_2j, r_iconst, r_istore_3i, r_istore_3r, r_istore_3j, r_istore_4i, r_istore_4r, r_istore_4j, r_goto_w, r_iload_4, r_icmp_ge, r_gf_677, r_iastore, r_iinc_4i, r_iinc_4r, r_iinc_4j, r_goto, r_iload_3, r_iload_2, r_icmp_eq, r_iload_1, r_istore_5i, r_istore_5r, r_istore_5j, r_istore_6i, r_istore_6r, r_istore_6j, r_iload_6, r_gf_640, r_ial, r_ial30, r_ial32, r_ishr, r_iand, r_if_ne, r_inv_3_0, r_inv_3_1, r_inv_3_2, r_inv_3_3, r_inv_3_4, r_iadd, r_icmp_gt, r_istore_7i, r_istore_7r, r_istore_7j, r_iload_7, r_if_eq, r_ishl, r_ior, r_iload_5, r_isub, r_iinc_6i, r_iinc_6r, r_iinc_6j, r_if_le, r_iinc_5i, r_iinc_5r, r_iinc_5j, r_icmp_ne, r_iret, r_bret_0, r_bret_1, e0, Int.le_refl, ↓reduceIte, not_true_eq_false, not_false_eq_true, Int.reduceEq, Int.reduceLE, Int.reduceLT, Int.reduceAdd, Int.reduceNeg, Int.reduceMul, Int.reduceSub, Int.reduceToNat]
    exact this
  | succ k ih =>
    intro b V1 x7 hk hM1 hC1 hN1 hI hB hK
    have t0 := hI.2.2.2
    have es : zQs ρ F t (k + 1) b = if zQn ρ b F = -1 then b else zQs ρ F t k (zUpd b (zQn ρ b F) t) := rfl
    have ek : ((k + 1 : Nat) : Int) + -1 = (k : Int) := by omega
    rw [es] at hK
    by_cases cn : zQn ρ b F = -1
    · rw [if_pos cn] at hK
      have := hK V1 (zi ((k + 1 : Nat) : Int)) (zi (-1)) zFm.rf hB
      rw [cn]
      conv => rw [zb_240_13]
      simp (disch := first | assumption | exact zk_240 | ((repeat (first | exact z1n | refine z1I ?_ | refine z1R ?_)); done) | exact rfl | omega | decide) only [r_aload_0, r_inv_1_0, r_inv_1_1, r_inv_1_2, r_inv_1_3, r_inv_1_4, r_K0, r_K1, r_istore_2i, r_istore_2r, r_istore_2j, r_iconst, r_istore_3i, r_istore_3r, r_istore_3j, r_istore_4i, r_istore_4r, r_istore_4j, r_goto_w, r_iload_4, r_icmp_ge, r_gf_677, r_iastore, r_iinc_4i, r_iinc_4r, r_iinc_4j, r_goto, r_iload_3, r_iload_2, r_icmp_eq, r_iload_1, r_istore_5i, r_istore_5r, r_istore_5j, r_istore_6i, r_istore_6r, r_istore_6j, r_iload_6, r_gf_640, r_ial, r_ial30, r_ial32, r_ishr, r_iand, r_if_ne, r_inv_3_0, r_inv_3_1, r_inv_3_2, r_inv_3_3, r_inv_3_4, r_iadd, r_icmp_gt, r_istore_7i, r_istore_7r, r_istore_7j, r_iload_7, r_if_eq, r_ishl, r_ior, r_iload_5, r_isub, r_iinc_6i, r_iinc_6r, r_iinc_6j, r_if_le, r_iinc_5i, r_iinc_5r, r_iinc_5j, r_icmp_ne, r_iret, r_bret_0, r_bret_1, ↓reduceIte, not_true_eq_false, not_false_eq_true, Int.reduceEq, Int.reduceLE, Int.reduceLT, Int.reduceAdd, Int.reduceNeg, Int.reduceMul, Int.reduceSub, Int.reduceToNat]
      rw [if_neg (by omega)]
      exact this
    · rw [if_neg cn] at hK
      rcases zQnk_is (ρ := ρ) (b := b) (F := F) n0 with ⟨i1, -⟩ | ⟨⟨i1, i2⟩, i3⟩
      · exact absurd i1 cn
      · have i1 : 0 ≤ zQn ρ b F := i1
        have i2 : zQn ρ b F < ρ.n := i2
        have hI2 := hI.upd hW cn
        generalize hy : zQn ρ b F = y at *
        have v37 : V1 164 37 = .ref 187 := (hM1.2 22 (by decide)).1
        have tv : s.tg 187 = 20 := (hM1.2 22 (by decide)).2.1
        have lv : s.ln 187 = 12 := (hM1.2 22 (by decide)).2.2
        have f2 : zFm [187] [] V1 (zput V1 187 y (zi t)) := zFm.rf.pr (by simp) (by omega)
        have hM2 := hM1.fm f2 (by decide)
        have hC2 := hC1.fm f2 (by decide)
        have hN2 : zMn9 ρ (zput V1 187 y (zi t)) := by unfold zMn9; rw [f2.1 169 (by decide) (by decide)]; exact hN1
        have hB2 : zBn (zUpd b y t) (zput V1 187 y (zi t)) := fun x x0 x1 => by
          unfold zUpd
          by_cases q : x = y
          · rw [if_pos q, q, zput_at]
          · rw [if_neg q, zput_k q]; exact hB x x0 x1
        have step := ih (zUpd b y t) (zput V1 187 y (zi t)) x7 (by omega) hM2 hC2 hN2 hI2 hB2 (fun V2 x5 x6 g2 hB3 => hK V2 x5 x6 (f2.tr g2) hB3)
        have hnb : ∀ K, zcall d 239 [.ref 164, zi (zDown ρ : Nat), zi (F : Nat)] (s, zput V1 187 y (zi t)) K = K (.inl (some (zi (zQn ρ (zUpd b y t) F)))) (s, zput V1 187 y (zi t)) := fun K => m_nextBegun hd hM2 hC2 hW hN2 hB2 hI2 t1
        have tM := hM1.1
        conv => rw [zb_240_13]
        simp (disch := first | assumption | exact zk_240 | ((repeat (first | exact z1n | refine z1I ?_ | refine z1R ?_)); done) | exact rfl | omega | decide) only [r_aload_0, r_inv_1_0, r_inv_1_1, r_inv_1_2, r_inv_1_3, r_inv_1_4, r_K0, r_K1, r_istore_2i, r_istore_2r, r_istore_2j, r_iconst, r_istore_3i, r_istore_3r, r_istore_3j, r_istore_4i, r_istore_4r, r_istore_4j, r_goto_w, r_iload_4, r_icmp_ge, r_gf_677, r_iastore, r_iinc_4i, r_iinc_4r, r_iinc_4j, r_goto, r_iload_3, r_iload_2, r_icmp_eq, r_iload_1, r_istore_5i, r_istore_5r, r_istore_5j, r_istore_6i, r_istore_6r, r_istore_6j, r_iload_6, r_gf_640, r_ial, r_ial30, r_ial32, r_ishr, r_iand, r_if_ne, r_inv_3_0, r_inv_3_1, r_inv_3_2, r_inv_3_3, r_inv_3_4, r_iadd, r_icmp_gt, r_istore_7i, r_istore_7r, r_istore_7j, r_iload_7, r_if_eq, r_ishl, r_ior, r_iload_5, r_isub, r_iinc_6i, r_iinc_6r, r_iinc_6j, r_if_le, r_iinc_5i, r_iinc_5r, r_iinc_5j, r_icmp_ne, r_iret, r_bret_0, r_bret_1, v37, hnb, ek, ↓reduceIte, not_true_eq_false, not_false_eq_true, Int.reduceEq, Int.reduceLE, Int.reduceLT, Int.reduceAdd, Int.reduceNeg, Int.reduceMul, Int.reduceSub, Int.reduceToNat]
        rw [if_neg (by omega), if_neg (by omega)]
        exact step
set_option maxRecDepth 20000 in
/-- one turn of the clock -/
theorem m_turn (hd : 2 ≤ d) (hW : zWF ρ) {c : Int} (c1 : 1 ≤ c) (c4 : c ≤ 4) (t1 : t ≤ 100000) (hM : zMP s V) (hC : zMC ρ V) (hN : zMn9 ρ V) (hB : zBn b V) (hI : zQI ρ b F t) (hne : F ≠ zDown ρ) {x5 x6 x7 : Value} (hK : ∀ (V2 : zV) (y5 y6 y7 : Value), zFm [187] [] V V2 → zBn (zQb ρ c b F t) V2 → zwp (zcall d) 240 Q (zB 240 3) [.ref 164, zi c, zi (zDown ρ : Nat), zi (zQF ρ b F t : Nat), zi (t + (if zQF ρ b F t = zDown ρ then 0 else 1)), y5, y6, y7] [] (s, V2)) : zwp (zcall d) 240 Q (zB 240 3) [.ref 164, zi c, zi (zDown ρ : Nat), zi (F : Nat), zi t, x5, x6, x7] [] (s, V) := by
  obtain ⟨n0, n1, cc0, cc1⟩ := hW.1
  have tM := hM.1
  have vm_s : V 164 0 = .ref 165 := (hM.2 0 (by decide)).1
  have tm_s : s.tg 165 = 20 := (hM.2 0 (by decide)).2.1
  have lm_s : s.ln 165 = 230 := (hM.2 0 (by decide)).2.2
  have vm_begun : V 164 37 = .ref 187 := (hM.2 22 (by decide)).1
  have tm_begun : s.tg 187 = 20 := (hM.2 22 (by decide)).2.1
  have lm_begun : s.ln 187 = 12 := (hM.2 22 (by decide)).2.2
  have e0 := hC.1
  have hD := zDown_lt hW
  have hF := hI.1
  have t0 := hI.2.2.2
  have hne' : ¬ ((F : Nat) : Int) = ((zDown ρ : Nat) : Int) := by omega
  conv => rw [zb_240_3]
  simp (disch := first | assumption | exact zk_240 | ((repeat (first | exact z1n | refine z1I ?_ | refine z1R ?_)); done) | exact rfl | omega | decide) only [r_aload_0, r_inv_1_0, r_inv_1_1, r_inv_1_2, r_inv_1_3, r_inv_1_4, r_K0, r_K1, r_istore_2i, r_istore_2r, r_istore_2j, r_iconst, r_istore_3i, r_istore_3r, r_istore_3j, r_istore_4i, r_istore_4r, r_istore_4j, r_goto_w, r_iload_4, r_icmp_ge, r_gf_677, r_iastore, r_iinc_4i, r_iinc_4r, r_iinc_4j, r_goto, r_iload_3, r_iload_2, r_icmp_eq, r_iload_1, r_istore_5i, r_istore_5r, r_istore_5j, r_istore_6i, r_istore_6r, r_istore_6j, r_iload_6, r_gf_640, r_ial, r_ial30, r_ial32, r_ishr, r_iand, r_if_ne, r_inv_3_0, r_inv_3_1, r_inv_3_2, r_inv_3_3, r_inv_3_4, r_iadd, r_icmp_gt, r_istore_7i, r_istore_7r, r_istore_7j, r_iload_7, r_if_eq, r_ishl, r_ior, r_iload_5, r_isub, r_iinc_6i, r_iinc_6r, r_iinc_6j, r_if_le, r_iinc_5i, r_iinc_5r, r_iinc_5j, r_icmp_ne, r_iret, r_bret_0, r_bret_1, vm_s, vm_begun, ↓reduceIte, not_true_eq_false, not_false_eq_true, Int.reduceEq, Int.reduceLE, Int.reduceLT, Int.reduceAdd, Int.reduceNeg, Int.reduceMul, Int.reduceSub, Int.reduceToNat]
  rw [if_neg hne']
  have hlp := z_iter (i := 0) (n := ρ.n) (I := fun _ (_ : Value) => True) (P := fun k q => zwp (zcall d) 240 Q (zB 240 4) [.ref 164, zi c, zi (zDown ρ : Nat), zi ((F ||| zms (fun x => zin (zQr ρ b F) x && decide (b x + ρ.S 3 x ≤ t)) k : Nat) : Int), zi t, zi (c - zct (fun x => zin (zQr ρ b F) x && !decide (b x + ρ.S 3 x ≤ t)) k), zi k, q] [] (s, V)) n0
  have hst : zwp (zcall d) 240 Q (zB 240 4) [.ref 164, zi c, zi (zDown ρ : Nat), zi ((F ||| zms (fun x => zin (zQr ρ b F) x && decide (b x + ρ.S 3 x ≤ t)) 0 : Nat) : Int), zi t, zi (c - zct (fun x => zin (zQr ρ b F) x && !decide (b x + ρ.S 3 x ≤ t)) 0), zi 0, x7] [] (s, V) := by
    refine hlp ?_ ?_ x7 trivial
    · rintro k q k0 k1 - ih
      have ih' := fun v => ih v trivial
      have hm : zms (fun x => zin (zQr ρ b F) x && decide (b x + ρ.S 3 x ≤ t)) k < 4096 := zms_lt k0 (by omega)
      have hFk : F ||| zms (fun x => zin (zQr ρ b F) x && decide (b x + ρ.S 3 x ≤ t)) k < 4096 := zor_lt hF hm
      have hct := zct_rng (p := fun x => zin (zQr ρ b F) x && !decide (b x + ρ.S 3 x ≤ t)) k0
      have hzo : zone k < 4096 := zone_lt (by omega)
      have hb := hB k k0 (by omega)
      have w := (hW.2.1 k k0 k1).2.2.2.1
      have hbr : -1 ≤ b k ∧ b k ≤ 100000 := by
        by_cases e : b k = -1
        · omega
        · have := hI.2.2.1 k e; omega
      have hin : zin (F ||| zms (fun x => zin (zQr ρ b F) x && decide (b x + ρ.S 3 x ≤ t)) k) k = zin F k := by
        rw [zin_or]
        have : zin (zms (fun x => zin (zQr ρ b F) x && decide (b x + ρ.S 3 x ≤ t)) k) k = false := by
          cases z : zin (zms (fun x => zin (zQr ρ b F) x && decide (b x + ρ.S 3 x ≤ t)) k) k
          · rfl
          · have := ((zms_bit k0 k0).mp z).1; omega
        rw [this, Bool.or_false]
      have hz := zhas (a := F ||| zms (fun x => zin (zQr ρ b F) x && decide (b x + ρ.S 3 x ≤ t)) k) (x := k) (by omega) k0 (by omega)
      rw [hin] at hz
      rw [zms_s k0, zct_s k0] at ih'
      generalize hG : zms (fun x => zin (zQr ρ b F) x && decide (b x + ρ.S 3 x ≤ t)) k = G at *
      generalize hct2 : zct (fun x => zin (zQr ρ b F) x && !decide (b x + ρ.S 3 x ≤ t)) k = ct at *
      conv => rw [zb_240_4]
      by_cases c2 : b k = -1
      · have hr : zin (zQr ρ b F) k = false := by
          cases z : zin (zQr ρ b F) k
          · rfl
          · exact absurd c2 ((zQr_bit n0 k0).mp z).2.1
        rw [hr, if_neg (by rw [Bool.false_and]; exact Bool.false_ne_true), if_neg (by rw [Bool.false_and]; exact Bool.false_ne_true)] at ih'
        rw [c2] at hb
        simp (disch := first | assumption | exact zk_240 | ((repeat (first | exact z1n | refine z1I ?_ | refine z1R ?_)); done) | exact rfl | omega | decide) only [zb_240_11, r_aload_0, r_inv_1_0, r_inv_1_1, r_inv_1_2, r_inv_1_3, r_inv_1_4, r_K0, r_K1, r_istore_2i, r_istore_2r, r_istore_2j, r_iconst, r_istore_3i, r_istore_3r, r_istore_3j, r_istore_4i, r_istore_4r, r_istore_4j, r_goto_w, r_iload_4, r_icmp_ge, r_gf_677, r_iastore, r_iinc_4i, r_iinc_4r, r_iinc_4j, r_goto, r_iload_3, r_iload_2, r_icmp_eq, r_iload_1, r_istore_5i, r_istore_5r, r_istore_5j, r_istore_6i, r_istore_6r, r_istore_6j, r_iload_6, r_gf_640, r_ial, r_ial30, r_ial32, r_ishr, r_iand, r_if_ne, r_inv_3_0, r_inv_3_1, r_inv_3_2, r_inv_3_3, r_inv_3_4, r_iadd, r_icmp_gt, r_istore_7i, r_istore_7r, r_istore_7j, r_iload_7, r_if_eq, r_ishl, r_ior, r_iload_5, r_isub, r_iinc_6i, r_iinc_6r, r_iinc_6j, r_if_le, r_iinc_5i, r_iinc_5r, r_iinc_5j, r_icmp_ne, r_iret, r_bret_0, r_bret_1, vm_s, vm_begun, e0, hb, ↓reduceIte, not_true_eq_false, not_false_eq_true, Int.reduceEq, Int.reduceLE, Int.reduceLT, Int.reduceAdd, Int.reduceNeg, Int.reduceMul, Int.reduceSub, Int.reduceToNat]
        rw [if_neg (by omega)]
        exact ih' _
      · by_cases c3 : zin F k = true
        · have hr : zin (zQr ρ b F) k = false := by
            cases z : zin (zQr ρ b F) k
            · rfl
            · have := ((zQr_bit n0 k0).mp z).2.2
              rw [c3] at this; cases this
          rw [hr, if_neg (by rw [Bool.false_and]; exact Bool.false_ne_true), if_neg (by rw [Bool.false_and]; exact Bool.false_ne_true)] at ih'
          rw [if_pos c3] at hz
          simp (disch := first | assumption | exact zk_240 | ((repeat (first | exact z1n | refine z1I ?_ | refine z1R ?_)); done) | exact rfl | omega | decide) only [zb_240_11, r_aload_0, r_inv_1_0, r_inv_1_1, r_inv_1_2, r_inv_1_3, r_inv_1_4, r_K0, r_K1, r_istore_2i, r_istore_2r, r_istore_2j, r_iconst, r_istore_3i, r_istore_3r, r_istore_3j, r_istore_4i, r_istore_4r, r_istore_4j, r_goto_w, r_iload_4, r_icmp_ge, r_gf_677, r_iastore, r_iinc_4i, r_iinc_4r, r_iinc_4j, r_goto, r_iload_3, r_iload_2, r_icmp_eq, r_iload_1, r_istore_5i, r_istore_5r, r_istore_5j, r_istore_6i, r_istore_6r, r_istore_6j, r_iload_6, r_gf_640, r_ial, r_ial30, r_ial32, r_ishr, r_iand, r_if_ne, r_inv_3_0, r_inv_3_1, r_inv_3_2, r_inv_3_3, r_inv_3_4, r_iadd, r_icmp_gt, r_istore_7i, r_istore_7r, r_istore_7j, r_iload_7, r_if_eq, r_ishl, r_ior, r_iload_5, r_isub, r_iinc_6i, r_iinc_6r, r_iinc_6j, r_if_le, r_iinc_5i, r_iinc_5r, r_iinc_5j, r_icmp_ne, r_iret, r_bret_0, r_bret_1, vm_s, vm_begun, e0, hb, hz, c2, ↓reduceIte, not_true_eq_false, not_false_eq_true, Int.reduceEq, Int.reduceLE, Int.reduceLT, Int.reduceAdd, Int.reduceNeg, Int.reduceMul, Int.reduceSub, Int.reduceToNat]
          rw [if_neg (by omega)]
          exact ih' _
        · have hr : zin (zQr ρ b F) k = true := (zQr_bit n0 k0).mpr ⟨k1, c2, by simpa using c3⟩
          rw [if_neg c3] at hz
          rw [hr] at ih'
          by_cases c5 : b k + ρ.S 3 k ≤ t
          · rw [decide_eq_true c5, if_pos (by decide), if_neg (by decide), ← Nat.or_assoc] at ih'
            simp (disch := first | assumption | exact zk_240 | ((repeat (first | exact z1n | refine z1I ?_ | refine z1R ?_)); done) | exact rfl | omega | decide) only [zb_240_5, zb_240_6, zb_240_7, zb_240_8, zb_240_9, zb_240_10, zb_240_11, r_aload_0, r_inv_1_0, r_inv_1_1, r_inv_1_2, r_inv_1_3, r_inv_1_4, r_K0, r_K1, r_istore_2i, r_istore_2r, r_istore_2j, r_iconst, r_istore_3i, r_istore_3r, r_istore_3j, r_istore_4i, r_istore_4r, r_istore_4j, r_goto_w, r_iload_4, r_icmp_ge, r_gf_677, r_iastore, r_iinc_4i, r_iinc_4r, r_iinc_4j, r_goto, r_iload_3, r_iload_2, r_icmp_eq, r_iload_1, r_istore_5i, r_istore_5r, r_istore_5j, r_istore_6i, r_istore_6r, r_istore_6j, r_iload_6, r_gf_640, r_ial, r_ial30, r_ial32, r_ishr, r_iand, r_if_ne, r_inv_3_0, r_inv_3_1, r_inv_3_2, r_inv_3_3, r_inv_3_4, r_iadd, r_icmp_gt, r_istore_7i, r_istore_7r, r_istore_7j, r_iload_7, r_if_eq, r_ishl, r_ior, r_iload_5, r_isub, r_iinc_6i, r_iinc_6r, r_iinc_6j, r_if_le, r_iinc_5i, r_iinc_5r, r_iinc_5j, r_icmp_ne, r_iret, r_bret_0, r_bret_1, vm_s, vm_begun, e0, hb, hz, c2, m_of (hC := hC), zshl_z, zor_n, Int.sub_zero, ↓reduceIte, not_true_eq_false, not_false_eq_true, Int.reduceEq, Int.reduceLE, Int.reduceLT, Int.reduceAdd, Int.reduceNeg, Int.reduceMul, Int.reduceSub, Int.reduceToNat]
            rw [if_neg (by omega), if_neg (by omega)]
            exact ih' _
          · rw [decide_eq_false c5, if_neg (by decide), if_pos (by decide), show c - (ct + 1) = c - ct - 1 by omega] at ih'
            simp (disch := first | assumption | exact zk_240 | ((repeat (first | exact z1n | refine z1I ?_ | refine z1R ?_)); done) | exact rfl | omega | decide) only [zb_240_5, zb_240_6, zb_240_7, zb_240_8, zb_240_9, zb_240_10, zb_240_11, r_aload_0, r_inv_1_0, r_inv_1_1, r_inv_1_2, r_inv_1_3, r_inv_1_4, r_K0, r_K1, r_istore_2i, r_istore_2r, r_istore_2j, r_iconst, r_istore_3i, r_istore_3r, r_istore_3j, r_istore_4i, r_istore_4r, r_istore_4j, r_goto_w, r_iload_4, r_icmp_ge, r_gf_677, r_iastore, r_iinc_4i, r_iinc_4r, r_iinc_4j, r_goto, r_iload_3, r_iload_2, r_icmp_eq, r_iload_1, r_istore_5i, r_istore_5r, r_istore_5j, r_istore_6i, r_istore_6r, r_istore_6j, r_iload_6, r_gf_640, r_ial, r_ial30, r_ial32, r_ishr, r_iand, r_if_ne, r_inv_3_0, r_inv_3_1, r_inv_3_2, r_inv_3_3, r_inv_3_4, r_iadd, r_icmp_gt, r_istore_7i, r_istore_7r, r_istore_7j, r_iload_7, r_if_eq, r_ishl, r_ior, r_iload_5, r_isub, r_iinc_6i, r_iinc_6r, r_iinc_6j, r_if_le, r_iinc_5i, r_iinc_5r, r_iinc_5j, r_icmp_ne, r_iret, r_bret_0, r_bret_1, vm_s, vm_begun, e0, hb, hz, c2, m_of (hC := hC), zor_0, ↓reduceIte, not_true_eq_false, not_false_eq_true, Int.reduceEq, Int.reduceLE, Int.reduceLT, Int.reduceAdd, Int.reduceNeg, Int.reduceMul, Int.reduceSub, Int.reduceToNat]
            rw [if_neg (by omega), if_pos (by omega)]
            exact ih' _
    · rintro q -
      have hFe : F ||| zms (fun x => zin (zQr ρ b F) x && decide (b x + ρ.S 3 x ≤ t)) ρ.n = zQF ρ b F t := rfl
      have hce : zct (fun x => zin (zQr ρ b F) x && !decide (b x + ρ.S 3 x ≤ t)) ρ.n = zpop (zQr ρ b (zQF ρ b F t)) := by
        unfold zQr
        rw [zpop_ms n0 n1]
        refine zfo_congr n0 (fun x y x0 x1 => ?_)
        have : (zin (zms (fun x => decide (b x ≠ -1) && !zin F x) ρ.n) x && !decide (b x + ρ.S 3 x ≤ t)) = (decide (b x ≠ -1) && !zin (zQF ρ b F t) x) := by
          rw [Bool.eq_iff_iff, Bool.and_eq_true, Bool.not_eq_true', decide_eq_false_iff_not, Bool.and_eq_true, Bool.not_eq_true', decide_eq_true_eq]
          have hrb : zin (zms (fun x => decide (b x ≠ -1) && !zin F x) ρ.n) x = true ↔ _ := zQr_bit (ρ := ρ) (b := b) (F := F) n0 x0
          rw [hrb]
          have hfi := zQF_in (ρ := ρ) (b := b) (F := F) (t := t) n0 x0
          constructor
          · rintro ⟨⟨g1, g2, g3⟩, g4⟩
            refine ⟨g2, ?_⟩
            cases z : zin (zQF ρ b F t) x
            · rfl
            · rcases hfi.mp z with q | q
              · rw [q] at g3; cases g3
              · exact absurd q.2.2.2 g4
          · rintro ⟨g1, g2⟩
            have g3 : zin F x = false := by
              cases z : zin F x
              · rfl
              · rw [hfi.mpr (Or.inl z)] at g2; cases g2
            refine ⟨⟨x1, g1, g3⟩, fun z => ?_⟩
            rw [hfi.mpr (Or.inr ⟨x1, g1, g3, z⟩)] at g2; cases g2
        simp only [this]
      rw [hFe, hce]
      have hI2 := hI.F hW
      have hF2 := hI2.1
      have hpo := zpop_rng (v := zQr ρ b (zQF ρ b F t))
      have hnb : ∀ K, zcall d 239 [.ref 164, zi (zDown ρ : Nat), zi (zQF ρ b F t : Nat)] (s, V) K = K (.inl (some (zi (zQn ρ b (zQF ρ b F t))))) (s, V) := fun K => m_nextBegun hd hM hC hW hN hB hI2 t1
      simp (disch := first | assumption | exact zk_240 | ((repeat (first | exact z1n | refine z1I ?_ | refine z1R ?_)); done) | exact rfl | omega | decide) only [zb_240_4, zb_240_12, r_aload_0, r_inv_1_0, r_inv_1_1, r_inv_1_2, r_inv_1_3, r_inv_1_4, r_K0, r_K1, r_istore_2i, r_istore_2r, r_istore_2j, r_iconst, r_istore_3i, r_istore_3r, r_istore_3j, r_istore_4i, r_istore_4r, r_istore_4j, r_goto_w, r_iload_4, r_icmp_ge, r_gf_677, r_iastore, r_iinc_4i, r_iinc_4r, r_iinc_4j, r_goto, r_iload_3, r_iload_2, r_icmp_eq, r_iload_1, r_istore_5i, r_istore_5r, r_istore_5j, r_istore_6i, r_istore_6r, r_istore_6j, r_iload_6, r_gf_640, r_ial, r_ial30, r_ial32, r_ishr, r_iand, r_if_ne, r_inv_3_0, r_inv_3_1, r_inv_3_2, r_inv_3_3, r_inv_3_4, r_iadd, r_icmp_gt, r_istore_7i, r_istore_7r, r_istore_7j, r_iload_7, r_if_eq, r_ishl, r_ior, r_iload_5, r_isub, r_iinc_6i, r_iinc_6r, r_iinc_6j, r_if_le, r_iinc_5i, r_iinc_5r, r_iinc_5j, r_icmp_ne, r_iret, r_bret_0, r_bret_1, vm_s, vm_begun, e0, Int.le_refl, hnb, ↓reduceIte, not_true_eq_false, not_false_eq_true, Int.reduceEq, Int.reduceLE, Int.reduceLT, Int.reduceAdd, Int.reduceNeg, Int.reduceMul, Int.reduceSub, Int.reduceToNat]
      have tail : ∀ (V2 : zV) (x5 x6 : Value), zFm [187] [] V V2 → zBn (zQb ρ c b F t) V2 → zwp (zcall d) 240 Q (zB 240 14) [.ref 164, zi c, zi (zDown ρ : Nat), zi (zQF ρ b F t : Nat), zi t, x5, x6, q] [] (s, V2) := by
        intro V2 y5 y6 g2 hB2
        have := hK V2 y5 y6 q g2 hB2
        by_cases z : zQF ρ b F t = zDown ρ
        · have z' : ((zQF ρ b F t : Nat) : Int) = ((zDown ρ : Nat) : Int) := by rw [z]
          rw [if_pos z] at this
          conv => rw [zb_240_14]
          simp (disch := first | assumption | exact zk_240 | ((repeat (first | exact z1n | refine z1I ?_ | refine z1R ?_)); done) | exact rfl | omega | decide) only [zb_240_15, zb_240_16, r_aload_0, r_inv_1_0, r_inv_1_1, r_inv_1_2, r_inv_1_3, r_inv_1_4, r_K0, r_K1, r_istore_2i, r_istore_2r, r_istore_2j, r_iconst, r_istore_3i, r_istore_3r, r_istore_3j, r_istore_4i, r_istore_4r, r_istore_4j, r_goto_w, r_iload_4, r_icmp_ge, r_gf_677, r_iastore, r_iinc_4i, r_iinc_4r, r_iinc_4j, r_goto, r_iload_3, r_iload_2, r_icmp_eq, r_iload_1, r_istore_5i, r_istore_5r, r_istore_5j, r_istore_6i, r_istore_6r, r_istore_6j, r_iload_6, r_gf_640, r_ial, r_ial30, r_ial32, r_ishr, r_iand, r_if_ne, r_inv_3_0, r_inv_3_1, r_inv_3_2, r_inv_3_3, r_inv_3_4, r_iadd, r_icmp_gt, r_istore_7i, r_istore_7r, r_istore_7j, r_iload_7, r_if_eq, r_ishl, r_ior, r_iload_5, r_isub, r_iinc_6i, r_iinc_6r, r_iinc_6j, r_if_le, r_iinc_5i, r_iinc_5r, r_iinc_5j, r_icmp_ne, r_iret, r_bret_0, r_bret_1, vm_s, vm_begun, ↓reduceIte, not_true_eq_false, not_false_eq_true, Int.reduceEq, Int.reduceLE, Int.reduceLT, Int.reduceAdd, Int.reduceNeg, Int.reduceMul, Int.reduceSub, Int.reduceToNat]
          rw [if_neg (by omega)]
          exact this
        · have z' : ¬ ((zQF ρ b F t : Nat) : Int) = ((zDown ρ : Nat) : Int) := by omega
          rw [if_neg z] at this
          conv => rw [zb_240_14]
          simp (disch := first | assumption | exact zk_240 | ((repeat (first | exact z1n | refine z1I ?_ | refine z1R ?_)); done) | exact rfl | omega | decide) only [zb_240_15, zb_240_16, r_aload_0, r_inv_1_0, r_inv_1_1, r_inv_1_2, r_inv_1_3, r_inv_1_4, r_K0, r_K1, r_istore_2i, r_istore_2r, r_istore_2j, r_iconst, r_istore_3i, r_istore_3r, r_istore_3j, r_istore_4i, r_istore_4r, r_istore_4j, r_goto_w, r_iload_4, r_icmp_ge, r_gf_677, r_iastore, r_iinc_4i, r_iinc_4r, r_iinc_4j, r_goto, r_iload_3, r_iload_2, r_icmp_eq, r_iload_1, r_istore_5i, r_istore_5r, r_istore_5j, r_istore_6i, r_istore_6r, r_istore_6j, r_iload_6, r_gf_640, r_ial, r_ial30, r_ial32, r_ishr, r_iand, r_if_ne, r_inv_3_0, r_inv_3_1, r_inv_3_2, r_inv_3_3, r_inv_3_4, r_iadd, r_icmp_gt, r_istore_7i, r_istore_7r, r_istore_7j, r_iload_7, r_if_eq, r_ishl, r_ior, r_iload_5, r_isub, r_iinc_6i, r_iinc_6r, r_iinc_6j, r_if_le, r_iinc_5i, r_iinc_5r, r_iinc_5j, r_icmp_ne, r_iret, r_bret_0, r_bret_1, vm_s, vm_begun, ↓reduceIte, not_true_eq_false, not_false_eq_true, Int.reduceEq, Int.reduceLE, Int.reduceLT, Int.reduceAdd, Int.reduceNeg, Int.reduceMul, Int.reduceSub, Int.reduceToNat]
          rw [if_pos z']
          exact this
      by_cases hfree : 0 ≤ c - zpop (zQr ρ b (zQF ρ b F t))
      · have hk : c - zpop (zQr ρ b (zQF ρ b F t)) = (((c - zpop (zQr ρ b (zQF ρ b F t))).toNat : Nat) : Int) := by omega
        rw [hk]
        exact m_starts hd hW t1 _ b V _ (by omega) hM hC hN hI2 hB tail
      · have hk : (c - zpop (zQr ρ b (zQF ρ b F t))).toNat = 0 := by omega
        have hb0 : zQb ρ c b F t = b := by unfold zQb; rw [hk]; rfl
        rw [hb0] at tail
        have := tail V (zi (c - zpop (zQr ρ b (zQF ρ b F t)))) (zi (zQn ρ b (zQF ρ b F t))) zFm.rf hB
        conv => rw [zb_240_13]
        simp (disch := first | assumption | exact zk_240 | ((repeat (first | exact z1n | refine z1I ?_ | refine z1R ?_)); done) | exact rfl | omega | decide) only [r_aload_0, r_inv_1_0, r_inv_1_1, r_inv_1_2, r_inv_1_3, r_inv_1_4, r_K0, r_K1, r_istore_2i, r_istore_2r, r_istore_2j, r_iconst, r_istore_3i, r_istore_3r, r_istore_3j, r_istore_4i, r_istore_4r, r_istore_4j, r_goto_w, r_iload_4, r_icmp_ge, r_gf_677, r_iastore, r_iinc_4i, r_iinc_4r, r_iinc_4j, r_goto, r_iload_3, r_iload_2, r_icmp_eq, r_iload_1, r_istore_5i, r_istore_5r, r_istore_5j, r_istore_6i, r_istore_6r, r_istore_6j, r_iload_6, r_gf_640, r_ial, r_ial30, r_ial32, r_ishr, r_iand, r_if_ne, r_inv_3_0, r_inv_3_1, r_inv_3_2, r_inv_3_3, r_inv_3_4, r_iadd, r_icmp_gt, r_istore_7i, r_istore_7r, r_istore_7j, r_iload_7, r_if_eq, r_ishl, r_ior, r_iload_5, r_isub, r_iinc_6i, r_iinc_6r, r_iinc_6j, r_if_le, r_iinc_5i, r_iinc_5r, r_iinc_5j, r_icmp_ne, r_iret, r_bret_0, r_bret_1, vm_s, vm_begun, ↓reduceIte, not_true_eq_false, not_false_eq_true, Int.reduceEq, Int.reduceLE, Int.reduceLT, Int.reduceAdd, Int.reduceNeg, Int.reduceMul, Int.reduceSub, Int.reduceToNat]
        rw [if_pos (by omega)]
        exact this
  rw [zms_0, Nat.or_zero, show zct (fun x => zin (zQr ρ b F) x && !decide (b x + ρ.S 3 x ≤ t)) 0 = 0 from rfl, Int.sub_zero] at hst
  exact hst
theorem zQ_over {ρ : zR} (hW : zWF ρ) {b : Int → Int} {F : Nat} {t : Int} (hI : zQI ρ b F t) (hne : zQr ρ b F ≠ 0) : zQo ρ b F (zQe ρ b F) ≠ 0 := fun e => by
  have hn := hW.1
  obtain ⟨⟨x, x0, x1, hx, he⟩, -⟩ := zQe_is hW hI hne
  obtain ⟨g1, g2, g3⟩ := (zQr_bit hn.1 x0).mp hx
  have : zin (zQo ρ b F (zQe ρ b F)) x = true := (zQo_bit hn.1 x0).mpr ⟨g1, g2, g3, by omega⟩
  rw [e, zin_zero] at this
  cases this
theorem zQ_pop {ρ : zR} (hW : zWF ρ) {b : Int → Int} {F : Nat} {t : Int} : zpop F ≤ zpop (zQF ρ b F t) ∧ (zQo ρ b F t ≠ 0 → zpop F < zpop (zQF ρ b F t)) := by
  have hn := hW.1
  have hs : ∀ x, 0 ≤ x → x < 12 → zin F x = true → zin (zQF ρ b F t) x = true := fun x x0 _ hx => (zQF_in hn.1 x0).mpr (Or.inl hx)
  refine ⟨zpop_mono hs, fun hne => ?_⟩
  obtain ⟨x, x0, x1, hx⟩ : ∃ x, 0 ≤ x ∧ x < 12 ∧ zin (zQo ρ b F t) x = true := by
    apply Classical.byContradiction
    intro hno
    refine hne (zset_ext (zQo_lt hW) (by omega) (fun x x0 x1 => ?_))
    rw [zin_zero]
    cases c : zin (zQo ρ b F t) x
    · rfl
    · exact absurd ⟨x, x0, x1, c⟩ hno
  obtain ⟨g1, g2, g3, g4⟩ := (zQo_bit hn.1 x0).mp hx
  exact zct_lt hs x0 x1 g3 ((zQF_in hn.1 x0).mpr (Or.inr ⟨g1, g2, g3, g4⟩))
theorem zQ_lt {ρ : zR} (hW : zWF ρ) {b : Int → Int} {F : Nat} {t : Int} (hI : zQI ρ b F t) (hne : F ≠ zDown ρ) : zpop F < ρ.n := by
  have hn := hW.1
  have hs : ∀ x, 0 ≤ x → x < 12 → zin F x = true → zin (zDown ρ) x = true := fun x x0 _ hx => (hI.2.2.1 x (hI.2.1 x x0 hx)).2.1
  obtain ⟨x, x0, x1, hx, hy⟩ : ∃ x, 0 ≤ x ∧ x < 12 ∧ zin F x = false ∧ zin (zDown ρ) x = true := by
    apply Classical.byContradiction
    intro hno
    refine hne (zset_ext hI.1 (zDown_lt hW) (fun x x0 x1 => ?_))
    cases c : zin F x
    · cases c2 : zin (zDown ρ) x
      · rfl
      · exact absurd ⟨x, x0, x1, c, c2⟩ hno
    · exact (hs x x0 x1 c).symm
  have h1 : zpop F < zpop (zDown ρ) := zct_lt hs x0 x1 hx hy
  have h2 : zpop (zDown ρ) = zct (fun x => decide (ρ.S 6 x ≠ 1)) ρ.n := zpop_ms hn.1 hn.2.1
  have h3 := zct_rng (p := fun x => decide (ρ.S 6 x ≠ 1)) hn.1
  omega
set_option maxRecDepth 20000 in
theorem m_recovers (hd : 4 ≤ d) (hM : zMP s V) (hC : zMC ρ V) (hW : zWF ρ) {c : Int} (c1 : 1 ≤ c) (c4 : c ≤ 4) (hQ : ∀ V', zFm [169, 187] [] V V' → zBn (zQR ρ c).2 V' → Q (.inl (some (zi (zQR ρ c).1))) (s, V')) : zcall d 240 [.ref 164, zi c] (s, V) Q := by
  obtain ⟨n0, n1, cc0, cc1⟩ := hW.1
  have tM := hM.1
  have hD := zDown_lt hW
  obtain ⟨d, rfl⟩ : ∃ e, d = e + 1 := ⟨d - 1, by omega⟩
  rw [zc_240 tM]
  simp (disch := first | assumption | exact zk_240 | ((repeat (first | exact z1n | refine z1I ?_ | refine z1R ?_)); done) | exact rfl | omega | decide) only [zb_240_0, r_aload_0, r_inv_1_0, r_inv_1_1, r_inv_1_2, r_inv_1_3, r_inv_1_4, r_K0, r_K1, r_istore_2i, r_istore_2r, r_istore_2j, r_iconst, r_istore_3i, r_istore_3r, r_istore_3j, r_istore_4i, r_istore_4r, r_istore_4j, r_goto_w, r_iload_4, r_icmp_ge, r_gf_677, r_iastore, r_iinc_4i, r_iinc_4r, r_iinc_4j, r_goto, r_iload_3, r_iload_2, r_icmp_eq, r_iload_1, r_istore_5i, r_istore_5r, r_istore_5j, r_istore_6i, r_istore_6r, r_istore_6j, r_iload_6, r_gf_640, r_ial, r_ial30, r_ial32, r_ishr, r_iand, r_if_ne, r_inv_3_0, r_inv_3_1, r_inv_3_2, r_inv_3_3, r_inv_3_4, r_iadd, r_icmp_gt, r_istore_7i, r_istore_7r, r_istore_7j, r_iload_7, r_if_eq, r_ishl, r_ior, r_iload_5, r_isub, r_iinc_6i, r_iinc_6r, r_iinc_6j, r_if_le, r_iinc_5i, r_iinc_5r, r_iinc_5j, r_icmp_ne, r_iret, r_bret_0, r_bret_1, ↓reduceIte, not_true_eq_false, not_false_eq_true, Int.reduceEq, Int.reduceLE, Int.reduceLT, Int.reduceAdd, Int.reduceNeg, Int.reduceMul, Int.reduceSub, Int.reduceToNat]
  refine m_laysNeeds (by omega) hM hC hW (fun V0 f0 hN0 => ?_)
  have hM0 := hM.fm f0 (by decide)
  have hC0 := hC.fm f0 (by decide)
  simp (disch := first | assumption | exact zk_240 | ((repeat (first | exact z1n | refine z1I ?_ | refine z1R ?_)); done) | exact rfl | omega | decide) only [r_aload_0, r_inv_1_0, r_inv_1_1, r_inv_1_2, r_inv_1_3, r_inv_1_4, r_K0, r_K1, r_istore_2i, r_istore_2r, r_istore_2j, r_iconst, r_istore_3i, r_istore_3r, r_istore_3j, r_istore_4i, r_istore_4r, r_istore_4j, r_goto_w, r_iload_4, r_icmp_ge, r_gf_677, r_iastore, r_iinc_4i, r_iinc_4r, r_iinc_4j, r_goto, r_iload_3, r_iload_2, r_icmp_eq, r_iload_1, r_istore_5i, r_istore_5r, r_istore_5j, r_istore_6i, r_istore_6r, r_istore_6j, r_iload_6, r_gf_640, r_ial, r_ial30, r_ial32, r_ishr, r_iand, r_if_ne, r_inv_3_0, r_inv_3_1, r_inv_3_2, r_inv_3_3, r_inv_3_4, r_iadd, r_icmp_gt, r_istore_7i, r_istore_7r, r_istore_7j, r_iload_7, r_if_eq, r_ishl, r_ior, r_iload_5, r_isub, r_iinc_6i, r_iinc_6r, r_iinc_6j, r_if_le, r_iinc_5i, r_iinc_5r, r_iinc_5j, r_icmp_ne, r_iret, r_bret_0, r_bret_1, m_downs (hC := hC0), ↓reduceIte, not_true_eq_false, not_false_eq_true, Int.reduceEq, Int.reduceLE, Int.reduceLT, Int.reduceAdd, Int.reduceNeg, Int.reduceMul, Int.reduceSub, Int.reduceToNat]
  have v37 : V0 164 37 = .ref 187 := (hM0.2 22 (by decide)).1
  have tv : s.tg 187 = 20 := (hM0.2 22 (by decide)).2.1
  have lv : s.ln 187 = 12 := (hM0.2 22 (by decide)).2.2
  have hlp := z_iter (i := 0) (n := 12) (I := fun k (q : zV) => zFm [187] [] V0 q ∧ ∀ x, 0 ≤ x → x < k → q 187 x = zi (-1)) (P := fun k q => zwp (zcall d) 240 Q (zB 240 1) [.ref 164, zi c, zi (zDown ρ : Nat), zi 0, zi k, zJ, zJ, zJ] [] (s, q)) (by omega)
  refine hlp ?_ ?_ V0 ⟨zFm.rf, fun x _ _ => by omega⟩
  · rintro k V1 k0 k1 ⟨f1, e1⟩ ih
    have v37 : V1 164 37 = .ref 187 := (f1.2 37 (by simp)).trans v37
    have := ih (zput V1 187 k (zi (-1))) ⟨f1.pr (by simp) (by omega), fun x x0 x1 => by
      by_cases q : x = k
      · rw [q, zput_at]
      · rw [zput_k q]; exact e1 x x0 (by omega)⟩
    conv => rw [zb_240_1]
    simp (disch := first | assumption | exact zk_240 | ((repeat (first | exact z1n | refine z1I ?_ | refine z1R ?_)); done) | exact rfl | omega | decide) only [r_aload_0, r_inv_1_0, r_inv_1_1, r_inv_1_2, r_inv_1_3, r_inv_1_4, r_K0, r_K1, r_istore_2i, r_istore_2r, r_istore_2j, r_iconst, r_istore_3i, r_istore_3r, r_istore_3j, r_istore_4i, r_istore_4r, r_istore_4j, r_goto_w, r_iload_4, r_icmp_ge, r_gf_677, r_iastore, r_iinc_4i, r_iinc_4r, r_iinc_4j, r_goto, r_iload_3, r_iload_2, r_icmp_eq, r_iload_1, r_istore_5i, r_istore_5r, r_istore_5j, r_istore_6i, r_istore_6r, r_istore_6j, r_iload_6, r_gf_640, r_ial, r_ial30, r_ial32, r_ishr, r_iand, r_if_ne, r_inv_3_0, r_inv_3_1, r_inv_3_2, r_inv_3_3, r_inv_3_4, r_iadd, r_icmp_gt, r_istore_7i, r_istore_7r, r_istore_7j, r_iload_7, r_if_eq, r_ishl, r_ior, r_iload_5, r_isub, r_iinc_6i, r_iinc_6r, r_iinc_6j, r_if_le, r_iinc_5i, r_iinc_5r, r_iinc_5j, r_icmp_ne, r_iret, r_bret_0, r_bret_1, v37, ↓reduceIte, not_true_eq_false, not_false_eq_true, Int.reduceEq, Int.reduceLE, Int.reduceLT, Int.reduceAdd, Int.reduceNeg, Int.reduceMul, Int.reduceSub, Int.reduceToNat]
    rw [if_neg (by omega)]
    exact this
  · rintro V1 ⟨f1, e1⟩
    simp (disch := first | assumption | exact zk_240 | ((repeat (first | exact z1n | refine z1I ?_ | refine z1R ?_)); done) | exact rfl | omega | decide) only [zb_240_1, zb_240_2, r_aload_0, r_inv_1_0, r_inv_1_1, r_inv_1_2, r_inv_1_3, r_inv_1_4, r_K0, r_K1, r_istore_2i, r_istore_2r, r_istore_2j, r_iconst, r_istore_3i, r_istore_3r, r_istore_3j, r_istore_4i, r_istore_4r, r_istore_4j, r_goto_w, r_iload_4, r_icmp_ge, r_gf_677, r_iastore, r_iinc_4i, r_iinc_4r, r_iinc_4j, r_goto, r_iload_3, r_iload_2, r_icmp_eq, r_iload_1, r_istore_5i, r_istore_5r, r_istore_5j, r_istore_6i, r_istore_6r, r_istore_6j, r_iload_6, r_gf_640, r_ial, r_ial30, r_ial32, r_ishr, r_iand, r_if_ne, r_inv_3_0, r_inv_3_1, r_inv_3_2, r_inv_3_3, r_inv_3_4, r_iadd, r_icmp_gt, r_istore_7i, r_istore_7r, r_istore_7j, r_iload_7, r_if_eq, r_ishl, r_ior, r_iload_5, r_isub, r_iinc_6i, r_iinc_6r, r_iinc_6j, r_if_le, r_iinc_5i, r_iinc_5r, r_iinc_5j, r_icmp_ne, r_iret, r_bret_0, r_bret_1, ↓reduceIte, not_true_eq_false, not_false_eq_true, Int.reduceEq, Int.reduceLE, Int.reduceLT, Int.reduceAdd, Int.reduceNeg, Int.reduceMul, Int.reduceSub, Int.reduceToNat]
    have ctx : ∀ V2 : zV, zFm [187] [] V0 V2 → zMP s V2 ∧ zMC ρ V2 ∧ zMn9 ρ V2 := fun V2 f2 => ⟨hM0.fm f2 (by decide), hC0.fm f2 (by decide), by unfold zMn9; rw [f2.1 169 (by decide) (by decide)]; exact hN0⟩
    have exit : ∀ (b : Int → Int) (t : Int) (V2 : zV) (x5 x6 x7 : Value), 0 ≤ t → t ≤ 100000 → zFm [187] [] V0 V2 → zBn b V2 → (t, b) = zQR ρ c → zwp (zcall d) 240 Q (zB 240 3) [.ref 164, zi c, zi (zDown ρ : Nat), zi (zDown ρ : Nat), zi t, x5, x6, x7] [] (s, V2) := by
      intro b t V2 x5 x6 x7 t0 t1 f2 hB hz
      have h1 : (zQR ρ c).1 = t := by rw [← hz]
      have h2 : (zQR ρ c).2 = b := by rw [← hz]
      rw [h1, h2] at hQ
      have := hQ V2 ((f0.mono (by decide) (fun _ h => h)).tr (f2.mono (by decide) (fun _ h => h))) hB
      conv => rw [zb_240_3]
      simp (disch := first | assumption | exact zk_240 | ((repeat (first | exact z1n | refine z1I ?_ | refine z1R ?_)); done) | exact rfl | omega | decide) only [zb_240_17, r_aload_0, r_inv_1_0, r_inv_1_1, r_inv_1_2, r_inv_1_3, r_inv_1_4, r_K0, r_K1, r_istore_2i, r_istore_2r, r_istore_2j, r_iconst, r_istore_3i, r_istore_3r, r_istore_3j, r_istore_4i, r_istore_4r, r_istore_4j, r_goto_w, r_iload_4, r_icmp_ge, r_gf_677, r_iastore, r_iinc_4i, r_iinc_4r, r_iinc_4j, r_goto, r_iload_3, r_iload_2, r_icmp_eq, r_iload_1, r_istore_5i, r_istore_5r, r_istore_5j, r_istore_6i, r_istore_6r, r_istore_6j, r_iload_6, r_gf_640, r_ial, r_ial30, r_ial32, r_ishr, r_iand, r_if_ne, r_inv_3_0, r_inv_3_1, r_inv_3_2, r_inv_3_3, r_inv_3_4, r_iadd, r_icmp_gt, r_istore_7i, r_istore_7r, r_istore_7j, r_iload_7, r_if_eq, r_ishl, r_ior, r_iload_5, r_isub, r_iinc_6i, r_iinc_6r, r_iinc_6j, r_if_le, r_iinc_5i, r_iinc_5r, r_iinc_5j, r_icmp_ne, r_iret, r_bret_0, r_bret_1, ↓reduceIte, not_true_eq_false, not_false_eq_true, Int.reduceEq, Int.reduceLE, Int.reduceLT, Int.reduceAdd, Int.reduceNeg, Int.reduceMul, Int.reduceSub, Int.reduceToNat]
      exact this
    have main : ∀ (f : Nat) (i : Int), i + f = ρ.n + 1 → 0 ≤ i → ∀ (b : Int → Int) (F : Nat) (t : Int) (V2 : zV) (x5 x6 x7 : Value), zQI ρ b F t → t ≤ 20 * i → F ≠ zDown ρ → (ρ.n + 1 ≤ f + zpop F ∨ (ρ.n ≤ f + zpop F ∧ zQo ρ b F t ≠ 0)) → zFm [187] [] V0 V2 → zBn b V2 → zQE ρ c f b F t = zQR ρ c → zwp (zcall d) 240 Q (zB 240 3) [.ref 164, zi c, zi (zDown ρ : Nat), zi (F : Nat), zi t, x5, x6, x7] [] (s, V2) := by
      intro f
      induction f with
      | zero =>
        intro i hi i0 b F t V2 x5 x6 x7 hI ht hne hm
        have := zQ_lt hW hI hne
        omega
      | succ f ih =>
        intro i hi i0 b F t V2 x5 x6 x7 hI ht hne hm f2 hB hz
        obtain ⟨hM2, hC2, hN2⟩ := ctx V2 f2
        have hz : (if zQr ρ (zQb ρ c b F t) (zQF ρ b F t) = 0 then (t, zQb ρ c b F t) else zQE ρ c f (zQb ρ c b F t) (zQF ρ b F t) (zQe ρ (zQb ρ c b F t) (zQF ρ b F t))) = zQR ρ c := hz
        refine m_turn (by omega) hW c1 c4 (by omega) hM2 hC2 hN2 hB hI hne (fun V3 y5 y6 y7 f3 hB3 => ?_)
        have F3 := f2.tr f3
        have hdn := zQ_done hW c1 hI
        by_cases hD2 : zQF ρ b F t = zDown ρ
        · rw [if_pos (hdn.mpr hD2)] at hz
          rw [if_pos hD2, Int.add_zero, hD2]
          exact exit _ t V3 y5 y6 y7 hI.2.2.2 (by omega) F3 hB3 hz
        · have hr : zQr ρ (zQb ρ c b F t) (zQF ρ b F t) ≠ 0 := fun e => hD2 (hdn.mp e)
          rw [if_neg hr] at hz
          rw [if_neg hD2]
          obtain ⟨eg1, eg2⟩ := zQe_gt hW hI hr
          have hI3 := hI.b hW (c := c)
          have hpp := zQ_pop hW (b := b) (F := F) (t := t)
          have hov := zQ_over hW hI3 hr
          have hlast : ∀ (V4 : zV) (z5 z6 z7 : Value), zFm [187] [] V0 V4 → zBn (zQb ρ c b F t) V4 → zwp (zcall d) 240 Q (zB 240 3) [.ref 164, zi c, zi (zDown ρ : Nat), zi (zQF ρ b F t : Nat), zi (zQe ρ (zQb ρ c b F t) (zQF ρ b F t)), z5, z6, z7] [] (s, V4) := fun V4 z5 z6 z7 f4 hB4 => ih (i + 1) (by omega) (by omega) _ _ _ V4 z5 z6 z7 (hI3.mono (by omega)) (by omega) hD2 (Or.inr ⟨by
            rcases hm with hm | ⟨hm, ho⟩
            · omega
            · have := hpp.2 ho; omega, hov⟩) f4 hB4 hz
          have := z_down (P := fun t' => ∀ (V4 : zV) (z5 z6 z7 : Value), zFm [187] [] V0 V4 → zBn (zQb ρ c b F t) V4 → zwp (zcall d) 240 Q (zB 240 3) [.ref 164, zi c, zi (zDown ρ : Nat), zi (zQF ρ b F t : Nat), zi t', z5, z6, z7] [] (s, V4)) (i := t + 1) (n := zQe ρ (zQb ρ c b F t) (zQF ρ b F t)) (by omega) hlast (fun t' h1 h2 hnext V4 z5 z6 z7 f4 hB4 => by
            obtain ⟨hM4, hC4, hN4⟩ := ctx V4 f4
            obtain ⟨s1, s2⟩ := zQ_stay hW hI hr h2
            refine m_turn (by omega) hW c1 c4 (by omega) hM4 hC4 hN4 hB4 (hI3.mono (by omega)) hD2 (fun V5 w5 w6 w7 f5 hB5 => ?_)
            rw [s2] at hB5
            rw [s1, if_neg hD2]
            exact hnext V5 w5 w6 w7 (f4.tr f5) hB5)
          exact this V3 y5 y6 y7 F3 hB3
    have hB1 : zBn (fun _ => -1) V1 := fun x x0 x1 => e1 x x0 x1
    by_cases hD0 : zDown ρ = 0
    · have hn1 : zQnk ρ (fun _ => -1) (zQF ρ (fun _ => -1) 0 0) ρ.n = -1 := by
        rcases zQnk_is (ρ := ρ) (b := fun _ => -1) (F := zQF ρ (fun _ => -1) 0 0) n0 with ⟨i1, -⟩ | ⟨-, i3⟩
        · exact i1
        · have := (zQc_in i3).1
          rw [hD0, zin_zero] at this; cases this
      have hb : zQb ρ c (fun _ => -1) 0 0 = fun _ => -1 := zQs_none hn1 _
      have hz : ((0 : Int), fun _ => (-1 : Int)) = zQR ρ c := by
        unfold zQR
        rw [show (ρ.n + 1).toNat = ρ.n.toNat + 1 by omega]
        show _ = if zQr ρ (zQb ρ c (fun _ => -1) 0 0) (zQF ρ (fun _ => -1) 0 0) = 0 then ((0 : Int), zQb ρ c (fun _ => -1) 0 0) else _
        rw [hb, if_pos (zQr_0 hW)]
      have := exit (fun _ => -1) 0 V1 zJ zJ zJ (by omega) (by omega) f1 hB1 hz
      rw [hD0] at this ⊢
      exact this
    · have hp0 : zpop 0 = 0 := by decide
      exact main (ρ.n + 1).toNat 0 (by omega) (by omega) (fun _ => -1) 0 0 V1 zJ zJ zJ zQI_0 (by omega) (fun e => hD0 e.symm) (Or.inl (by rw [hp0]; omega)) f1 hB1 rfl
end
