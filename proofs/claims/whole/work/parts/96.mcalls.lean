/-! CALLS OF THE MODEL, 1: those that change the state -/
section
variable {d : Nat} {s : zS} {V : zV} {Q : zO → zH → Prop} {σ : zσ} {h : zH}
set_option maxRecDepth 20000 in
theorem m_adds1 (hd : 2 ≤ d) (hM : zMP s V) {x : Int} (hx : zI32 x) (q : ¬ (1 ≤ x ∧ x ≤ 100)) : zcall d 183 [.ref 164, zi x] (s, V) Q = Q (.inl (some (zi 1))) (s, V) := by
  have tM := hM.1
  have i1 : zI32 1 := ⟨by omega, by omega⟩
  have i2 : zI32 100 := ⟨by omega, by omega⟩
  obtain ⟨d, rfl⟩ : ∃ e, d = e + 1 := ⟨d - 1, by omega⟩
  simp (disch := first | assumption | omega) only [zc_183]
  simp (disch := first | assumption | exact zk_183 | ((repeat (first | exact z1n | refine z1I ?_ | refine z1R ?_)); done) | exact rfl | omega | decide) only [zb_183_0, r_iload_1, r_iconst, r_inv_3_0, r_inv_3_1, r_inv_3_2, r_inv_3_3, r_inv_3_4, r_K0, r_K1, r_if_ne, r_iret, r_bret_0, r_bret_1, r_aload_0, r_gf_640, r_ial, r_ial30, r_ial32, r_icmp_ne, r_istore_2i, r_istore_2r, r_istore_2j, r_iload_2, r_inv_4_0, r_inv_4_1, r_inv_4_2, r_inv_4_3, r_inv_4_4, r_dup2, r_iadd, r_iastore, r_pf_649, m_in, q, ↓reduceIte, not_true_eq_false, not_false_eq_true, Int.reduceEq, Int.reduceLE, Int.reduceLT, Int.reduceAdd, Int.reduceNeg, Int.reduceMul, Int.reduceSub, Int.reduceToNat]
set_option maxRecDepth 20000 in
theorem u_addService (hd : 20 ≤ d) (hm : zWm σ s V) (ho : zOK σ) {x : Int} (hx : zI32 x) (e1 : ¬ (1 ≤ x ∧ x ≤ 100) → zMth Q 1 σ s V) (e2 : (1 ≤ x ∧ x ≤ 100) → (σ.r.n = 12) → zMth Q 2 σ s V) (h0 : (1 ≤ x ∧ x ≤ 100) → ¬ (σ.r.n = 12) → zMrt Q (σ.r.n) (σ.sv (σ.r.addS x)) s V) : zcall d 193 [.ref 164, zi x] (s, V) Q := by
  obtain ⟨hM, hC, hI, hPa, hX, ⟨hi1, hi2⟩, hR⟩ := id hm
  have hW := ho.1
  obtain ⟨n0, n1, c0, c1⟩ := hW.1
  obtain ⟨p0, p1⟩ := ho.2.1
  have tM := hM.1
  have hH : ∀ k : Nat, (k : Int) < σ.p → (σ.H k).n ≤ 12 ∧ (σ.H k).c ≤ 24 := fun k hk => by
    obtain ⟨b0, b1, b2, b3⟩ := (ho.2.2.1 k hk).1
    exact ⟨b1, b3⟩
  obtain ⟨d, rfl⟩ : ∃ e, d = e + 1 := ⟨d - 1, by omega⟩
  simp (disch := first | assumption | omega) only [zc_193]
  simp (disch := first | assumption | exact zk_193 | ((repeat (first | exact z1n | refine z1I ?_ | refine z1R ?_)); done) | exact rfl | omega | decide) only [zb_193_0, r_aload_0, r_inv_1_0, r_inv_1_1, r_inv_1_2, r_inv_1_3, r_inv_1_4, r_K0, r_K1, r_iload_1, r_inv_2_0, r_inv_2_1, r_inv_2_2, r_inv_2_3, r_inv_2_4, r_iret, r_bret_0, r_bret_1, ↓reduceIte, not_true_eq_false, not_false_eq_true, Int.reduceEq, Int.reduceLE, Int.reduceLT, Int.reduceAdd, Int.reduceNeg, Int.reduceMul, Int.reduceSub, Int.reduceToNat]
  refine m_hold (by omega) hM hI (fun V1 f1 a1 => ?_)
  have hM1 := hM.fm f1 (by decide)
  have hC1 := hC.fm f1 (by decide)
  have hI1 : zInts V1 165 230 := by unfold zInts; rw [f1.1 165 (by omega) (by simp)]; exact hI
  have rf : zFm [165, 169] [9] V1 V1 := zFm.rf
  simp (disch := first | assumption | exact zk_193 | ((repeat (first | exact z1n | refine z1I ?_ | refine z1R ?_)); done) | exact rfl | omega | decide) only [r_aload_0, r_inv_1_0, r_inv_1_1, r_inv_1_2, r_inv_1_3, r_inv_1_4, r_K0, r_K1, r_iload_1, r_inv_2_0, r_inv_2_1, r_inv_2_2, r_inv_2_3, r_inv_2_4, r_iret, r_bret_0, r_bret_1, ↓reduceIte, not_true_eq_false, not_false_eq_true, Int.reduceEq, Int.reduceLE, Int.reduceLT, Int.reduceAdd, Int.reduceNeg, Int.reduceMul, Int.reduceSub, Int.reduceToNat]
  by_cases q : 1 ≤ x ∧ x ≤ 100
  rotate_left
  · rw [m_adds1 (by omega) hM1 hx q]
    simp (disch := first | assumption | exact zk_193 | ((repeat (first | exact z1n | refine z1I ?_ | refine z1R ?_)); done) | exact rfl | omega | decide) only [r_aload_0, r_inv_1_0, r_inv_1_1, r_inv_1_2, r_inv_1_3, r_inv_1_4, r_K0, r_K1, r_iload_1, r_inv_2_0, r_inv_2_1, r_inv_2_2, r_inv_2_3, r_inv_2_4, r_iret, r_bret_0, r_bret_1, ↓reduceIte, not_true_eq_false, not_false_eq_true, Int.reduceEq, Int.reduceLE, Int.reduceLT, Int.reduceAdd, Int.reduceNeg, Int.reduceMul, Int.reduceSub, Int.reduceToNat]
    refine m_doneK (by omega) hm f1 rf rfl (by omega) (by omega) (fun V3 g1 g2 g3 => ?_)
    have := e1 q V3 g1 g2 g3
    simp (disch := first | assumption | exact zk_193 | ((repeat (first | exact z1n | refine z1I ?_ | refine z1R ?_)); done) | exact rfl | omega | decide) only [r_aload_0, r_inv_1_0, r_inv_1_1, r_inv_1_2, r_inv_1_3, r_inv_1_4, r_K0, r_K1, r_iload_1, r_inv_2_0, r_inv_2_1, r_inv_2_2, r_inv_2_3, r_inv_2_4, r_iret, r_bret_0, r_bret_1, ↓reduceIte, not_true_eq_false, not_false_eq_true, Int.reduceEq, Int.reduceLE, Int.reduceLT, Int.reduceAdd, Int.reduceNeg, Int.reduceMul, Int.reduceSub, Int.reduceToNat]
    exact this
  refine m_addsService (by omega) hM1 hC1 hI1 hW hx (fun c => absurd q c) ?_ ?_
  · intro q2
    simp (disch := first | assumption | exact zk_193 | ((repeat (first | exact z1n | refine z1I ?_ | refine z1R ?_)); done) | exact rfl | omega | decide) only [r_aload_0, r_inv_1_0, r_inv_1_1, r_inv_1_2, r_inv_1_3, r_inv_1_4, r_K0, r_K1, r_iload_1, r_inv_2_0, r_inv_2_1, r_inv_2_2, r_inv_2_3, r_inv_2_4, r_iret, r_bret_0, r_bret_1, ↓reduceIte, not_true_eq_false, not_false_eq_true, Int.reduceEq, Int.reduceLE, Int.reduceLT, Int.reduceAdd, Int.reduceNeg, Int.reduceMul, Int.reduceSub, Int.reduceToNat]
    refine m_doneK (by omega) hm f1 rf rfl (by omega) (by omega) (fun V3 g1 g2 g3 => ?_)
    have := e2 q q2 V3 g1 g2 g3
    simp (disch := first | assumption | exact zk_193 | ((repeat (first | exact z1n | refine z1I ?_ | refine z1R ?_)); done) | exact rfl | omega | decide) only [r_aload_0, r_inv_1_0, r_inv_1_1, r_inv_1_2, r_inv_1_3, r_inv_1_4, r_K0, r_K1, r_iload_1, r_inv_2_0, r_inv_2_1, r_inv_2_2, r_inv_2_3, r_inv_2_4, r_iret, r_bret_0, r_bret_1, ↓reduceIte, not_true_eq_false, not_false_eq_true, Int.reduceEq, Int.reduceLE, Int.reduceLT, Int.reduceAdd, Int.reduceNeg, Int.reduceMul, Int.reduceSub, Int.reduceToNat]
    exact this
  · intro q1 q2 q3 V2 f2 hC2 hI2 a2
    simp (disch := first | assumption | exact zk_193 | ((repeat (first | exact z1n | refine z1I ?_ | refine z1R ?_)); done) | exact rfl | omega | decide) only [r_aload_0, r_inv_1_0, r_inv_1_1, r_inv_1_2, r_inv_1_3, r_inv_1_4, r_K0, r_K1, r_iload_1, r_inv_2_0, r_inv_2_1, r_inv_2_2, r_inv_2_3, r_inv_2_4, r_iret, r_bret_0, r_bret_1, ↓reduceIte, not_true_eq_false, not_false_eq_true, Int.reduceEq, Int.reduceLE, Int.reduceLT, Int.reduceAdd, Int.reduceNeg, Int.reduceMul, Int.reduceSub, Int.reduceToNat]
    refine m_done0 (by omega) hm ho f1 a1 (f2.mono (by simp) (by simp)) hC2 hI2 a2 (fun V3 g1 g2 g3 => ?_)
    have := h0 ⟨q1, q2⟩ (by omega) V3 g1 g2 g3
    generalize hA : (σ.r.n) = A at this
    simp (disch := first | assumption | exact zk_193 | ((repeat (first | exact z1n | refine z1I ?_ | refine z1R ?_)); done) | exact rfl | omega | decide) only [r_aload_0, r_inv_1_0, r_inv_1_1, r_inv_1_2, r_inv_1_3, r_inv_1_4, r_K0, r_K1, r_iload_1, r_inv_2_0, r_inv_2_1, r_inv_2_2, r_inv_2_3, r_inv_2_4, r_iret, r_bret_0, r_bret_1, ↓reduceIte, not_true_eq_false, not_false_eq_true, Int.reduceEq, Int.reduceLE, Int.reduceLT, Int.reduceAdd, Int.reduceNeg, Int.reduceMul, Int.reduceSub, Int.reduceToNat]
    exact this
set_option maxRecDepth 20000 in
theorem u_addCall (hd : 20 ≤ d) (hm : zWm σ s V) (ho : zOK σ) {x y l t k : Int} (hx : zI32 x) (hy : zI32 y) (hl : zI32 l) (ht : zI32 t) (hk : zI32 k) (e1 : ¬ ((0 ≤ x ∧ x < σ.r.n) ∧ 0 ≤ y ∧ y < σ.r.n) → zMth Q 1 σ s V) (e2 : ((0 ≤ x ∧ x < σ.r.n) ∧ 0 ≤ y ∧ y < σ.r.n) → ¬ (((1 ≤ l ∧ l ≤ 500) ∧ 1 ≤ t ∧ t ≤ 3) ∧ 0 ≤ k ∧ k ≤ 2) → zMth Q 2 σ s V) (e3 : ((0 ≤ x ∧ x < σ.r.n) ∧ 0 ≤ y ∧ y < σ.r.n) → (((1 ≤ l ∧ l ≤ 500) ∧ 1 ≤ t ∧ t ≤ 3) ∧ 0 ≤ k ∧ k ≤ 2) → (((x = y ∨ zin (zNeeds σ.r y) x = true) ∨ k = 2 ∧ zHd σ.r x σ.r.c.toNat = -1) ∨ σ.r.c = 24) → zMth Q 3 σ s V) (h0 : ((0 ≤ x ∧ x < σ.r.n) ∧ 0 ≤ y ∧ y < σ.r.n) → (((1 ≤ l ∧ l ≤ 500) ∧ 1 ≤ t ∧ t ≤ 3) ∧ 0 ≤ k ∧ k ≤ 2) → ¬ (((x = y ∨ zin (zNeeds σ.r y) x = true) ∨ k = 2 ∧ zHd σ.r x σ.r.c.toNat = -1) ∨ σ.r.c = 24) → zMrt Q (σ.r.c) (σ.sv (σ.r.addK x y l t k)) s V) : zcall d 194 [.ref 164, zi x, zi y, zi l, zi t, zi k] (s, V) Q := by
  obtain ⟨hM, hC, hI, hPa, hX, ⟨hi1, hi2⟩, hR⟩ := id hm
  have hW := ho.1
  obtain ⟨n0, n1, c0, c1⟩ := hW.1
  obtain ⟨p0, p1⟩ := ho.2.1
  have tM := hM.1
  have hH : ∀ k : Nat, (k : Int) < σ.p → (σ.H k).n ≤ 12 ∧ (σ.H k).c ≤ 24 := fun k hk => by
    obtain ⟨b0, b1, b2, b3⟩ := (ho.2.2.1 k hk).1
    exact ⟨b1, b3⟩
  obtain ⟨d, rfl⟩ : ∃ e, d = e + 1 := ⟨d - 1, by omega⟩
  simp (disch := first | assumption | omega) only [zc_194]
  simp (disch := first | assumption | exact zk_194 | ((repeat (first | exact z1n | refine z1I ?_ | refine z1R ?_)); done) | exact rfl | omega | decide) only [zb_194_0, r_aload_0, r_inv_1_0, r_inv_1_1, r_inv_1_2, r_inv_1_3, r_inv_1_4, r_K0, r_K1, r_iload_1, r_iload_2, r_iload_3, r_iload_4, r_iload_5, r_inv_6_0, r_inv_6_1, r_inv_6_2, r_inv_6_3, r_inv_6_4, r_inv_2_0, r_inv_2_1, r_inv_2_2, r_inv_2_3, r_inv_2_4, r_iret, r_bret_0, r_bret_1, ↓reduceIte, not_true_eq_false, not_false_eq_true, Int.reduceEq, Int.reduceLE, Int.reduceLT, Int.reduceAdd, Int.reduceNeg, Int.reduceMul, Int.reduceSub, Int.reduceToNat]
  refine m_hold (by omega) hM hI (fun V1 f1 a1 => ?_)
  have hM1 := hM.fm f1 (by decide)
  have hC1 := hC.fm f1 (by decide)
  have hI1 : zInts V1 165 230 := by unfold zInts; rw [f1.1 165 (by omega) (by simp)]; exact hI
  have rf : zFm [165, 169] [9] V1 V1 := zFm.rf
  simp (disch := first | assumption | exact zk_194 | ((repeat (first | exact z1n | refine z1I ?_ | refine z1R ?_)); done) | exact rfl | omega | decide) only [r_aload_0, r_inv_1_0, r_inv_1_1, r_inv_1_2, r_inv_1_3, r_inv_1_4, r_K0, r_K1, r_iload_1, r_iload_2, r_iload_3, r_iload_4, r_iload_5, r_inv_6_0, r_inv_6_1, r_inv_6_2, r_inv_6_3, r_inv_6_4, r_inv_2_0, r_inv_2_1, r_inv_2_2, r_inv_2_3, r_inv_2_4, r_iret, r_bret_0, r_bret_1, ↓reduceIte, not_true_eq_false, not_false_eq_true, Int.reduceEq, Int.reduceLE, Int.reduceLT, Int.reduceAdd, Int.reduceNeg, Int.reduceMul, Int.reduceSub, Int.reduceToNat]
  refine m_addsCall (by omega) hM1 hC1 hI1 hW hx hy hl ht hk ?_ ?_ ?_ ?_
  · intro q
    simp (disch := first | assumption | exact zk_194 | ((repeat (first | exact z1n | refine z1I ?_ | refine z1R ?_)); done) | exact rfl | omega | decide) only [r_aload_0, r_inv_1_0, r_inv_1_1, r_inv_1_2, r_inv_1_3, r_inv_1_4, r_K0, r_K1, r_iload_1, r_iload_2, r_iload_3, r_iload_4, r_iload_5, r_inv_6_0, r_inv_6_1, r_inv_6_2, r_inv_6_3, r_inv_6_4, r_inv_2_0, r_inv_2_1, r_inv_2_2, r_inv_2_3, r_inv_2_4, r_iret, r_bret_0, r_bret_1, ↓reduceIte, not_true_eq_false, not_false_eq_true, Int.reduceEq, Int.reduceLE, Int.reduceLT, Int.reduceAdd, Int.reduceNeg, Int.reduceMul, Int.reduceSub, Int.reduceToNat]
    refine m_doneK (by omega) hm f1 rf rfl (by omega) (by omega) (fun V3 g1 g2 g3 => ?_)
    have := e1 q V3 g1 g2 g3
    simp (disch := first | assumption | exact zk_194 | ((repeat (first | exact z1n | refine z1I ?_ | refine z1R ?_)); done) | exact rfl | omega | decide) only [r_aload_0, r_inv_1_0, r_inv_1_1, r_inv_1_2, r_inv_1_3, r_inv_1_4, r_K0, r_K1, r_iload_1, r_iload_2, r_iload_3, r_iload_4, r_iload_5, r_inv_6_0, r_inv_6_1, r_inv_6_2, r_inv_6_3, r_inv_6_4, r_inv_2_0, r_inv_2_1, r_inv_2_2, r_inv_2_3, r_inv_2_4, r_iret, r_bret_0, r_bret_1, ↓reduceIte, not_true_eq_false, not_false_eq_true, Int.reduceEq, Int.reduceLE, Int.reduceLT, Int.reduceAdd, Int.reduceNeg, Int.reduceMul, Int.reduceSub, Int.reduceToNat]
    exact this
  · intro q1 q2
    simp (disch := first | assumption | exact zk_194 | ((repeat (first | exact z1n | refine z1I ?_ | refine z1R ?_)); done) | exact rfl | omega | decide) only [r_aload_0, r_inv_1_0, r_inv_1_1, r_inv_1_2, r_inv_1_3, r_inv_1_4, r_K0, r_K1, r_iload_1, r_iload_2, r_iload_3, r_iload_4, r_iload_5, r_inv_6_0, r_inv_6_1, r_inv_6_2, r_inv_6_3, r_inv_6_4, r_inv_2_0, r_inv_2_1, r_inv_2_2, r_inv_2_3, r_inv_2_4, r_iret, r_bret_0, r_bret_1, ↓reduceIte, not_true_eq_false, not_false_eq_true, Int.reduceEq, Int.reduceLE, Int.reduceLT, Int.reduceAdd, Int.reduceNeg, Int.reduceMul, Int.reduceSub, Int.reduceToNat]
    refine m_doneK (by omega) hm f1 rf rfl (by omega) (by omega) (fun V3 g1 g2 g3 => ?_)
    have := e2 q1 q2 V3 g1 g2 g3
    simp (disch := first | assumption | exact zk_194 | ((repeat (first | exact z1n | refine z1I ?_ | refine z1R ?_)); done) | exact rfl | omega | decide) only [r_aload_0, r_inv_1_0, r_inv_1_1, r_inv_1_2, r_inv_1_3, r_inv_1_4, r_K0, r_K1, r_iload_1, r_iload_2, r_iload_3, r_iload_4, r_iload_5, r_inv_6_0, r_inv_6_1, r_inv_6_2, r_inv_6_3, r_inv_6_4, r_inv_2_0, r_inv_2_1, r_inv_2_2, r_inv_2_3, r_inv_2_4, r_iret, r_bret_0, r_bret_1, ↓reduceIte, not_true_eq_false, not_false_eq_true, Int.reduceEq, Int.reduceLE, Int.reduceLT, Int.reduceAdd, Int.reduceNeg, Int.reduceMul, Int.reduceSub, Int.reduceToNat]
    exact this
  · intro q1 q2 q3 V2 f2 e2
    simp (disch := first | assumption | exact zk_194 | ((repeat (first | exact z1n | refine z1I ?_ | refine z1R ?_)); done) | exact rfl | omega | decide) only [r_aload_0, r_inv_1_0, r_inv_1_1, r_inv_1_2, r_inv_1_3, r_inv_1_4, r_K0, r_K1, r_iload_1, r_iload_2, r_iload_3, r_iload_4, r_iload_5, r_inv_6_0, r_inv_6_1, r_inv_6_2, r_inv_6_3, r_inv_6_4, r_inv_2_0, r_inv_2_1, r_inv_2_2, r_inv_2_3, r_inv_2_4, r_iret, r_bret_0, r_bret_1, ↓reduceIte, not_true_eq_false, not_false_eq_true, Int.reduceEq, Int.reduceLE, Int.reduceLT, Int.reduceAdd, Int.reduceNeg, Int.reduceMul, Int.reduceSub, Int.reduceToNat]
    refine m_doneK (by omega) hm f1 f2 e2 (by omega) (by omega) (fun V3 g1 g2 g3 => ?_)
    have := e3 q1 q2 q3 V3 g1 g2 g3
    simp (disch := first | assumption | exact zk_194 | ((repeat (first | exact z1n | refine z1I ?_ | refine z1R ?_)); done) | exact rfl | omega | decide) only [r_aload_0, r_inv_1_0, r_inv_1_1, r_inv_1_2, r_inv_1_3, r_inv_1_4, r_K0, r_K1, r_iload_1, r_iload_2, r_iload_3, r_iload_4, r_iload_5, r_inv_6_0, r_inv_6_1, r_inv_6_2, r_inv_6_3, r_inv_6_4, r_inv_2_0, r_inv_2_1, r_inv_2_2, r_inv_2_3, r_inv_2_4, r_iret, r_bret_0, r_bret_1, ↓reduceIte, not_true_eq_false, not_false_eq_true, Int.reduceEq, Int.reduceLE, Int.reduceLT, Int.reduceAdd, Int.reduceNeg, Int.reduceMul, Int.reduceSub, Int.reduceToNat]
    exact this
  · intro q1 q2 q3 V2 f2 hC2 hI2 a2
    simp (disch := first | assumption | exact zk_194 | ((repeat (first | exact z1n | refine z1I ?_ | refine z1R ?_)); done) | exact rfl | omega | decide) only [r_aload_0, r_inv_1_0, r_inv_1_1, r_inv_1_2, r_inv_1_3, r_inv_1_4, r_K0, r_K1, r_iload_1, r_iload_2, r_iload_3, r_iload_4, r_iload_5, r_inv_6_0, r_inv_6_1, r_inv_6_2, r_inv_6_3, r_inv_6_4, r_inv_2_0, r_inv_2_1, r_inv_2_2, r_inv_2_3, r_inv_2_4, r_iret, r_bret_0, r_bret_1, ↓reduceIte, not_true_eq_false, not_false_eq_true, Int.reduceEq, Int.reduceLE, Int.reduceLT, Int.reduceAdd, Int.reduceNeg, Int.reduceMul, Int.reduceSub, Int.reduceToNat]
    refine m_done0 (by omega) hm ho f1 a1 f2 hC2 hI2 a2 (fun V3 g1 g2 g3 => ?_)
    have := h0 q1 q2 q3 V3 g1 g2 g3
    generalize hA : (σ.r.c) = A at this
    simp (disch := first | assumption | exact zk_194 | ((repeat (first | exact z1n | refine z1I ?_ | refine z1R ?_)); done) | exact rfl | omega | decide) only [r_aload_0, r_inv_1_0, r_inv_1_1, r_inv_1_2, r_inv_1_3, r_inv_1_4, r_K0, r_K1, r_iload_1, r_iload_2, r_iload_3, r_iload_4, r_iload_5, r_inv_6_0, r_inv_6_1, r_inv_6_2, r_inv_6_3, r_inv_6_4, r_inv_2_0, r_inv_2_1, r_inv_2_2, r_inv_2_3, r_inv_2_4, r_iret, r_bret_0, r_bret_1, ↓reduceIte, not_true_eq_false, not_false_eq_true, Int.reduceEq, Int.reduceLE, Int.reduceLT, Int.reduceAdd, Int.reduceNeg, Int.reduceMul, Int.reduceSub, Int.reduceToNat]
    exact this
set_option maxRecDepth 20000 in
theorem u_set (hd : 20 ≤ d) (hm : zWm σ s V) (ho : zOK σ) {u x v : Int} (hu : zI32 u) (hx : zI32 x) (hv : zI32 v) (e1 : ¬ (0 ≤ x ∧ x < σ.r.n) → zMth Q 1 σ s V) (e2 : (0 ≤ x ∧ x < σ.r.n) → ¬ ((0 ≤ u ∧ u ≤ 5) ∧ zLeast u ≤ v ∧ v ≤ zMost u) → zMth Q 2 σ s V) (h0 : (0 ≤ x ∧ x < σ.r.n) → ((0 ≤ u ∧ u ≤ 5) ∧ zLeast u ≤ v ∧ v ≤ zMost u) → zMrt Q (σ.r.S u x) (σ.sv (σ.r.sS u x v)) s V) : zcall d 197 [.ref 164, zi u, zi x, zi v] (s, V) Q := by
  obtain ⟨hM, hC, hI, hPa, hX, ⟨hi1, hi2⟩, hR⟩ := id hm
  have hW := ho.1
  obtain ⟨n0, n1, c0, c1⟩ := hW.1
  obtain ⟨p0, p1⟩ := ho.2.1
  have tM := hM.1
  have hH : ∀ k : Nat, (k : Int) < σ.p → (σ.H k).n ≤ 12 ∧ (σ.H k).c ≤ 24 := fun k hk => by
    obtain ⟨b0, b1, b2, b3⟩ := (ho.2.2.1 k hk).1
    exact ⟨b1, b3⟩
  obtain ⟨d, rfl⟩ : ∃ e, d = e + 1 := ⟨d - 1, by omega⟩
  simp (disch := first | assumption | omega) only [zc_197]
  simp (disch := first | assumption | exact zk_197 | ((repeat (first | exact z1n | refine z1I ?_ | refine z1R ?_)); done) | exact rfl | omega | decide) only [zb_197_0, r_aload_0, r_inv_1_0, r_inv_1_1, r_inv_1_2, r_inv_1_3, r_inv_1_4, r_K0, r_K1, r_iload_1, r_iload_2, r_iload_3, r_inv_4_0, r_inv_4_1, r_inv_4_2, r_inv_4_3, r_inv_4_4, r_inv_2_0, r_inv_2_1, r_inv_2_2, r_inv_2_3, r_inv_2_4, r_iret, r_bret_0, r_bret_1, ↓reduceIte, not_true_eq_false, not_false_eq_true, Int.reduceEq, Int.reduceLE, Int.reduceLT, Int.reduceAdd, Int.reduceNeg, Int.reduceMul, Int.reduceSub, Int.reduceToNat]
  refine m_hold (by omega) hM hI (fun V1 f1 a1 => ?_)
  have hM1 := hM.fm f1 (by decide)
  have hC1 := hC.fm f1 (by decide)
  have hI1 : zInts V1 165 230 := by unfold zInts; rw [f1.1 165 (by omega) (by simp)]; exact hI
  have rf : zFm [165, 169] [9] V1 V1 := zFm.rf
  simp (disch := first | assumption | exact zk_197 | ((repeat (first | exact z1n | refine z1I ?_ | refine z1R ?_)); done) | exact rfl | omega | decide) only [r_aload_0, r_inv_1_0, r_inv_1_1, r_inv_1_2, r_inv_1_3, r_inv_1_4, r_K0, r_K1, r_iload_1, r_iload_2, r_iload_3, r_inv_4_0, r_inv_4_1, r_inv_4_2, r_inv_4_3, r_inv_4_4, r_inv_2_0, r_inv_2_1, r_inv_2_2, r_inv_2_3, r_inv_2_4, r_iret, r_bret_0, r_bret_1, ↓reduceIte, not_true_eq_false, not_false_eq_true, Int.reduceEq, Int.reduceLE, Int.reduceLT, Int.reduceAdd, Int.reduceNeg, Int.reduceMul, Int.reduceSub, Int.reduceToNat]
  refine m_changes (by omega) hM1 hC1 hI1 hW hu hx hv ?_ ?_ ?_
  · intro q
    simp (disch := first | assumption | exact zk_197 | ((repeat (first | exact z1n | refine z1I ?_ | refine z1R ?_)); done) | exact rfl | omega | decide) only [r_aload_0, r_inv_1_0, r_inv_1_1, r_inv_1_2, r_inv_1_3, r_inv_1_4, r_K0, r_K1, r_iload_1, r_iload_2, r_iload_3, r_inv_4_0, r_inv_4_1, r_inv_4_2, r_inv_4_3, r_inv_4_4, r_inv_2_0, r_inv_2_1, r_inv_2_2, r_inv_2_3, r_inv_2_4, r_iret, r_bret_0, r_bret_1, ↓reduceIte, not_true_eq_false, not_false_eq_true, Int.reduceEq, Int.reduceLE, Int.reduceLT, Int.reduceAdd, Int.reduceNeg, Int.reduceMul, Int.reduceSub, Int.reduceToNat]
    refine m_doneK (by omega) hm f1 rf rfl (by omega) (by omega) (fun V3 g1 g2 g3 => ?_)
    have := e1 q V3 g1 g2 g3
    simp (disch := first | assumption | exact zk_197 | ((repeat (first | exact z1n | refine z1I ?_ | refine z1R ?_)); done) | exact rfl | omega | decide) only [r_aload_0, r_inv_1_0, r_inv_1_1, r_inv_1_2, r_inv_1_3, r_inv_1_4, r_K0, r_K1, r_iload_1, r_iload_2, r_iload_3, r_inv_4_0, r_inv_4_1, r_inv_4_2, r_inv_4_3, r_inv_4_4, r_inv_2_0, r_inv_2_1, r_inv_2_2, r_inv_2_3, r_inv_2_4, r_iret, r_bret_0, r_bret_1, ↓reduceIte, not_true_eq_false, not_false_eq_true, Int.reduceEq, Int.reduceLE, Int.reduceLT, Int.reduceAdd, Int.reduceNeg, Int.reduceMul, Int.reduceSub, Int.reduceToNat]
    exact this
  · intro q1 q2
    simp (disch := first | assumption | exact zk_197 | ((repeat (first | exact z1n | refine z1I ?_ | refine z1R ?_)); done) | exact rfl | omega | decide) only [r_aload_0, r_inv_1_0, r_inv_1_1, r_inv_1_2, r_inv_1_3, r_inv_1_4, r_K0, r_K1, r_iload_1, r_iload_2, r_iload_3, r_inv_4_0, r_inv_4_1, r_inv_4_2, r_inv_4_3, r_inv_4_4, r_inv_2_0, r_inv_2_1, r_inv_2_2, r_inv_2_3, r_inv_2_4, r_iret, r_bret_0, r_bret_1, ↓reduceIte, not_true_eq_false, not_false_eq_true, Int.reduceEq, Int.reduceLE, Int.reduceLT, Int.reduceAdd, Int.reduceNeg, Int.reduceMul, Int.reduceSub, Int.reduceToNat]
    refine m_doneK (by omega) hm f1 rf rfl (by omega) (by omega) (fun V3 g1 g2 g3 => ?_)
    have := e2 q1 q2 V3 g1 g2 g3
    simp (disch := first | assumption | exact zk_197 | ((repeat (first | exact z1n | refine z1I ?_ | refine z1R ?_)); done) | exact rfl | omega | decide) only [r_aload_0, r_inv_1_0, r_inv_1_1, r_inv_1_2, r_inv_1_3, r_inv_1_4, r_K0, r_K1, r_iload_1, r_iload_2, r_iload_3, r_inv_4_0, r_inv_4_1, r_inv_4_2, r_inv_4_3, r_inv_4_4, r_inv_2_0, r_inv_2_1, r_inv_2_2, r_inv_2_3, r_inv_2_4, r_iret, r_bret_0, r_bret_1, ↓reduceIte, not_true_eq_false, not_false_eq_true, Int.reduceEq, Int.reduceLE, Int.reduceLT, Int.reduceAdd, Int.reduceNeg, Int.reduceMul, Int.reduceSub, Int.reduceToNat]
    exact this
  · intro q1 q2 V2 f2 hC2 hI2 a2
    simp (disch := first | assumption | exact zk_197 | ((repeat (first | exact z1n | refine z1I ?_ | refine z1R ?_)); done) | exact rfl | omega | decide) only [r_aload_0, r_inv_1_0, r_inv_1_1, r_inv_1_2, r_inv_1_3, r_inv_1_4, r_K0, r_K1, r_iload_1, r_iload_2, r_iload_3, r_inv_4_0, r_inv_4_1, r_inv_4_2, r_inv_4_3, r_inv_4_4, r_inv_2_0, r_inv_2_1, r_inv_2_2, r_inv_2_3, r_inv_2_4, r_iret, r_bret_0, r_bret_1, ↓reduceIte, not_true_eq_false, not_false_eq_true, Int.reduceEq, Int.reduceLE, Int.reduceLT, Int.reduceAdd, Int.reduceNeg, Int.reduceMul, Int.reduceSub, Int.reduceToNat]
    refine m_done0 (by omega) hm ho f1 a1 (f2.mono (by simp) (by simp)) hC2 hI2 a2 (fun V3 g1 g2 g3 => ?_)
    have := h0 q1 q2 V3 g1 g2 g3
    generalize hA : (σ.r.S u x) = A at this
    simp (disch := first | assumption | exact zk_197 | ((repeat (first | exact z1n | refine z1I ?_ | refine z1R ?_)); done) | exact rfl | omega | decide) only [r_aload_0, r_inv_1_0, r_inv_1_1, r_inv_1_2, r_inv_1_3, r_inv_1_4, r_K0, r_K1, r_iload_1, r_iload_2, r_iload_3, r_inv_4_0, r_inv_4_1, r_inv_4_2, r_inv_4_3, r_inv_4_4, r_inv_2_0, r_inv_2_1, r_inv_2_2, r_inv_2_3, r_inv_2_4, r_iret, r_bret_0, r_bret_1, ↓reduceIte, not_true_eq_false, not_false_eq_true, Int.reduceEq, Int.reduceLE, Int.reduceLT, Int.reduceAdd, Int.reduceNeg, Int.reduceMul, Int.reduceSub, Int.reduceToNat]
    exact this
set_option maxRecDepth 20000 in
theorem u_fail (hd : 20 ≤ d) (hm : zWm σ s V) (ho : zOK σ) {x : Int} (hx : zI32 x) (e1 : ¬ (0 ≤ x ∧ x < σ.r.n) → zMth Q 1 σ s V) (e2 : (0 ≤ x ∧ x < σ.r.n) → ¬ (σ.r.S 6 x = 1) → zMth Q 2 σ s V) (h0 : (0 ≤ x ∧ x < σ.r.n) → (σ.r.S 6 x = 1) → zMrt Q (σ.r.n - zpop (zDown (zGd σ.r x))) (σ.sv (zGd σ.r x)) s V) : zcall d 232 [.ref 164, zi x] (s, V) Q := by
  obtain ⟨hM, hC, hI, hPa, hX, ⟨hi1, hi2⟩, hR⟩ := id hm
  have hW := ho.1
  obtain ⟨n0, n1, c0, c1⟩ := hW.1
  obtain ⟨p0, p1⟩ := ho.2.1
  have tM := hM.1
  have hH : ∀ k : Nat, (k : Int) < σ.p → (σ.H k).n ≤ 12 ∧ (σ.H k).c ≤ 24 := fun k hk => by
    obtain ⟨b0, b1, b2, b3⟩ := (ho.2.2.1 k hk).1
    exact ⟨b1, b3⟩
  obtain ⟨d, rfl⟩ : ∃ e, d = e + 1 := ⟨d - 1, by omega⟩
  simp (disch := first | assumption | omega) only [zc_232]
  simp (disch := first | assumption | exact zk_232 | ((repeat (first | exact z1n | refine z1I ?_ | refine z1R ?_)); done) | exact rfl | omega | decide) only [zb_232_0, r_aload_0, r_inv_1_0, r_inv_1_1, r_inv_1_2, r_inv_1_3, r_inv_1_4, r_K0, r_K1, r_iload_1, r_inv_2_0, r_inv_2_1, r_inv_2_2, r_inv_2_3, r_inv_2_4, r_iret, r_bret_0, r_bret_1, ↓reduceIte, not_true_eq_false, not_false_eq_true, Int.reduceEq, Int.reduceLE, Int.reduceLT, Int.reduceAdd, Int.reduceNeg, Int.reduceMul, Int.reduceSub, Int.reduceToNat]
  refine m_hold (by omega) hM hI (fun V1 f1 a1 => ?_)
  have hM1 := hM.fm f1 (by decide)
  have hC1 := hC.fm f1 (by decide)
  have hI1 : zInts V1 165 230 := by unfold zInts; rw [f1.1 165 (by omega) (by simp)]; exact hI
  have rf : zFm [165, 169] [9] V1 V1 := zFm.rf
  simp (disch := first | assumption | exact zk_232 | ((repeat (first | exact z1n | refine z1I ?_ | refine z1R ?_)); done) | exact rfl | omega | decide) only [r_aload_0, r_inv_1_0, r_inv_1_1, r_inv_1_2, r_inv_1_3, r_inv_1_4, r_K0, r_K1, r_iload_1, r_inv_2_0, r_inv_2_1, r_inv_2_2, r_inv_2_3, r_inv_2_4, r_iret, r_bret_0, r_bret_1, ↓reduceIte, not_true_eq_false, not_false_eq_true, Int.reduceEq, Int.reduceLE, Int.reduceLT, Int.reduceAdd, Int.reduceNeg, Int.reduceMul, Int.reduceSub, Int.reduceToNat]
  refine m_drops (by omega) hM1 hC1 hI1 hW hx ?_ ?_ ?_
  · intro q
    simp (disch := first | assumption | exact zk_232 | ((repeat (first | exact z1n | refine z1I ?_ | refine z1R ?_)); done) | exact rfl | omega | decide) only [r_aload_0, r_inv_1_0, r_inv_1_1, r_inv_1_2, r_inv_1_3, r_inv_1_4, r_K0, r_K1, r_iload_1, r_inv_2_0, r_inv_2_1, r_inv_2_2, r_inv_2_3, r_inv_2_4, r_iret, r_bret_0, r_bret_1, ↓reduceIte, not_true_eq_false, not_false_eq_true, Int.reduceEq, Int.reduceLE, Int.reduceLT, Int.reduceAdd, Int.reduceNeg, Int.reduceMul, Int.reduceSub, Int.reduceToNat]
    refine m_doneK (by omega) hm f1 rf rfl (by omega) (by omega) (fun V3 g1 g2 g3 => ?_)
    have := e1 q V3 g1 g2 g3
    simp (disch := first | assumption | exact zk_232 | ((repeat (first | exact z1n | refine z1I ?_ | refine z1R ?_)); done) | exact rfl | omega | decide) only [r_aload_0, r_inv_1_0, r_inv_1_1, r_inv_1_2, r_inv_1_3, r_inv_1_4, r_K0, r_K1, r_iload_1, r_inv_2_0, r_inv_2_1, r_inv_2_2, r_inv_2_3, r_inv_2_4, r_iret, r_bret_0, r_bret_1, ↓reduceIte, not_true_eq_false, not_false_eq_true, Int.reduceEq, Int.reduceLE, Int.reduceLT, Int.reduceAdd, Int.reduceNeg, Int.reduceMul, Int.reduceSub, Int.reduceToNat]
    exact this
  · intro q1 q2
    simp (disch := first | assumption | exact zk_232 | ((repeat (first | exact z1n | refine z1I ?_ | refine z1R ?_)); done) | exact rfl | omega | decide) only [r_aload_0, r_inv_1_0, r_inv_1_1, r_inv_1_2, r_inv_1_3, r_inv_1_4, r_K0, r_K1, r_iload_1, r_inv_2_0, r_inv_2_1, r_inv_2_2, r_inv_2_3, r_inv_2_4, r_iret, r_bret_0, r_bret_1, ↓reduceIte, not_true_eq_false, not_false_eq_true, Int.reduceEq, Int.reduceLE, Int.reduceLT, Int.reduceAdd, Int.reduceNeg, Int.reduceMul, Int.reduceSub, Int.reduceToNat]
    refine m_doneK (by omega) hm f1 rf rfl (by omega) (by omega) (fun V3 g1 g2 g3 => ?_)
    have := e2 q1 q2 V3 g1 g2 g3
    simp (disch := first | assumption | exact zk_232 | ((repeat (first | exact z1n | refine z1I ?_ | refine z1R ?_)); done) | exact rfl | omega | decide) only [r_aload_0, r_inv_1_0, r_inv_1_1, r_inv_1_2, r_inv_1_3, r_inv_1_4, r_K0, r_K1, r_iload_1, r_inv_2_0, r_inv_2_1, r_inv_2_2, r_inv_2_3, r_inv_2_4, r_iret, r_bret_0, r_bret_1, ↓reduceIte, not_true_eq_false, not_false_eq_true, Int.reduceEq, Int.reduceLE, Int.reduceLT, Int.reduceAdd, Int.reduceNeg, Int.reduceMul, Int.reduceSub, Int.reduceToNat]
    exact this
  · intro q1 q2 V2 f2 hC2 hI2 a2
    simp (disch := first | assumption | exact zk_232 | ((repeat (first | exact z1n | refine z1I ?_ | refine z1R ?_)); done) | exact rfl | omega | decide) only [r_aload_0, r_inv_1_0, r_inv_1_1, r_inv_1_2, r_inv_1_3, r_inv_1_4, r_K0, r_K1, r_iload_1, r_inv_2_0, r_inv_2_1, r_inv_2_2, r_inv_2_3, r_inv_2_4, r_iret, r_bret_0, r_bret_1, ↓reduceIte, not_true_eq_false, not_false_eq_true, Int.reduceEq, Int.reduceLE, Int.reduceLT, Int.reduceAdd, Int.reduceNeg, Int.reduceMul, Int.reduceSub, Int.reduceToNat]
    refine m_done0 (by omega) hm ho f1 a1 (f2.mono (by simp) (by simp)) hC2 hI2 a2 (fun V3 g1 g2 g3 => ?_)
    have := h0 q1 q2 V3 g1 g2 g3
    generalize hA : (σ.r.n - zpop (zDown (zGd σ.r x))) = A at this
    simp (disch := first | assumption | exact zk_232 | ((repeat (first | exact z1n | refine z1I ?_ | refine z1R ?_)); done) | exact rfl | omega | decide) only [r_aload_0, r_inv_1_0, r_inv_1_1, r_inv_1_2, r_inv_1_3, r_inv_1_4, r_K0, r_K1, r_iload_1, r_inv_2_0, r_inv_2_1, r_inv_2_2, r_inv_2_3, r_inv_2_4, r_iret, r_bret_0, r_bret_1, ↓reduceIte, not_true_eq_false, not_false_eq_true, Int.reduceEq, Int.reduceLE, Int.reduceLT, Int.reduceAdd, Int.reduceNeg, Int.reduceMul, Int.reduceSub, Int.reduceToNat]
    exact this
set_option maxRecDepth 20000 in
theorem u_repair (hd : 20 ≤ d) (hm : zWm σ s V) (ho : zOK σ) {x : Int} (hx : zI32 x) (e1 : ¬ (0 ≤ x ∧ x < σ.r.n) → zMth Q 1 σ s V) (e2 : (0 ≤ x ∧ x < σ.r.n) → ¬ (σ.r.S 6 x ≠ 1 ∧ σ.r.S 8 x = -1) → zMth Q 2 σ s V) (h0 : (0 ≤ x ∧ x < σ.r.n) → (σ.r.S 6 x ≠ 1 ∧ σ.r.S 8 x = -1) → zMrt Q (σ.r.S 3 x) (σ.sv (σ.r.sS 8 x (σ.r.S 3 x))) s V) : zcall d 233 [.ref 164, zi x] (s, V) Q := by
  obtain ⟨hM, hC, hI, hPa, hX, ⟨hi1, hi2⟩, hR⟩ := id hm
  have hW := ho.1
  obtain ⟨n0, n1, c0, c1⟩ := hW.1
  obtain ⟨p0, p1⟩ := ho.2.1
  have tM := hM.1
  have hH : ∀ k : Nat, (k : Int) < σ.p → (σ.H k).n ≤ 12 ∧ (σ.H k).c ≤ 24 := fun k hk => by
    obtain ⟨b0, b1, b2, b3⟩ := (ho.2.2.1 k hk).1
    exact ⟨b1, b3⟩
  obtain ⟨d, rfl⟩ : ∃ e, d = e + 1 := ⟨d - 1, by omega⟩
  simp (disch := first | assumption | omega) only [zc_233]
  simp (disch := first | assumption | exact zk_233 | ((repeat (first | exact z1n | refine z1I ?_ | refine z1R ?_)); done) | exact rfl | omega | decide) only [zb_233_0, r_aload_0, r_inv_1_0, r_inv_1_1, r_inv_1_2, r_inv_1_3, r_inv_1_4, r_K0, r_K1, r_iload_1, r_inv_2_0, r_inv_2_1, r_inv_2_2, r_inv_2_3, r_inv_2_4, r_iret, r_bret_0, r_bret_1, ↓reduceIte, not_true_eq_false, not_false_eq_true, Int.reduceEq, Int.reduceLE, Int.reduceLT, Int.reduceAdd, Int.reduceNeg, Int.reduceMul, Int.reduceSub, Int.reduceToNat]
  refine m_hold (by omega) hM hI (fun V1 f1 a1 => ?_)
  have hM1 := hM.fm f1 (by decide)
  have hC1 := hC.fm f1 (by decide)
  have hI1 : zInts V1 165 230 := by unfold zInts; rw [f1.1 165 (by omega) (by simp)]; exact hI
  have rf : zFm [165, 169] [9] V1 V1 := zFm.rf
  simp (disch := first | assumption | exact zk_233 | ((repeat (first | exact z1n | refine z1I ?_ | refine z1R ?_)); done) | exact rfl | omega | decide) only [r_aload_0, r_inv_1_0, r_inv_1_1, r_inv_1_2, r_inv_1_3, r_inv_1_4, r_K0, r_K1, r_iload_1, r_inv_2_0, r_inv_2_1, r_inv_2_2, r_inv_2_3, r_inv_2_4, r_iret, r_bret_0, r_bret_1, ↓reduceIte, not_true_eq_false, not_false_eq_true, Int.reduceEq, Int.reduceLE, Int.reduceLT, Int.reduceAdd, Int.reduceNeg, Int.reduceMul, Int.reduceSub, Int.reduceToNat]
  refine m_mends (by omega) hM1 hC1 hI1 hW hx ?_ ?_ ?_
  · intro q
    simp (disch := first | assumption | exact zk_233 | ((repeat (first | exact z1n | refine z1I ?_ | refine z1R ?_)); done) | exact rfl | omega | decide) only [r_aload_0, r_inv_1_0, r_inv_1_1, r_inv_1_2, r_inv_1_3, r_inv_1_4, r_K0, r_K1, r_iload_1, r_inv_2_0, r_inv_2_1, r_inv_2_2, r_inv_2_3, r_inv_2_4, r_iret, r_bret_0, r_bret_1, ↓reduceIte, not_true_eq_false, not_false_eq_true, Int.reduceEq, Int.reduceLE, Int.reduceLT, Int.reduceAdd, Int.reduceNeg, Int.reduceMul, Int.reduceSub, Int.reduceToNat]
    refine m_doneK (by omega) hm f1 rf rfl (by omega) (by omega) (fun V3 g1 g2 g3 => ?_)
    have := e1 q V3 g1 g2 g3
    simp (disch := first | assumption | exact zk_233 | ((repeat (first | exact z1n | refine z1I ?_ | refine z1R ?_)); done) | exact rfl | omega | decide) only [r_aload_0, r_inv_1_0, r_inv_1_1, r_inv_1_2, r_inv_1_3, r_inv_1_4, r_K0, r_K1, r_iload_1, r_inv_2_0, r_inv_2_1, r_inv_2_2, r_inv_2_3, r_inv_2_4, r_iret, r_bret_0, r_bret_1, ↓reduceIte, not_true_eq_false, not_false_eq_true, Int.reduceEq, Int.reduceLE, Int.reduceLT, Int.reduceAdd, Int.reduceNeg, Int.reduceMul, Int.reduceSub, Int.reduceToNat]
    exact this
  · intro q1 q2
    simp (disch := first | assumption | exact zk_233 | ((repeat (first | exact z1n | refine z1I ?_ | refine z1R ?_)); done) | exact rfl | omega | decide) only [r_aload_0, r_inv_1_0, r_inv_1_1, r_inv_1_2, r_inv_1_3, r_inv_1_4, r_K0, r_K1, r_iload_1, r_inv_2_0, r_inv_2_1, r_inv_2_2, r_inv_2_3, r_inv_2_4, r_iret, r_bret_0, r_bret_1, ↓reduceIte, not_true_eq_false, not_false_eq_true, Int.reduceEq, Int.reduceLE, Int.reduceLT, Int.reduceAdd, Int.reduceNeg, Int.reduceMul, Int.reduceSub, Int.reduceToNat]
    refine m_doneK (by omega) hm f1 rf rfl (by omega) (by omega) (fun V3 g1 g2 g3 => ?_)
    have := e2 q1 q2 V3 g1 g2 g3
    simp (disch := first | assumption | exact zk_233 | ((repeat (first | exact z1n | refine z1I ?_ | refine z1R ?_)); done) | exact rfl | omega | decide) only [r_aload_0, r_inv_1_0, r_inv_1_1, r_inv_1_2, r_inv_1_3, r_inv_1_4, r_K0, r_K1, r_iload_1, r_inv_2_0, r_inv_2_1, r_inv_2_2, r_inv_2_3, r_inv_2_4, r_iret, r_bret_0, r_bret_1, ↓reduceIte, not_true_eq_false, not_false_eq_true, Int.reduceEq, Int.reduceLE, Int.reduceLT, Int.reduceAdd, Int.reduceNeg, Int.reduceMul, Int.reduceSub, Int.reduceToNat]
    exact this
  · intro q1 q2 V2 f2 hC2 hI2 a2
    simp (disch := first | assumption | exact zk_233 | ((repeat (first | exact z1n | refine z1I ?_ | refine z1R ?_)); done) | exact rfl | omega | decide) only [r_aload_0, r_inv_1_0, r_inv_1_1, r_inv_1_2, r_inv_1_3, r_inv_1_4, r_K0, r_K1, r_iload_1, r_inv_2_0, r_inv_2_1, r_inv_2_2, r_inv_2_3, r_inv_2_4, r_iret, r_bret_0, r_bret_1, ↓reduceIte, not_true_eq_false, not_false_eq_true, Int.reduceEq, Int.reduceLE, Int.reduceLT, Int.reduceAdd, Int.reduceNeg, Int.reduceMul, Int.reduceSub, Int.reduceToNat]
    refine m_done0 (by omega) hm ho f1 a1 (f2.mono (by simp) (by simp)) hC2 hI2 a2 (fun V3 g1 g2 g3 => ?_)
    have := h0 q1 q2 V3 g1 g2 g3
    generalize hA : (σ.r.S 3 x) = A at this
    simp (disch := first | assumption | exact zk_233 | ((repeat (first | exact z1n | refine z1I ?_ | refine z1R ?_)); done) | exact rfl | omega | decide) only [r_aload_0, r_inv_1_0, r_inv_1_1, r_inv_1_2, r_inv_1_3, r_inv_1_4, r_K0, r_K1, r_iload_1, r_inv_2_0, r_inv_2_1, r_inv_2_2, r_inv_2_3, r_inv_2_4, r_iret, r_bret_0, r_bret_1, ↓reduceIte, not_true_eq_false, not_false_eq_true, Int.reduceEq, Int.reduceLE, Int.reduceLT, Int.reduceAdd, Int.reduceNeg, Int.reduceMul, Int.reduceSub, Int.reduceToNat]
    exact this
set_option maxRecDepth 20000 in
theorem u_steps (hd : 20 ≤ d) (hm : zWm σ s V) (ho : zOK σ) {x : Int} (hx : zI32 x) (e1 : ¬ (1 ≤ x ∧ x ≤ 50) → zMth Q 1 σ s V) (h0 : (1 ≤ x ∧ x ≤ 50) → zMrt Q (σ.r.n - zpop (zDown (zSteps σ.r x.toNat))) (σ.sv (zSteps σ.r x.toNat)) s V) : zcall d 234 [.ref 164, zi x] (s, V) Q := by
  obtain ⟨hM, hC, hI, hPa, hX, ⟨hi1, hi2⟩, hR⟩ := id hm
  have hW := ho.1
  obtain ⟨n0, n1, c0, c1⟩ := hW.1
  obtain ⟨p0, p1⟩ := ho.2.1
  have tM := hM.1
  have hH : ∀ k : Nat, (k : Int) < σ.p → (σ.H k).n ≤ 12 ∧ (σ.H k).c ≤ 24 := fun k hk => by
    obtain ⟨b0, b1, b2, b3⟩ := (ho.2.2.1 k hk).1
    exact ⟨b1, b3⟩
  obtain ⟨d, rfl⟩ : ∃ e, d = e + 1 := ⟨d - 1, by omega⟩
  simp (disch := first | assumption | omega) only [zc_234]
  simp (disch := first | assumption | exact zk_234 | ((repeat (first | exact z1n | refine z1I ?_ | refine z1R ?_)); done) | exact rfl | omega | decide) only [zb_234_0, r_aload_0, r_inv_1_0, r_inv_1_1, r_inv_1_2, r_inv_1_3, r_inv_1_4, r_K0, r_K1, r_iload_1, r_inv_2_0, r_inv_2_1, r_inv_2_2, r_inv_2_3, r_inv_2_4, r_iret, r_bret_0, r_bret_1, ↓reduceIte, not_true_eq_false, not_false_eq_true, Int.reduceEq, Int.reduceLE, Int.reduceLT, Int.reduceAdd, Int.reduceNeg, Int.reduceMul, Int.reduceSub, Int.reduceToNat]
  refine m_hold (by omega) hM hI (fun V1 f1 a1 => ?_)
  have hM1 := hM.fm f1 (by decide)
  have hC1 := hC.fm f1 (by decide)
  have hI1 : zInts V1 165 230 := by unfold zInts; rw [f1.1 165 (by omega) (by simp)]; exact hI
  have rf : zFm [165, 169] [9] V1 V1 := zFm.rf
  simp (disch := first | assumption | exact zk_234 | ((repeat (first | exact z1n | refine z1I ?_ | refine z1R ?_)); done) | exact rfl | omega | decide) only [r_aload_0, r_inv_1_0, r_inv_1_1, r_inv_1_2, r_inv_1_3, r_inv_1_4, r_K0, r_K1, r_iload_1, r_inv_2_0, r_inv_2_1, r_inv_2_2, r_inv_2_3, r_inv_2_4, r_iret, r_bret_0, r_bret_1, ↓reduceIte, not_true_eq_false, not_false_eq_true, Int.reduceEq, Int.reduceLE, Int.reduceLT, Int.reduceAdd, Int.reduceNeg, Int.reduceMul, Int.reduceSub, Int.reduceToNat]
  refine m_goes (by omega) hM1 hC1 hI1 hW hx ?_ ?_
  · intro q
    simp (disch := first | assumption | exact zk_234 | ((repeat (first | exact z1n | refine z1I ?_ | refine z1R ?_)); done) | exact rfl | omega | decide) only [r_aload_0, r_inv_1_0, r_inv_1_1, r_inv_1_2, r_inv_1_3, r_inv_1_4, r_K0, r_K1, r_iload_1, r_inv_2_0, r_inv_2_1, r_inv_2_2, r_inv_2_3, r_inv_2_4, r_iret, r_bret_0, r_bret_1, ↓reduceIte, not_true_eq_false, not_false_eq_true, Int.reduceEq, Int.reduceLE, Int.reduceLT, Int.reduceAdd, Int.reduceNeg, Int.reduceMul, Int.reduceSub, Int.reduceToNat]
    refine m_doneK (by omega) hm f1 rf rfl (by omega) (by omega) (fun V3 g1 g2 g3 => ?_)
    have := e1 q V3 g1 g2 g3
    simp (disch := first | assumption | exact zk_234 | ((repeat (first | exact z1n | refine z1I ?_ | refine z1R ?_)); done) | exact rfl | omega | decide) only [r_aload_0, r_inv_1_0, r_inv_1_1, r_inv_1_2, r_inv_1_3, r_inv_1_4, r_K0, r_K1, r_iload_1, r_inv_2_0, r_inv_2_1, r_inv_2_2, r_inv_2_3, r_inv_2_4, r_iret, r_bret_0, r_bret_1, ↓reduceIte, not_true_eq_false, not_false_eq_true, Int.reduceEq, Int.reduceLE, Int.reduceLT, Int.reduceAdd, Int.reduceNeg, Int.reduceMul, Int.reduceSub, Int.reduceToNat]
    exact this
  · intro q1 V2 f2 hC2 hI2 a2
    simp (disch := first | assumption | exact zk_234 | ((repeat (first | exact z1n | refine z1I ?_ | refine z1R ?_)); done) | exact rfl | omega | decide) only [r_aload_0, r_inv_1_0, r_inv_1_1, r_inv_1_2, r_inv_1_3, r_inv_1_4, r_K0, r_K1, r_iload_1, r_inv_2_0, r_inv_2_1, r_inv_2_2, r_inv_2_3, r_inv_2_4, r_iret, r_bret_0, r_bret_1, ↓reduceIte, not_true_eq_false, not_false_eq_true, Int.reduceEq, Int.reduceLE, Int.reduceLT, Int.reduceAdd, Int.reduceNeg, Int.reduceMul, Int.reduceSub, Int.reduceToNat]
    refine m_done0 (by omega) hm ho f1 a1 (f2.mono (by simp) (by simp)) hC2 hI2 a2 (fun V3 g1 g2 g3 => ?_)
    have := h0 q1 V3 g1 g2 g3
    generalize hA : (σ.r.n - zpop (zDown (zSteps σ.r x.toNat))) = A at this
    simp (disch := first | assumption | exact zk_234 | ((repeat (first | exact z1n | refine z1I ?_ | refine z1R ?_)); done) | exact rfl | omega | decide) only [r_aload_0, r_inv_1_0, r_inv_1_1, r_inv_1_2, r_inv_1_3, r_inv_1_4, r_K0, r_K1, r_iload_1, r_inv_2_0, r_inv_2_1, r_inv_2_2, r_inv_2_3, r_inv_2_4, r_iret, r_bret_0, r_bret_1, ↓reduceIte, not_true_eq_false, not_false_eq_true, Int.reduceEq, Int.reduceLE, Int.reduceLT, Int.reduceAdd, Int.reduceNeg, Int.reduceMul, Int.reduceSub, Int.reduceToNat]
    exact this
end
