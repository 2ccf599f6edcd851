/-! CALLS OF THE CLASS, 1: those that change the state -/
section
variable {d : Nat} {s : zS} {V : zV} {Q : zO → zH → Prop} {σ : zσ} {h : zH}
set_option maxRecDepth 20000 in
theorem w_addService (hd : 20 ≤ d) (hw : zWc σ s V) (ho : zOK σ) {x : Int} (hx : zI32 x) (e1 : ¬ (1 ≤ x ∧ x ≤ 100) → zThr Q 2 σ s V) (e2 : (1 ≤ x ∧ x ≤ 100) → (σ.r.n = 12) → zThr Q 3 σ s V) (h0 : (1 ≤ x ∧ x ≤ 100) → ¬ (σ.r.n = 12) → zRet Q (σ.r.n) (σ.sv (σ.r.addS x)) s V) : zcall d 116 [.ref 5, zi x] (s, V) Q := by
  have hw0 := hw
  obtain ⟨hA, ⟨hP, hC⟩, hB2, ⟨κ, hHP, hHC⟩, hD, hE, hF, hG, hI, hJ, hs, t1, l1⟩ := hw
  have hW := ho.1
  obtain ⟨n0, n1, c0, c1⟩ := hW.1
  obtain ⟨⟨s1, s2, s3, s4, s5, s6, s7, s8, s9, s10⟩, hSA, hSM⟩ := id hA
  have tO := hP.1
  have tH := hHP.1
  obtain ⟨d, rfl⟩ : ∃ e, d = e + 1 := ⟨d - 1, by omega⟩
  simp (disch := first | assumption | omega) only [zc_116]
  by_cases q1 : 1 ≤ x ∧ x ≤ 100
  · have _u := trivial
    by_cases q2 : σ.r.n = 12
    · obtain ⟨y1, y2⟩ := hw0.thr ho (10 + (3 : Int).toNat) (fun _ => .null)
      have := e2 q1 q2 _ _ y1 y2
      simp (disch := first | assumption | exact zk_116 | ((repeat (first | exact z1n | refine z1I ?_ | refine z1R ?_)); done) | exact rfl | omega | decide) only [zb_116_0, r_aload_0, r_gf_576, r_iload_1, r_inv_2_0, r_inv_2_1, r_inv_2_2, r_inv_2_3, r_inv_2_4, r_K0, r_K1, r_inv_1_0, r_inv_1_1, r_inv_1_2, r_inv_1_3, r_inv_1_4, r_gf_578, r_iret, r_bret_0, r_bret_1, r_KX, s2, s4, c_whyNotNewService (hC := hC), q1, q2, and_self, c_refX, ↓reduceIte, not_true_eq_false, not_false_eq_true, Int.reduceEq, Int.reduceLE, Int.reduceLT, Int.reduceAdd, Int.reduceNeg, Int.reduceMul, Int.reduceSub, Int.reduceToNat]
      exact this
    · have _u := trivial
      have h0' := h0 q1 q2
      simp (disch := first | assumption | exact zk_116 | ((repeat (first | exact z1n | refine z1I ?_ | refine z1R ?_)); done) | exact rfl | omega | decide) only [zb_116_0, r_aload_0, r_gf_576, r_iload_1, r_inv_2_0, r_inv_2_1, r_inv_2_2, r_inv_2_3, r_inv_2_4, r_K0, r_K1, r_inv_1_0, r_inv_1_1, r_inv_1_2, r_inv_1_3, r_inv_1_4, r_gf_578, r_iret, r_bret_0, r_bret_1, r_KX, s2, s4, c_whyNotNewService (hC := hC), q1, q2, and_self, c_ref0, ↓reduceIte, not_true_eq_false, not_false_eq_true, Int.reduceEq, Int.reduceLE, Int.reduceLT, Int.reduceAdd, Int.reduceNeg, Int.reduceMul, Int.reduceSub, Int.reduceToNat]
      refine c_save (by omega) hHP hHC ho.2.1.1 ho.2.1.2 (by omega) hP hC ⟨by omega, by omega⟩ (fun V1 κ1 f1 hHP1 hHC1 => ?_)
      have u2 : V1 5 0 = .ref 6 := by rw [f1 5 (by omega)]; exact s2
      have hP1 := hP.frg f1 (by omega)
      have hC1 := hC.frg f1 (by omega)
      have hSA1 : zSA s V1 := (hA.cg (s' := s) (V' := V1) (n := 0) (k := 0) zExt.rf hs (fun r hr => f1 r (by omega))).2.1
      simp (disch := first | assumption | exact zk_116 | ((repeat (first | exact z1n | refine z1I ?_ | refine z1R ?_)); done) | exact rfl | omega | decide) only [r_aload_0, r_gf_576, r_iload_1, r_inv_2_0, r_inv_2_1, r_inv_2_2, r_inv_2_3, r_inv_2_4, r_K0, r_K1, r_inv_1_0, r_inv_1_1, r_inv_1_2, r_inv_1_3, r_inv_1_4, r_gf_578, r_iret, r_bret_0, r_bret_1, r_KX, u2, ↓reduceIte, not_true_eq_false, not_false_eq_true, Int.reduceEq, Int.reduceLE, Int.reduceLT, Int.reduceAdd, Int.reduceNeg, Int.reduceMul, Int.reduceSub, Int.reduceToNat]
      have hW2 : zWF (σ.r.addS x) := hW.addS (by omega) q1.1 q1.2
      refine c_newService (by omega) hSA1 hP1 hC1 hW (by omega) (by omega) (fun V2 f2 hP2 hC2 => ?_)
      obtain ⟨y1, y2⟩ := hw0.mut ho hW2 f1 hHP1 hHC1 f2 hP2 hC2
      have := h0' s V2 y1 y2
      have u3 : V2 5 0 = .ref 6 := by rw [f2 5 (by omega)]; exact u2
      simp (disch := first | assumption | exact zk_116 | ((repeat (first | exact z1n | refine z1I ?_ | refine z1R ?_)); done) | exact rfl | omega | decide) only [r_aload_0, r_gf_576, r_iload_1, r_inv_2_0, r_inv_2_1, r_inv_2_2, r_inv_2_3, r_inv_2_4, r_K0, r_K1, r_inv_1_0, r_inv_1_1, r_inv_1_2, r_inv_1_3, r_inv_1_4, r_gf_578, r_iret, r_bret_0, r_bret_1, r_KX, u3, ↓reduceIte, not_true_eq_false, not_false_eq_true, Int.reduceEq, Int.reduceLE, Int.reduceLT, Int.reduceAdd, Int.reduceNeg, Int.reduceMul, Int.reduceSub, Int.reduceToNat]
      exact this
  · obtain ⟨y1, y2⟩ := hw0.thr ho (10 + (2 : Int).toNat) (fun _ => .null)
    have := e1 q1 _ _ y1 y2
    simp (disch := first | assumption | exact zk_116 | ((repeat (first | exact z1n | refine z1I ?_ | refine z1R ?_)); done) | exact rfl | omega | decide) only [zb_116_0, r_aload_0, r_gf_576, r_iload_1, r_inv_2_0, r_inv_2_1, r_inv_2_2, r_inv_2_3, r_inv_2_4, r_K0, r_K1, r_inv_1_0, r_inv_1_1, r_inv_1_2, r_inv_1_3, r_inv_1_4, r_gf_578, r_iret, r_bret_0, r_bret_1, r_KX, s2, s4, c_whyNotNewService (hC := hC), q1, and_self, c_refX, ↓reduceIte, not_true_eq_false, not_false_eq_true, Int.reduceEq, Int.reduceLE, Int.reduceLT, Int.reduceAdd, Int.reduceNeg, Int.reduceMul, Int.reduceSub, Int.reduceToNat]
    exact this
set_option maxRecDepth 20000 in
theorem w_addCall (hd : 20 ≤ d) (hw : zWc σ s V) (ho : zOK σ) {x y l t k : Int} (hx : zI32 x) (hy : zI32 y) (hl : zI32 l) (ht : zI32 t) (hk : zI32 k) (e1 : ¬ ((0 ≤ x ∧ x < σ.r.n) ∧ 0 ≤ y ∧ y < σ.r.n) → zThr Q 1 σ s V) (e2 : ((0 ≤ x ∧ x < σ.r.n) ∧ 0 ≤ y ∧ y < σ.r.n) → ¬ (((1 ≤ l ∧ l ≤ 500) ∧ 1 ≤ t ∧ t ≤ 3) ∧ 0 ≤ k ∧ k ≤ 2) → zThr Q 2 σ s V) (e3 : ((0 ≤ x ∧ x < σ.r.n) ∧ 0 ≤ y ∧ y < σ.r.n) → (((1 ≤ l ∧ l ≤ 500) ∧ 1 ≤ t ∧ t ≤ 3) ∧ 0 ≤ k ∧ k ≤ 2) → (((x = y ∨ zin (zNeeds σ.r y) x = true) ∨ k = 2 ∧ zHd σ.r x σ.r.c.toNat = -1) ∨ σ.r.c = 24) → zThr Q 3 σ s V) (h0 : ((0 ≤ x ∧ x < σ.r.n) ∧ 0 ≤ y ∧ y < σ.r.n) → (((1 ≤ l ∧ l ≤ 500) ∧ 1 ≤ t ∧ t ≤ 3) ∧ 0 ≤ k ∧ k ≤ 2) → ¬ (((x = y ∨ zin (zNeeds σ.r y) x = true) ∨ k = 2 ∧ zHd σ.r x σ.r.c.toNat = -1) ∨ σ.r.c = 24) → zRet Q (σ.r.c) (σ.sv (σ.r.addK x y l t k)) s V) : zcall d 117 [.ref 5, zi x, zi y, zi l, zi t, zi k] (s, V) Q := by
  have hw0 := hw
  obtain ⟨hA, ⟨hP, hC⟩, hB2, ⟨κ, hHP, hHC⟩, hD, hE, hF, hG, hI, hJ, hs, t1, l1⟩ := hw
  have hW := ho.1
  obtain ⟨n0, n1, c0, c1⟩ := hW.1
  obtain ⟨⟨s1, s2, s3, s4, s5, s6, s7, s8, s9, s10⟩, hSA, hSM⟩ := id hA
  have tO := hP.1
  have tH := hHP.1
  obtain ⟨d, rfl⟩ : ∃ e, d = e + 1 := ⟨d - 1, by omega⟩
  simp (disch := first | assumption | omega) only [zc_117]
  by_cases q1 : (0 ≤ x ∧ x < σ.r.n) ∧ 0 ≤ y ∧ y < σ.r.n
  · have _u := trivial
    by_cases q2 : ((1 ≤ l ∧ l ≤ 500) ∧ 1 ≤ t ∧ t ≤ 3) ∧ 0 ≤ k ∧ k ≤ 2
    · have _u := trivial
      by_cases q3 : ((x = y ∨ zin (zNeeds σ.r y) x = true) ∨ k = 2 ∧ zHd σ.r x σ.r.c.toNat = -1) ∨ σ.r.c = 24
      · obtain ⟨y1, y2⟩ := hw0.thr ho (10 + (3 : Int).toNat) (fun _ => .null)
        have := e3 q1 q2 q3 _ _ y1 y2
        simp (disch := first | assumption | exact zk_117 | ((repeat (first | exact z1n | refine z1I ?_ | refine z1R ?_)); done) | exact rfl | omega | decide) only [zb_117_0, r_aload_0, r_gf_576, r_iload_1, r_iload_2, r_iload_3, r_iload_4, r_iload_5, r_inv_6_0, r_inv_6_1, r_inv_6_2, r_inv_6_3, r_inv_6_4, r_K0, r_K1, r_inv_1_0, r_inv_1_1, r_inv_1_2, r_inv_1_3, r_inv_1_4, r_gf_578, r_inv_2_0, r_inv_2_1, r_inv_2_2, r_inv_2_3, r_inv_2_4, r_iret, r_bret_0, r_bret_1, r_KX, s2, s4, c_whyNotNewCall (hC := hC), q1, q2, q3, and_self, c_refX, ↓reduceIte, not_true_eq_false, not_false_eq_true, Int.reduceEq, Int.reduceLE, Int.reduceLT, Int.reduceAdd, Int.reduceNeg, Int.reduceMul, Int.reduceSub, Int.reduceToNat]
        exact this
      · have _u := trivial
        have h0' := h0 q1 q2 q3
        simp (disch := first | assumption | exact zk_117 | ((repeat (first | exact z1n | refine z1I ?_ | refine z1R ?_)); done) | exact rfl | omega | decide) only [zb_117_0, r_aload_0, r_gf_576, r_iload_1, r_iload_2, r_iload_3, r_iload_4, r_iload_5, r_inv_6_0, r_inv_6_1, r_inv_6_2, r_inv_6_3, r_inv_6_4, r_K0, r_K1, r_inv_1_0, r_inv_1_1, r_inv_1_2, r_inv_1_3, r_inv_1_4, r_gf_578, r_inv_2_0, r_inv_2_1, r_inv_2_2, r_inv_2_3, r_inv_2_4, r_iret, r_bret_0, r_bret_1, r_KX, s2, s4, c_whyNotNewCall (hC := hC), q1, q2, q3, and_self, c_ref0, ↓reduceIte, not_true_eq_false, not_false_eq_true, Int.reduceEq, Int.reduceLE, Int.reduceLT, Int.reduceAdd, Int.reduceNeg, Int.reduceMul, Int.reduceSub, Int.reduceToNat]
        refine c_save (by omega) hHP hHC ho.2.1.1 ho.2.1.2 (by omega) hP hC ⟨by omega, by omega⟩ (fun V1 κ1 f1 hHP1 hHC1 => ?_)
        have u2 : V1 5 0 = .ref 6 := by rw [f1 5 (by omega)]; exact s2
        have hP1 := hP.frg f1 (by omega)
        have hC1 := hC.frg f1 (by omega)
        have hSA1 : zSA s V1 := (hA.cg (s' := s) (V' := V1) (n := 0) (k := 0) zExt.rf hs (fun r hr => f1 r (by omega))).2.1
        simp (disch := first | assumption | exact zk_117 | ((repeat (first | exact z1n | refine z1I ?_ | refine z1R ?_)); done) | exact rfl | omega | decide) only [r_aload_0, r_gf_576, r_iload_1, r_iload_2, r_iload_3, r_iload_4, r_iload_5, r_inv_6_0, r_inv_6_1, r_inv_6_2, r_inv_6_3, r_inv_6_4, r_K0, r_K1, r_inv_1_0, r_inv_1_1, r_inv_1_2, r_inv_1_3, r_inv_1_4, r_gf_578, r_inv_2_0, r_inv_2_1, r_inv_2_2, r_inv_2_3, r_inv_2_4, r_iret, r_bret_0, r_bret_1, r_KX, u2, ↓reduceIte, not_true_eq_false, not_false_eq_true, Int.reduceEq, Int.reduceLE, Int.reduceLT, Int.reduceAdd, Int.reduceNeg, Int.reduceMul, Int.reduceSub, Int.reduceToNat]
        have hW2 : zWF (σ.r.addK x y l t k) := by
          have q3a : ¬ x = y := fun c => q3 (Or.inl (Or.inl (Or.inl c)))
          have q3b : zin (zNeeds σ.r y) x = false := by
            cases c : zin (zNeeds σ.r y) x
            · rfl
            · exact absurd (Or.inl (Or.inl (Or.inr c))) q3
          exact hW.addK (by omega) q1.1 q1.2 q2.1.1 q2.1.2 q2.2 q3a q3b (fun c c2 => q3 (Or.inl (Or.inr ⟨c, c2⟩)))
        refine c_newCall (by omega) hP1 hC1 hW (by omega) q1.1.1 q1.1.2 hk (fun V2 f2 hP2 hC2 => ?_)
        obtain ⟨y1, y2⟩ := hw0.mut ho hW2 f1 hHP1 hHC1 f2 hP2 hC2
        have := h0' s V2 y1 y2
        have u3 : V2 5 0 = .ref 6 := by rw [f2 5 (by omega)]; exact u2
        simp (disch := first | assumption | exact zk_117 | ((repeat (first | exact z1n | refine z1I ?_ | refine z1R ?_)); done) | exact rfl | omega | decide) only [r_aload_0, r_gf_576, r_iload_1, r_iload_2, r_iload_3, r_iload_4, r_iload_5, r_inv_6_0, r_inv_6_1, r_inv_6_2, r_inv_6_3, r_inv_6_4, r_K0, r_K1, r_inv_1_0, r_inv_1_1, r_inv_1_2, r_inv_1_3, r_inv_1_4, r_gf_578, r_inv_2_0, r_inv_2_1, r_inv_2_2, r_inv_2_3, r_inv_2_4, r_iret, r_bret_0, r_bret_1, r_KX, u3, ↓reduceIte, not_true_eq_false, not_false_eq_true, Int.reduceEq, Int.reduceLE, Int.reduceLT, Int.reduceAdd, Int.reduceNeg, Int.reduceMul, Int.reduceSub, Int.reduceToNat]
        exact this
    · obtain ⟨y1, y2⟩ := hw0.thr ho (10 + (2 : Int).toNat) (fun _ => .null)
      have := e2 q1 q2 _ _ y1 y2
      simp (disch := first | assumption | exact zk_117 | ((repeat (first | exact z1n | refine z1I ?_ | refine z1R ?_)); done) | exact rfl | omega | decide) only [zb_117_0, r_aload_0, r_gf_576, r_iload_1, r_iload_2, r_iload_3, r_iload_4, r_iload_5, r_inv_6_0, r_inv_6_1, r_inv_6_2, r_inv_6_3, r_inv_6_4, r_K0, r_K1, r_inv_1_0, r_inv_1_1, r_inv_1_2, r_inv_1_3, r_inv_1_4, r_gf_578, r_inv_2_0, r_inv_2_1, r_inv_2_2, r_inv_2_3, r_inv_2_4, r_iret, r_bret_0, r_bret_1, r_KX, s2, s4, c_whyNotNewCall (hC := hC), q1, q2, and_self, c_refX, ↓reduceIte, not_true_eq_false, not_false_eq_true, Int.reduceEq, Int.reduceLE, Int.reduceLT, Int.reduceAdd, Int.reduceNeg, Int.reduceMul, Int.reduceSub, Int.reduceToNat]
      exact this
  · obtain ⟨y1, y2⟩ := hw0.thr ho (10 + (1 : Int).toNat) (fun _ => .null)
    have := e1 q1 _ _ y1 y2
    simp (disch := first | assumption | exact zk_117 | ((repeat (first | exact z1n | refine z1I ?_ | refine z1R ?_)); done) | exact rfl | omega | decide) only [zb_117_0, r_aload_0, r_gf_576, r_iload_1, r_iload_2, r_iload_3, r_iload_4, r_iload_5, r_inv_6_0, r_inv_6_1, r_inv_6_2, r_inv_6_3, r_inv_6_4, r_K0, r_K1, r_inv_1_0, r_inv_1_1, r_inv_1_2, r_inv_1_3, r_inv_1_4, r_gf_578, r_inv_2_0, r_inv_2_1, r_inv_2_2, r_inv_2_3, r_inv_2_4, r_iret, r_bret_0, r_bret_1, r_KX, s2, s4, c_whyNotNewCall (hC := hC), q1, and_self, c_refX, ↓reduceIte, not_true_eq_false, not_false_eq_true, Int.reduceEq, Int.reduceLE, Int.reduceLT, Int.reduceAdd, Int.reduceNeg, Int.reduceMul, Int.reduceSub, Int.reduceToNat]
    exact this
set_option maxRecDepth 20000 in
theorem w_removeCall (hd : 20 ≤ d) (hw : zWc σ s V) (ho : zOK σ) {k : Int} (hk : zI32 k) (e1 : ¬ (0 ≤ k ∧ k < σ.r.c) → zThr Q 1 σ s V) (e2 : (0 ≤ k ∧ k < σ.r.c) → (zany (fun j => decide (zLead σ.r j = k)) 0 σ.r.c = true) → zThr Q 3 σ s V) (h0 : (0 ≤ k ∧ k < σ.r.c) → ¬ (zany (fun j => decide (zLead σ.r j = k)) 0 σ.r.c = true) → zRet Q (σ.r.c - 1) (σ.sv (σ.r.delK k)) s V) : zcall d 118 [.ref 5, zi k] (s, V) Q := by
  have hw0 := hw
  obtain ⟨hA, ⟨hP, hC⟩, hB2, ⟨κ, hHP, hHC⟩, hD, hE, hF, hG, hI, hJ, hs, t1, l1⟩ := hw
  have hW := ho.1
  obtain ⟨n0, n1, c0, c1⟩ := hW.1
  obtain ⟨⟨s1, s2, s3, s4, s5, s6, s7, s8, s9, s10⟩, hSA, hSM⟩ := id hA
  have tO := hP.1
  have tH := hHP.1
  obtain ⟨d, rfl⟩ : ∃ e, d = e + 1 := ⟨d - 1, by omega⟩
  simp (disch := first | assumption | omega) only [zc_118]
  by_cases q1 : 0 ≤ k ∧ k < σ.r.c
  · have _u := trivial
    by_cases q2 : zany (fun j => decide (zLead σ.r j = k)) 0 σ.r.c = true
    · obtain ⟨y1, y2⟩ := hw0.thr ho (10 + (3 : Int).toNat) (fun _ => .null)
      have := e2 q1 q2 _ _ y1 y2
      simp (disch := first | assumption | exact zk_118 | ((repeat (first | exact z1n | refine z1I ?_ | refine z1R ?_)); done) | exact rfl | omega | decide) only [zb_118_0, r_aload_0, r_gf_576, r_iload_1, r_inv_2_0, r_inv_2_1, r_inv_2_2, r_inv_2_3, r_inv_2_4, r_K0, r_K1, r_inv_1_0, r_inv_1_1, r_inv_1_2, r_inv_1_3, r_inv_1_4, r_gf_578, r_iret, r_bret_0, r_bret_1, r_KX, s2, s4, c_whyNotDropCall (hC := hC), q1, q2, and_self, c_refX, ↓reduceIte, not_true_eq_false, not_false_eq_true, Int.reduceEq, Int.reduceLE, Int.reduceLT, Int.reduceAdd, Int.reduceNeg, Int.reduceMul, Int.reduceSub, Int.reduceToNat]
      exact this
    · have _u := trivial
      have h0' := h0 q1 q2
      simp (disch := first | assumption | exact zk_118 | ((repeat (first | exact z1n | refine z1I ?_ | refine z1R ?_)); done) | exact rfl | omega | decide) only [zb_118_0, r_aload_0, r_gf_576, r_iload_1, r_inv_2_0, r_inv_2_1, r_inv_2_2, r_inv_2_3, r_inv_2_4, r_K0, r_K1, r_inv_1_0, r_inv_1_1, r_inv_1_2, r_inv_1_3, r_inv_1_4, r_gf_578, r_iret, r_bret_0, r_bret_1, r_KX, s2, s4, c_whyNotDropCall (hC := hC), q1, q2, and_self, c_ref0, ↓reduceIte, not_true_eq_false, not_false_eq_true, Int.reduceEq, Int.reduceLE, Int.reduceLT, Int.reduceAdd, Int.reduceNeg, Int.reduceMul, Int.reduceSub, Int.reduceToNat]
      refine c_save (by omega) hHP hHC ho.2.1.1 ho.2.1.2 (by omega) hP hC ⟨by omega, by omega⟩ (fun V1 κ1 f1 hHP1 hHC1 => ?_)
      have u2 : V1 5 0 = .ref 6 := by rw [f1 5 (by omega)]; exact s2
      have hP1 := hP.frg f1 (by omega)
      have hC1 := hC.frg f1 (by omega)
      have hSA1 : zSA s V1 := (hA.cg (s' := s) (V' := V1) (n := 0) (k := 0) zExt.rf hs (fun r hr => f1 r (by omega))).2.1
      simp (disch := first | assumption | exact zk_118 | ((repeat (first | exact z1n | refine z1I ?_ | refine z1R ?_)); done) | exact rfl | omega | decide) only [r_aload_0, r_gf_576, r_iload_1, r_inv_2_0, r_inv_2_1, r_inv_2_2, r_inv_2_3, r_inv_2_4, r_K0, r_K1, r_inv_1_0, r_inv_1_1, r_inv_1_2, r_inv_1_3, r_inv_1_4, r_gf_578, r_iret, r_bret_0, r_bret_1, r_KX, u2, ↓reduceIte, not_true_eq_false, not_false_eq_true, Int.reduceEq, Int.reduceLE, Int.reduceLT, Int.reduceAdd, Int.reduceNeg, Int.reduceMul, Int.reduceSub, Int.reduceToNat]
      have hno : ∀ j, 0 ≤ j → j < σ.r.c → zLead σ.r j ≠ k := fun j j0 j1 => by
        have := (zany_f _).mp (show zany (fun j => decide (zLead σ.r j = k)) 0 σ.r.c = false by simpa using q2) j j0 j1
        simpa using this
      have hW2 : zWF (σ.r.delK k) := hW.delK q1.1 q1.2 hno
      refine c_dropCall (by omega) hP1 hC1 hW q1.1 q1.2 hno (fun V2 f2 hP2 hC2 => ?_)
      obtain ⟨y1, y2⟩ := hw0.mut ho hW2 f1 hHP1 hHC1 f2 hP2 hC2
      have := h0' s V2 y1 y2
      have u3 : V2 5 0 = .ref 6 := by rw [f2 5 (by omega)]; exact u2
      simp (disch := first | assumption | exact zk_118 | ((repeat (first | exact z1n | refine z1I ?_ | refine z1R ?_)); done) | exact rfl | omega | decide) only [r_aload_0, r_gf_576, r_iload_1, r_inv_2_0, r_inv_2_1, r_inv_2_2, r_inv_2_3, r_inv_2_4, r_K0, r_K1, r_inv_1_0, r_inv_1_1, r_inv_1_2, r_inv_1_3, r_inv_1_4, r_gf_578, r_iret, r_bret_0, r_bret_1, r_KX, u3, ↓reduceIte, not_true_eq_false, not_false_eq_true, Int.reduceEq, Int.reduceLE, Int.reduceLT, Int.reduceAdd, Int.reduceNeg, Int.reduceMul, Int.reduceSub, Int.reduceToNat]
      exact this
  · obtain ⟨y1, y2⟩ := hw0.thr ho (10 + (1 : Int).toNat) (fun _ => .null)
    have := e1 q1 _ _ y1 y2
    simp (disch := first | assumption | exact zk_118 | ((repeat (first | exact z1n | refine z1I ?_ | refine z1R ?_)); done) | exact rfl | omega | decide) only [zb_118_0, r_aload_0, r_gf_576, r_iload_1, r_inv_2_0, r_inv_2_1, r_inv_2_2, r_inv_2_3, r_inv_2_4, r_K0, r_K1, r_inv_1_0, r_inv_1_1, r_inv_1_2, r_inv_1_3, r_inv_1_4, r_gf_578, r_iret, r_bret_0, r_bret_1, r_KX, s2, s4, c_whyNotDropCall (hC := hC), q1, and_self, c_refX, ↓reduceIte, not_true_eq_false, not_false_eq_true, Int.reduceEq, Int.reduceLE, Int.reduceLT, Int.reduceAdd, Int.reduceNeg, Int.reduceMul, Int.reduceSub, Int.reduceToNat]
    exact this
set_option maxRecDepth 20000 in
theorem w_set (hd : 20 ≤ d) (hw : zWc σ s V) (ho : zOK σ) {u x v : Int} (hu : zI32 u) (hx : zI32 x) (hv : zI32 v) (e1 : ¬ (0 ≤ x ∧ x < σ.r.n) → zThr Q 1 σ s V) (e2 : (0 ≤ x ∧ x < σ.r.n) → ¬ ((0 ≤ u ∧ u ≤ 5) ∧ zLeast u ≤ v ∧ v ≤ zMost u) → zThr Q 2 σ s V) (h0 : (0 ≤ x ∧ x < σ.r.n) → ((0 ≤ u ∧ u ≤ 5) ∧ zLeast u ≤ v ∧ v ≤ zMost u) → zRet Q (σ.r.S u x) (σ.sv (σ.r.sS u x v)) s V) : zcall d 119 [.ref 5, zi u, zi x, zi v] (s, V) Q := by
  have hw0 := hw
  obtain ⟨hA, ⟨hP, hC⟩, hB2, ⟨κ, hHP, hHC⟩, hD, hE, hF, hG, hI, hJ, hs, t1, l1⟩ := hw
  have hW := ho.1
  obtain ⟨n0, n1, c0, c1⟩ := hW.1
  obtain ⟨⟨s1, s2, s3, s4, s5, s6, s7, s8, s9, s10⟩, hSA, hSM⟩ := id hA
  have tO := hP.1
  have tH := hHP.1
  obtain ⟨d, rfl⟩ : ∃ e, d = e + 1 := ⟨d - 1, by omega⟩
  simp (disch := first | assumption | omega) only [zc_119]
  by_cases q1 : 0 ≤ x ∧ x < σ.r.n
  · have _u := trivial
    by_cases q2 : (0 ≤ u ∧ u ≤ 5) ∧ zLeast u ≤ v ∧ v ≤ zMost u
    · have _u := trivial
      have h0' := h0 q1 q2
      simp (disch := first | assumption | exact zk_119 | ((repeat (first | exact z1n | refine z1I ?_ | refine z1R ?_)); done) | exact rfl | omega | decide) only [zb_119_0, r_aload_0, r_gf_576, r_iload_1, r_iload_2, r_iload_3, r_inv_4_0, r_inv_4_1, r_inv_4_2, r_inv_4_3, r_inv_4_4, r_K0, r_K1, r_inv_1_0, r_inv_1_1, r_inv_1_2, r_inv_1_3, r_inv_1_4, r_gf_578, r_inv_2_0, r_inv_2_1, r_inv_2_2, r_inv_2_3, r_inv_2_4, r_iret, r_bret_0, r_bret_1, r_KX, s2, s4, c_whyNotChange (hC := hC), q1, q2, and_self, c_ref0, ↓reduceIte, not_true_eq_false, not_false_eq_true, Int.reduceEq, Int.reduceLE, Int.reduceLT, Int.reduceAdd, Int.reduceNeg, Int.reduceMul, Int.reduceSub, Int.reduceToNat]
      refine c_save (by omega) hHP hHC ho.2.1.1 ho.2.1.2 (by omega) hP hC ⟨by omega, by omega⟩ (fun V1 κ1 f1 hHP1 hHC1 => ?_)
      have u2 : V1 5 0 = .ref 6 := by rw [f1 5 (by omega)]; exact s2
      have hP1 := hP.frg f1 (by omega)
      have hC1 := hC.frg f1 (by omega)
      have hSA1 : zSA s V1 := (hA.cg (s' := s) (V' := V1) (n := 0) (k := 0) zExt.rf hs (fun r hr => f1 r (by omega))).2.1
      simp (disch := first | assumption | exact zk_119 | ((repeat (first | exact z1n | refine z1I ?_ | refine z1R ?_)); done) | exact rfl | omega | decide) only [r_aload_0, r_gf_576, r_iload_1, r_iload_2, r_iload_3, r_inv_4_0, r_inv_4_1, r_inv_4_2, r_inv_4_3, r_inv_4_4, r_K0, r_K1, r_inv_1_0, r_inv_1_1, r_inv_1_2, r_inv_1_3, r_inv_1_4, r_gf_578, r_inv_2_0, r_inv_2_1, r_inv_2_2, r_inv_2_3, r_inv_2_4, r_iret, r_bret_0, r_bret_1, r_KX, u2, ↓reduceIte, not_true_eq_false, not_false_eq_true, Int.reduceEq, Int.reduceLE, Int.reduceLT, Int.reduceAdd, Int.reduceNeg, Int.reduceMul, Int.reduceSub, Int.reduceToNat]
      have hW2 : zWF (σ.r.sS u x v) := hW.sS q2.1.1 q2.1.2 q2.2.1 q2.2.2
      refine c_change (by omega) hP1 hC1 (by omega) q2.1.1 (by omega) q1.1 q1.2 (fun V2 f2 hP2 hC2 => ?_)
      obtain ⟨y1, y2⟩ := hw0.mut ho hW2 f1 hHP1 hHC1 f2 hP2 hC2
      have := h0' s V2 y1 y2
      have u3 : V2 5 0 = .ref 6 := by rw [f2 5 (by omega)]; exact u2
      simp (disch := first | assumption | exact zk_119 | ((repeat (first | exact z1n | refine z1I ?_ | refine z1R ?_)); done) | exact rfl | omega | decide) only [r_aload_0, r_gf_576, r_iload_1, r_iload_2, r_iload_3, r_inv_4_0, r_inv_4_1, r_inv_4_2, r_inv_4_3, r_inv_4_4, r_K0, r_K1, r_inv_1_0, r_inv_1_1, r_inv_1_2, r_inv_1_3, r_inv_1_4, r_gf_578, r_inv_2_0, r_inv_2_1, r_inv_2_2, r_inv_2_3, r_inv_2_4, r_iret, r_bret_0, r_bret_1, r_KX, u3, ↓reduceIte, not_true_eq_false, not_false_eq_true, Int.reduceEq, Int.reduceLE, Int.reduceLT, Int.reduceAdd, Int.reduceNeg, Int.reduceMul, Int.reduceSub, Int.reduceToNat]
      exact this
    · obtain ⟨y1, y2⟩ := hw0.thr ho (10 + (2 : Int).toNat) (fun _ => .null)
      have := e2 q1 q2 _ _ y1 y2
      simp (disch := first | assumption | exact zk_119 | ((repeat (first | exact z1n | refine z1I ?_ | refine z1R ?_)); done) | exact rfl | omega | decide) only [zb_119_0, r_aload_0, r_gf_576, r_iload_1, r_iload_2, r_iload_3, r_inv_4_0, r_inv_4_1, r_inv_4_2, r_inv_4_3, r_inv_4_4, r_K0, r_K1, r_inv_1_0, r_inv_1_1, r_inv_1_2, r_inv_1_3, r_inv_1_4, r_gf_578, r_inv_2_0, r_inv_2_1, r_inv_2_2, r_inv_2_3, r_inv_2_4, r_iret, r_bret_0, r_bret_1, r_KX, s2, s4, c_whyNotChange (hC := hC), q1, q2, and_self, c_refX, ↓reduceIte, not_true_eq_false, not_false_eq_true, Int.reduceEq, Int.reduceLE, Int.reduceLT, Int.reduceAdd, Int.reduceNeg, Int.reduceMul, Int.reduceSub, Int.reduceToNat]
      exact this
  · obtain ⟨y1, y2⟩ := hw0.thr ho (10 + (1 : Int).toNat) (fun _ => .null)
    have := e1 q1 _ _ y1 y2
    simp (disch := first | assumption | exact zk_119 | ((repeat (first | exact z1n | refine z1I ?_ | refine z1R ?_)); done) | exact rfl | omega | decide) only [zb_119_0, r_aload_0, r_gf_576, r_iload_1, r_iload_2, r_iload_3, r_inv_4_0, r_inv_4_1, r_inv_4_2, r_inv_4_3, r_inv_4_4, r_K0, r_K1, r_inv_1_0, r_inv_1_1, r_inv_1_2, r_inv_1_3, r_inv_1_4, r_gf_578, r_inv_2_0, r_inv_2_1, r_inv_2_2, r_inv_2_3, r_inv_2_4, r_iret, r_bret_0, r_bret_1, r_KX, s2, s4, c_whyNotChange (hC := hC), q1, and_self, c_refX, ↓reduceIte, not_true_eq_false, not_false_eq_true, Int.reduceEq, Int.reduceLE, Int.reduceLT, Int.reduceAdd, Int.reduceNeg, Int.reduceMul, Int.reduceSub, Int.reduceToNat]
    exact this
set_option maxRecDepth 20000 in
theorem w_setLimit (hd : 20 ≤ d) (hw : zWc σ s V) (ho : zOK σ) {k v : Int} (hk : zI32 k) (hv : zI32 v) (e1 : ¬ (0 ≤ k ∧ k < σ.r.c) → zThr Q 1 σ s V) (e2 : (0 ≤ k ∧ k < σ.r.c) → ¬ (1 ≤ v ∧ v ≤ 500) → zThr Q 2 σ s V) (h0 : (0 ≤ k ∧ k < σ.r.c) → (1 ≤ v ∧ v ≤ 500) → zRet Q (σ.r.K 2 k) (σ.sv (σ.r.sK 2 k v)) s V) : zcall d 120 [.ref 5, zi k, zi v] (s, V) Q := by
  have hw0 := hw
  obtain ⟨hA, ⟨hP, hC⟩, hB2, ⟨κ, hHP, hHC⟩, hD, hE, hF, hG, hI, hJ, hs, t1, l1⟩ := hw
  have hW := ho.1
  obtain ⟨n0, n1, c0, c1⟩ := hW.1
  obtain ⟨⟨s1, s2, s3, s4, s5, s6, s7, s8, s9, s10⟩, hSA, hSM⟩ := id hA
  have tO := hP.1
  have tH := hHP.1
  obtain ⟨d, rfl⟩ : ∃ e, d = e + 1 := ⟨d - 1, by omega⟩
  simp (disch := first | assumption | omega) only [zc_120]
  by_cases q1 : 0 ≤ k ∧ k < σ.r.c
  · have _u := trivial
    by_cases q2 : 1 ≤ v ∧ v ≤ 500
    · have _u := trivial
      have h0' := h0 q1 q2
      simp (disch := first | assumption | exact zk_120 | ((repeat (first | exact z1n | refine z1I ?_ | refine z1R ?_)); done) | exact rfl | omega | decide) only [zb_120_0, r_aload_0, r_gf_576, r_iload_1, r_iload_2, r_inv_3_0, r_inv_3_1, r_inv_3_2, r_inv_3_3, r_inv_3_4, r_K0, r_K1, r_inv_1_0, r_inv_1_1, r_inv_1_2, r_inv_1_3, r_inv_1_4, r_gf_578, r_inv_2_0, r_inv_2_1, r_inv_2_2, r_inv_2_3, r_inv_2_4, r_iret, r_bret_0, r_bret_1, r_KX, s2, s4, c_whyNotChangeLimit (hC := hC), q1, q2, and_self, c_ref0, ↓reduceIte, not_true_eq_false, not_false_eq_true, Int.reduceEq, Int.reduceLE, Int.reduceLT, Int.reduceAdd, Int.reduceNeg, Int.reduceMul, Int.reduceSub, Int.reduceToNat]
      refine c_save (by omega) hHP hHC ho.2.1.1 ho.2.1.2 (by omega) hP hC ⟨by omega, by omega⟩ (fun V1 κ1 f1 hHP1 hHC1 => ?_)
      have u2 : V1 5 0 = .ref 6 := by rw [f1 5 (by omega)]; exact s2
      have hP1 := hP.frg f1 (by omega)
      have hC1 := hC.frg f1 (by omega)
      have hSA1 : zSA s V1 := (hA.cg (s' := s) (V' := V1) (n := 0) (k := 0) zExt.rf hs (fun r hr => f1 r (by omega))).2.1
      simp (disch := first | assumption | exact zk_120 | ((repeat (first | exact z1n | refine z1I ?_ | refine z1R ?_)); done) | exact rfl | omega | decide) only [r_aload_0, r_gf_576, r_iload_1, r_iload_2, r_inv_3_0, r_inv_3_1, r_inv_3_2, r_inv_3_3, r_inv_3_4, r_K0, r_K1, r_inv_1_0, r_inv_1_1, r_inv_1_2, r_inv_1_3, r_inv_1_4, r_gf_578, r_inv_2_0, r_inv_2_1, r_inv_2_2, r_inv_2_3, r_inv_2_4, r_iret, r_bret_0, r_bret_1, r_KX, u2, ↓reduceIte, not_true_eq_false, not_false_eq_true, Int.reduceEq, Int.reduceLE, Int.reduceLT, Int.reduceAdd, Int.reduceNeg, Int.reduceMul, Int.reduceSub, Int.reduceToNat]
      have hW2 : zWF (σ.r.sK 2 k v) := hW.sK2 q2.1 q2.2
      refine c_changeLimit (by omega) hP1 hC1 (by omega) q1.1 q1.2 (fun V2 f2 hP2 hC2 => ?_)
      obtain ⟨y1, y2⟩ := hw0.mut ho hW2 f1 hHP1 hHC1 f2 hP2 hC2
      have := h0' s V2 y1 y2
      have u3 : V2 5 0 = .ref 6 := by rw [f2 5 (by omega)]; exact u2
      simp (disch := first | assumption | exact zk_120 | ((repeat (first | exact z1n | refine z1I ?_ | refine z1R ?_)); done) | exact rfl | omega | decide) only [r_aload_0, r_gf_576, r_iload_1, r_iload_2, r_inv_3_0, r_inv_3_1, r_inv_3_2, r_inv_3_3, r_inv_3_4, r_K0, r_K1, r_inv_1_0, r_inv_1_1, r_inv_1_2, r_inv_1_3, r_inv_1_4, r_gf_578, r_inv_2_0, r_inv_2_1, r_inv_2_2, r_inv_2_3, r_inv_2_4, r_iret, r_bret_0, r_bret_1, r_KX, u3, ↓reduceIte, not_true_eq_false, not_false_eq_true, Int.reduceEq, Int.reduceLE, Int.reduceLT, Int.reduceAdd, Int.reduceNeg, Int.reduceMul, Int.reduceSub, Int.reduceToNat]
      exact this
    · obtain ⟨y1, y2⟩ := hw0.thr ho (10 + (2 : Int).toNat) (fun _ => .null)
      have := e2 q1 q2 _ _ y1 y2
      simp (disch := first | assumption | exact zk_120 | ((repeat (first | exact z1n | refine z1I ?_ | refine z1R ?_)); done) | exact rfl | omega | decide) only [zb_120_0, r_aload_0, r_gf_576, r_iload_1, r_iload_2, r_inv_3_0, r_inv_3_1, r_inv_3_2, r_inv_3_3, r_inv_3_4, r_K0, r_K1, r_inv_1_0, r_inv_1_1, r_inv_1_2, r_inv_1_3, r_inv_1_4, r_gf_578, r_inv_2_0, r_inv_2_1, r_inv_2_2, r_inv_2_3, r_inv_2_4, r_iret, r_bret_0, r_bret_1, r_KX, s2, s4, c_whyNotChangeLimit (hC := hC), q1, q2, and_self, c_refX, ↓reduceIte, not_true_eq_false, not_false_eq_true, Int.reduceEq, Int.reduceLE, Int.reduceLT, Int.reduceAdd, Int.reduceNeg, Int.reduceMul, Int.reduceSub, Int.reduceToNat]
      exact this
  · obtain ⟨y1, y2⟩ := hw0.thr ho (10 + (1 : Int).toNat) (fun _ => .null)
    have := e1 q1 _ _ y1 y2
    simp (disch := first | assumption | exact zk_120 | ((repeat (first | exact z1n | refine z1I ?_ | refine z1R ?_)); done) | exact rfl | omega | decide) only [zb_120_0, r_aload_0, r_gf_576, r_iload_1, r_iload_2, r_inv_3_0, r_inv_3_1, r_inv_3_2, r_inv_3_3, r_inv_3_4, r_K0, r_K1, r_inv_1_0, r_inv_1_1, r_inv_1_2, r_inv_1_3, r_inv_1_4, r_gf_578, r_inv_2_0, r_inv_2_1, r_inv_2_2, r_inv_2_3, r_inv_2_4, r_iret, r_bret_0, r_bret_1, r_KX, s2, s4, c_whyNotChangeLimit (hC := hC), q1, and_self, c_refX, ↓reduceIte, not_true_eq_false, not_false_eq_true, Int.reduceEq, Int.reduceLE, Int.reduceLT, Int.reduceAdd, Int.reduceNeg, Int.reduceMul, Int.reduceSub, Int.reduceToNat]
    exact this
set_option maxRecDepth 20000 in
theorem w_repair (hd : 20 ≤ d) (hw : zWc σ s V) (ho : zOK σ) {x : Int} (hx : zI32 x) (e1 : ¬ (0 ≤ x ∧ x < σ.r.n) → zThr Q 1 σ s V) (e2 : (0 ≤ x ∧ x < σ.r.n) → ¬ (σ.r.S 6 x ≠ 1 ∧ σ.r.S 8 x = -1) → zThr Q 3 σ s V) (h0 : (0 ≤ x ∧ x < σ.r.n) → (σ.r.S 6 x ≠ 1 ∧ σ.r.S 8 x = -1) → zRet Q (σ.r.S 3 x) (σ.sv (σ.r.sS 8 x (σ.r.S 3 x))) s V) : zcall d 137 [.ref 5, zi x] (s, V) Q := by
  have hw0 := hw
  obtain ⟨hA, ⟨hP, hC⟩, hB2, ⟨κ, hHP, hHC⟩, hD, hE, hF, hG, hI, hJ, hs, t1, l1⟩ := hw
  have hW := ho.1
  obtain ⟨n0, n1, c0, c1⟩ := hW.1
  obtain ⟨⟨s1, s2, s3, s4, s5, s6, s7, s8, s9, s10⟩, hSA, hSM⟩ := id hA
  have tO := hP.1
  have tH := hHP.1
  obtain ⟨d, rfl⟩ : ∃ e, d = e + 1 := ⟨d - 1, by omega⟩
  simp (disch := first | assumption | omega) only [zc_137]
  by_cases q1 : 0 ≤ x ∧ x < σ.r.n
  · have _u := trivial
    by_cases q2 : σ.r.S 6 x ≠ 1 ∧ σ.r.S 8 x = -1
    · have _u := trivial
      have h0' := h0 q1 q2
      simp (disch := first | assumption | exact zk_137 | ((repeat (first | exact z1n | refine z1I ?_ | refine z1R ?_)); done) | exact rfl | omega | decide) only [zb_137_0, r_aload_0, r_gf_576, r_iload_1, r_inv_2_0, r_inv_2_1, r_inv_2_2, r_inv_2_3, r_inv_2_4, r_K0, r_K1, r_inv_1_0, r_inv_1_1, r_inv_1_2, r_inv_1_3, r_inv_1_4, r_gf_578, r_iret, r_bret_0, r_bret_1, r_KX, s2, s4, c_whyNotBeginRepair (hC := hC), q1, if_pos q2, and_self, c_ref0, ↓reduceIte, not_true_eq_false, not_false_eq_true, Int.reduceEq, Int.reduceLE, Int.reduceLT, Int.reduceAdd, Int.reduceNeg, Int.reduceMul, Int.reduceSub, Int.reduceToNat]
      refine c_save (by omega) hHP hHC ho.2.1.1 ho.2.1.2 (by omega) hP hC ⟨by omega, by omega⟩ (fun V1 κ1 f1 hHP1 hHC1 => ?_)
      have u2 : V1 5 0 = .ref 6 := by rw [f1 5 (by omega)]; exact s2
      have hP1 := hP.frg f1 (by omega)
      have hC1 := hC.frg f1 (by omega)
      have hSA1 : zSA s V1 := (hA.cg (s' := s) (V' := V1) (n := 0) (k := 0) zExt.rf hs (fun r hr => f1 r (by omega))).2.1
      simp (disch := first | assumption | exact zk_137 | ((repeat (first | exact z1n | refine z1I ?_ | refine z1R ?_)); done) | exact rfl | omega | decide) only [r_aload_0, r_gf_576, r_iload_1, r_inv_2_0, r_inv_2_1, r_inv_2_2, r_inv_2_3, r_inv_2_4, r_K0, r_K1, r_inv_1_0, r_inv_1_1, r_inv_1_2, r_inv_1_3, r_inv_1_4, r_gf_578, r_iret, r_bret_0, r_bret_1, r_KX, u2, ↓reduceIte, not_true_eq_false, not_false_eq_true, Int.reduceEq, Int.reduceLE, Int.reduceLT, Int.reduceAdd, Int.reduceNeg, Int.reduceMul, Int.reduceSub, Int.reduceToNat]
      have hW2 : zWF (σ.r.sS 8 x (σ.r.S 3 x)) := hW.rep q1.1 q1.2
      refine c_beginRepair (by omega) hP1 hC1 (by omega) q1.1 q1.2 (fun V2 f2 hP2 hC2 => ?_)
      obtain ⟨y1, y2⟩ := hw0.mut ho hW2 f1 hHP1 hHC1 f2 hP2 hC2
      have := h0' s V2 y1 y2
      have u3 : V2 5 0 = .ref 6 := by rw [f2 5 (by omega)]; exact u2
      simp (disch := first | assumption | exact zk_137 | ((repeat (first | exact z1n | refine z1I ?_ | refine z1R ?_)); done) | exact rfl | omega | decide) only [r_aload_0, r_gf_576, r_iload_1, r_inv_2_0, r_inv_2_1, r_inv_2_2, r_inv_2_3, r_inv_2_4, r_K0, r_K1, r_inv_1_0, r_inv_1_1, r_inv_1_2, r_inv_1_3, r_inv_1_4, r_gf_578, r_iret, r_bret_0, r_bret_1, r_KX, u3, ↓reduceIte, not_true_eq_false, not_false_eq_true, Int.reduceEq, Int.reduceLE, Int.reduceLT, Int.reduceAdd, Int.reduceNeg, Int.reduceMul, Int.reduceSub, Int.reduceToNat]
      exact this
    · obtain ⟨y1, y2⟩ := hw0.thr ho (10 + (3 : Int).toNat) (fun _ => .null)
      have := e2 q1 q2 _ _ y1 y2
      simp (disch := first | assumption | exact zk_137 | ((repeat (first | exact z1n | refine z1I ?_ | refine z1R ?_)); done) | exact rfl | omega | decide) only [zb_137_0, r_aload_0, r_gf_576, r_iload_1, r_inv_2_0, r_inv_2_1, r_inv_2_2, r_inv_2_3, r_inv_2_4, r_K0, r_K1, r_inv_1_0, r_inv_1_1, r_inv_1_2, r_inv_1_3, r_inv_1_4, r_gf_578, r_iret, r_bret_0, r_bret_1, r_KX, s2, s4, c_whyNotBeginRepair (hC := hC), q1, q2, and_self, c_refX, ↓reduceIte, not_true_eq_false, not_false_eq_true, Int.reduceEq, Int.reduceLE, Int.reduceLT, Int.reduceAdd, Int.reduceNeg, Int.reduceMul, Int.reduceSub, Int.reduceToNat]
      exact this
  · obtain ⟨y1, y2⟩ := hw0.thr ho (10 + (1 : Int).toNat) (fun _ => .null)
    have := e1 q1 _ _ y1 y2
    simp (disch := first | assumption | exact zk_137 | ((repeat (first | exact z1n | refine z1I ?_ | refine z1R ?_)); done) | exact rfl | omega | decide) only [zb_137_0, r_aload_0, r_gf_576, r_iload_1, r_inv_2_0, r_inv_2_1, r_inv_2_2, r_inv_2_3, r_inv_2_4, r_K0, r_K1, r_inv_1_0, r_inv_1_1, r_inv_1_2, r_inv_1_3, r_inv_1_4, r_gf_578, r_iret, r_bret_0, r_bret_1, r_KX, s2, s4, c_whyNotBeginRepair (hC := hC), q1, and_self, c_refX, ↓reduceIte, not_true_eq_false, not_false_eq_true, Int.reduceEq, Int.reduceLE, Int.reduceLT, Int.reduceAdd, Int.reduceNeg, Int.reduceMul, Int.reduceSub, Int.reduceToNat]
    exact this
set_option maxRecDepth 20000 in
theorem w_fail (hd : 20 ≤ d) (hw : zWc σ s V) (ho : zOK σ) {x : Int} (hx : zI32 x) (e1 : ¬ (0 ≤ x ∧ x < σ.r.n) → zThr Q 1 σ s V) (e2 : (0 ≤ x ∧ x < σ.r.n) → ¬ (σ.r.S 6 x = 1) → zThr Q 3 σ s V) (h0 : (0 ≤ x ∧ x < σ.r.n) → (σ.r.S 6 x = 1) → zRet Q (σ.r.n - zpop (zDown (zGd σ.r x))) (σ.sv (zGd σ.r x)) s V) : zcall d 136 [.ref 5, zi x] (s, V) Q := by
  have hw0 := hw
  obtain ⟨hA, ⟨hP, hC⟩, hB2, ⟨κ, hHP, hHC⟩, hD, hE, hF, hG, hI, hJ, hs, t1, l1⟩ := hw
  have hW := ho.1
  obtain ⟨n0, n1, c0, c1⟩ := hW.1
  obtain ⟨⟨s1, s2, s3, s4, s5, s6, s7, s8, s9, s10⟩, hSA, hSM⟩ := id hA
  have tO := hP.1
  have tH := hHP.1
  obtain ⟨d, rfl⟩ : ∃ e, d = e + 1 := ⟨d - 1, by omega⟩
  simp (disch := first | assumption | omega) only [zc_136]
  by_cases q1 : 0 ≤ x ∧ x < σ.r.n
  · have _u := trivial
    by_cases q2 : σ.r.S 6 x = 1
    · have _u := trivial
      have h0' := h0 q1 q2
      simp (disch := first | assumption | exact zk_136 | ((repeat (first | exact z1n | refine z1I ?_ | refine z1R ?_)); done) | exact rfl | omega | decide) only [zb_136_0, r_aload_0, r_gf_576, r_iload_1, r_inv_2_0, r_inv_2_1, r_inv_2_2, r_inv_2_3, r_inv_2_4, r_K0, r_K1, r_inv_1_0, r_inv_1_1, r_inv_1_2, r_inv_1_3, r_inv_1_4, r_gf_578, r_iret, r_bret_0, r_bret_1, r_KX, s2, s4, c_whyNotGoDown (hC := hC), q1, q2, and_self, c_ref0, ↓reduceIte, not_true_eq_false, not_false_eq_true, Int.reduceEq, Int.reduceLE, Int.reduceLT, Int.reduceAdd, Int.reduceNeg, Int.reduceMul, Int.reduceSub, Int.reduceToNat]
      refine c_save (by omega) hHP hHC ho.2.1.1 ho.2.1.2 (by omega) hP hC ⟨by omega, by omega⟩ (fun V1 κ1 f1 hHP1 hHC1 => ?_)
      have u2 : V1 5 0 = .ref 6 := by rw [f1 5 (by omega)]; exact s2
      have hP1 := hP.frg f1 (by omega)
      have hC1 := hC.frg f1 (by omega)
      have hSA1 : zSA s V1 := (hA.cg (s' := s) (V' := V1) (n := 0) (k := 0) zExt.rf hs (fun r hr => f1 r (by omega))).2.1
      simp (disch := first | assumption | exact zk_136 | ((repeat (first | exact z1n | refine z1I ?_ | refine z1R ?_)); done) | exact rfl | omega | decide) only [r_aload_0, r_gf_576, r_iload_1, r_inv_2_0, r_inv_2_1, r_inv_2_2, r_inv_2_3, r_inv_2_4, r_K0, r_K1, r_inv_1_0, r_inv_1_1, r_inv_1_2, r_inv_1_3, r_inv_1_4, r_gf_578, r_iret, r_bret_0, r_bret_1, r_KX, u2, ↓reduceIte, not_true_eq_false, not_false_eq_true, Int.reduceEq, Int.reduceLE, Int.reduceLT, Int.reduceAdd, Int.reduceNeg, Int.reduceMul, Int.reduceSub, Int.reduceToNat]
      have hW2 : zWF (zGd σ.r x) := hW.gd
      refine c_goDown (by omega) hP1 hC1 (by omega) q1.1 q1.2 (fun V2 f2 hP2 hC2 => ?_)
      obtain ⟨y1, y2⟩ := hw0.mut ho hW2 f1 hHP1 hHC1 f2 hP2 hC2
      have := h0' s V2 y1 y2
      have u3 : V2 5 0 = .ref 6 := by rw [f2 5 (by omega)]; exact u2
      have tO2 := hP2.1
      have hcu := fun K => c_countUp (Q := K) (d := d) (by omega) hP2 hC2 hW2
      rw [show (zGd σ.r x).n = σ.r.n from rfl] at hcu
      simp (disch := first | assumption | exact zk_136 | ((repeat (first | exact z1n | refine z1I ?_ | refine z1R ?_)); done) | exact rfl | omega | decide) only [r_aload_0, r_gf_576, r_iload_1, r_inv_2_0, r_inv_2_1, r_inv_2_2, r_inv_2_3, r_inv_2_4, r_K0, r_K1, r_inv_1_0, r_inv_1_1, r_inv_1_2, r_inv_1_3, r_inv_1_4, r_gf_578, r_iret, r_bret_0, r_bret_1, r_KX, u3, hcu, ↓reduceIte, not_true_eq_false, not_false_eq_true, Int.reduceEq, Int.reduceLE, Int.reduceLT, Int.reduceAdd, Int.reduceNeg, Int.reduceMul, Int.reduceSub, Int.reduceToNat]
      exact this
    · obtain ⟨y1, y2⟩ := hw0.thr ho (10 + (3 : Int).toNat) (fun _ => .null)
      have := e2 q1 q2 _ _ y1 y2
      simp (disch := first | assumption | exact zk_136 | ((repeat (first | exact z1n | refine z1I ?_ | refine z1R ?_)); done) | exact rfl | omega | decide) only [zb_136_0, r_aload_0, r_gf_576, r_iload_1, r_inv_2_0, r_inv_2_1, r_inv_2_2, r_inv_2_3, r_inv_2_4, r_K0, r_K1, r_inv_1_0, r_inv_1_1, r_inv_1_2, r_inv_1_3, r_inv_1_4, r_gf_578, r_iret, r_bret_0, r_bret_1, r_KX, s2, s4, c_whyNotGoDown (hC := hC), q1, q2, and_self, c_refX, ↓reduceIte, not_true_eq_false, not_false_eq_true, Int.reduceEq, Int.reduceLE, Int.reduceLT, Int.reduceAdd, Int.reduceNeg, Int.reduceMul, Int.reduceSub, Int.reduceToNat]
      exact this
  · obtain ⟨y1, y2⟩ := hw0.thr ho (10 + (1 : Int).toNat) (fun _ => .null)
    have := e1 q1 _ _ y1 y2
    simp (disch := first | assumption | exact zk_136 | ((repeat (first | exact z1n | refine z1I ?_ | refine z1R ?_)); done) | exact rfl | omega | decide) only [zb_136_0, r_aload_0, r_gf_576, r_iload_1, r_inv_2_0, r_inv_2_1, r_inv_2_2, r_inv_2_3, r_inv_2_4, r_K0, r_K1, r_inv_1_0, r_inv_1_1, r_inv_1_2, r_inv_1_3, r_inv_1_4, r_gf_578, r_iret, r_bret_0, r_bret_1, r_KX, s2, s4, c_whyNotGoDown (hC := hC), q1, and_self, c_refX, ↓reduceIte, not_true_eq_false, not_false_eq_true, Int.reduceEq, Int.reduceLE, Int.reduceLT, Int.reduceAdd, Int.reduceNeg, Int.reduceMul, Int.reduceSub, Int.reduceToNat]
    exact this
end
