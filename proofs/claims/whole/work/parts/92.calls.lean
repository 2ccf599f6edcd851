/-! CALLS OF THE CLASS, 4: budgets, recovery, sets, text -/
section
variable {s s' : zS} {V V' : zV} {n k : Nat}
theorem zGP.cgx (h : zGP s V) (hx : zExt s s' n k) (hs : 192 ≤ s.sz) (hV : V' 116 = V 116) : zGP s' V' := h.cg hx hs hV
/-- rows of the graph, and from 132 on, are written -/
theorem zWc.q2 {σ : zσ} (h : zWc σ s V) (ho : zOK σ) (hx : zExt s s' 1 6012) (hV : ∀ r, r < 116 ∨ 121 ≤ r → r < 132 ∨ 155 ≤ r → r < 192 → V' r = V r) (hD : zGP s' V') (hF : zcF s' V') (hG : zcG s' V') (hI : zcI s' V') : zSte s V s' V' ∧ zWc σ s' V' := by
  have hw := h
  obtain ⟨hA, hB, hB2, hC, -, hE, -, -, -, hJ, hs, t1, l1⟩ := h
  exact hw.qr (t := σ.2.2.1) (rq := σ.2.2.2) ho hx (fun r r1 r2 r3 => hV r (by omega) (by omega) r3) (hB2.ext hx (by omega) (fun r r0 r1 => hV r (by omega) (by omega) (by omega))) hD (hE.cg rfl hx hs (fun r r0 r1 => hV r (by omega) (by omega) (by omega))) hF hG hI (hJ.cg hx hs (fun r r0 r1 => hV r (by omega) (by omega) (by omega)))
end
section
variable {d : Nat} {s : zS} {V : zV} {Q : zO → zH → Prop} {σ : zσ} {h : zH}
set_option maxRecDepth 20000 in
theorem w_leastBudget (hd : 30 ≤ d) (hw : zWc σ s V) (ho : zOK σ) {x : Int} (hx : zI32 x) (e1 : ¬ (0 ≤ x ∧ x < σ.r.n) → zThr Q 1 σ s V) (h0 : 0 ≤ x ∧ x < σ.r.n → zRet Q (zLb σ.r x) σ s V) : zcall d 132 [.ref 5, zi x] (s, V) Q := by
  have hw0 := hw
  obtain ⟨hA, ⟨hP, hC⟩, hB2, hHH, hD, hE, hF, hG, hI, hJ, hs, t1, l1⟩ := hw
  obtain ⟨κ, hHP, hHC⟩ := id hHH
  have hW := ho.1
  obtain ⟨n0, n1, c0, c1⟩ := hW.1
  obtain ⟨⟨s1, s2, s3, s4, s5, s6, s7, s8, s9, s10⟩, hSA, hSM⟩ := id hA
  have tO := hP.1
  have tH := hHP.1
  have tG := hD.1
  have z := zExt.rf (s := s) (n := 1) (k := 6012)
  obtain ⟨tF, lF⟩ := hF
  obtain ⟨d, rfl⟩ : ∃ e, d = e + 1 := ⟨d - 1, by omega⟩
  simp (disch := first | assumption | omega) only [zc_132]
  by_cases q1 : 0 ≤ x ∧ x < σ.r.n
  · have h0' := h0 q1
    simp (disch := first | assumption | exact zk_132 | ((repeat (first | exact z1n | refine z1I ?_ | refine z1R ?_)); done) | exact rfl | omega | decide) only [zb_132_0, r_aload_0, r_gf_576, r_iload_1, r_inv_2_0, r_inv_2_1, r_inv_2_2, r_inv_2_3, r_inv_2_4, r_K0, r_K1, r_inv_1_0, r_inv_1_1, r_inv_1_2, r_inv_1_3, r_inv_1_4, r_gf_581, r_inv_3_0, r_inv_3_1, r_inv_3_2, r_inv_3_3, r_inv_3_4, r_iret, r_bret_0, r_bret_1, r_KX, s2, s7, c_whyNoService (hC := hC), q1, and_self, c_ref0, ↓reduceIte, not_true_eq_false, not_false_eq_true, Int.reduceEq, Int.reduceLE, Int.reduceLT, Int.reduceAdd, Int.reduceNeg, Int.reduceMul, Int.reduceSub, Int.reduceToNat]
    refine c_leastFor (by omega) hW hP hC (by omega) hs tF lF q1.1 q1.2 (fun s1 V1 hx1 f1 hL1 => ?_)
    obtain ⟨y1, y2⟩ := hw0.q2 ho (V' := V1) hx1 (fun r r1 r2 r3 => f1 r r3 (by omega) (by omega)) (hD.cg hx1 hs (f1 _ (by omega) (by omega) (by omega))) ⟨(hx1.t hs (by omega)).trans tF, hL1⟩ (hG.cg hx1 hs (f1 _ (by omega) (by omega) (by omega))) (hI.cg hx1 hs (f1 _ (by omega) (by omega) (by omega)) (f1 _ (by omega) (by omega) (by omega)))
    have := h0' s1 V1 y1 y2
    generalize zLb σ.r x = A at this
    simp (disch := first | assumption | exact zk_132 | ((repeat (first | exact z1n | refine z1I ?_ | refine z1R ?_)); done) | exact rfl | omega | decide) only [r_aload_0, r_gf_576, r_iload_1, r_inv_2_0, r_inv_2_1, r_inv_2_2, r_inv_2_3, r_inv_2_4, r_K0, r_K1, r_inv_1_0, r_inv_1_1, r_inv_1_2, r_inv_1_3, r_inv_1_4, r_gf_581, r_inv_3_0, r_inv_3_1, r_inv_3_2, r_inv_3_3, r_inv_3_4, r_iret, r_bret_0, r_bret_1, r_KX, ↓reduceIte, not_true_eq_false, not_false_eq_true, Int.reduceEq, Int.reduceLE, Int.reduceLT, Int.reduceAdd, Int.reduceNeg, Int.reduceMul, Int.reduceSub, Int.reduceToNat]
    exact this
  · obtain ⟨y1, y2⟩ := hw0.thr ho (10 + (1 : Int).toNat) (fun _ => .null)
    have := e1 q1 _ _ y1 y2
    simp (disch := first | assumption | exact zk_132 | ((repeat (first | exact z1n | refine z1I ?_ | refine z1R ?_)); done) | exact rfl | omega | decide) only [zb_132_0, r_aload_0, r_gf_576, r_iload_1, r_inv_2_0, r_inv_2_1, r_inv_2_2, r_inv_2_3, r_inv_2_4, r_K0, r_K1, r_inv_1_0, r_inv_1_1, r_inv_1_2, r_inv_1_3, r_inv_1_4, r_gf_581, r_inv_3_0, r_inv_3_1, r_inv_3_2, r_inv_3_3, r_inv_3_4, r_iret, r_bret_0, r_bret_1, r_KX, s2, c_whyNoService (hC := hC), q1, c_refX, ↓reduceIte, not_true_eq_false, not_false_eq_true, Int.reduceEq, Int.reduceLE, Int.reduceLT, Int.reduceAdd, Int.reduceNeg, Int.reduceMul, Int.reduceSub, Int.reduceToNat]
    exact this
set_option maxRecDepth 20000 in
theorem w_recoveryTime (hd : 20 ≤ d) (hw : zWc σ s V) (ho : zOK σ) {x : Int} (hx : zI32 x) (e1 : ¬ (1 ≤ x ∧ x ≤ 4) → zThr Q 2 σ s V) (h0 : 1 ≤ x ∧ x ≤ 4 → zRet Q (zQR σ.r x).1 σ s V) : zcall d 142 [.ref 5, zi x] (s, V) Q := by
  have hw0 := hw
  obtain ⟨hA, ⟨hP, hC⟩, hB2, hHH, hD, hE, hF, hG, hI, hJ, hs, t1, l1⟩ := hw
  obtain ⟨κ, hHP, hHC⟩ := id hHH
  have hW := ho.1
  obtain ⟨n0, n1, c0, c1⟩ := hW.1
  obtain ⟨⟨s1, s2, s3, s4, s5, s6, s7, s8, s9, s10⟩, hSA, hSM⟩ := id hA
  have tO := hP.1
  have tH := hHP.1
  have tG := hD.1
  have z := zExt.rf (s := s) (n := 1) (k := 6012)
  have i1 : zI32 1 := ⟨by omega, by omega⟩
  have i2 : zI32 4 := ⟨by omega, by omega⟩
  have tR := hG.1.1
  obtain ⟨d, rfl⟩ : ∃ e, d = e + 1 := ⟨d - 1, by omega⟩
  simp (disch := first | assumption | omega) only [zc_142]
  by_cases q1 : 1 ≤ x ∧ x ≤ 4
  · have h0' := h0 q1
    simp (disch := first | assumption | exact zk_142 | ((repeat (first | exact z1n | refine z1I ?_ | refine z1R ?_)); done) | exact rfl | omega | decide) only [zb_142_0, r_iload_1, r_iconst, r_inv_3_0, r_inv_3_1, r_inv_3_2, r_inv_3_3, r_inv_3_4, r_K0, r_K1, r_inv_1_0, r_inv_1_1, r_inv_1_2, r_inv_1_3, r_inv_1_4, r_aload_0, r_gf_582, r_gf_576, r_iret, r_bret_0, r_bret_1, r_KX, s2, s8, c_within, q1, and_self, c_ref0, ↓reduceIte, not_true_eq_false, not_false_eq_true, Int.reduceEq, Int.reduceLE, Int.reduceLT, Int.reduceAdd, Int.reduceNeg, Int.reduceMul, Int.reduceSub, Int.reduceToNat]
    refine c_byCrews (by omega) hG.1 hP hC hW (by omega) q1.1 q1.2 (fun V1 f1 hb => ?_)
    obtain ⟨y1, y2⟩ := hw0.q2 ho (V' := V1) z (fun r r1 r2 r3 => f1 r (by omega) (by omega) (by omega)) (hD.cg z hs (f1 _ (by omega) (by omega) (by omega))) (hF.cg z hs (f1 _ (by omega) (by omega) (by omega))) (hG.cg z hs (f1 _ (by omega) (by omega) (by omega))) (hI.cg z hs (f1 _ (by omega) (by omega) (by omega)) (f1 _ (by omega) (by omega) (by omega)))
    have := h0' s V1 y1 y2
    generalize (zQR σ.r x).1 = A at this
    simp (disch := first | assumption | exact zk_142 | ((repeat (first | exact z1n | refine z1I ?_ | refine z1R ?_)); done) | exact rfl | omega | decide) only [r_iload_1, r_iconst, r_inv_3_0, r_inv_3_1, r_inv_3_2, r_inv_3_3, r_inv_3_4, r_K0, r_K1, r_inv_1_0, r_inv_1_1, r_inv_1_2, r_inv_1_3, r_inv_1_4, r_aload_0, r_gf_582, r_gf_576, r_iret, r_bret_0, r_bret_1, r_KX, ↓reduceIte, not_true_eq_false, not_false_eq_true, Int.reduceEq, Int.reduceLE, Int.reduceLT, Int.reduceAdd, Int.reduceNeg, Int.reduceMul, Int.reduceSub, Int.reduceToNat]
    exact this
  · obtain ⟨y1, y2⟩ := hw0.thr ho (10 + (2 : Int).toNat) (fun _ => .null)
    have := e1 q1 _ _ y1 y2
    simp (disch := first | assumption | exact zk_142 | ((repeat (first | exact z1n | refine z1I ?_ | refine z1R ?_)); done) | exact rfl | omega | decide) only [zb_142_0, r_iload_1, r_iconst, r_inv_3_0, r_inv_3_1, r_inv_3_2, r_inv_3_3, r_inv_3_4, r_K0, r_K1, r_inv_1_0, r_inv_1_1, r_inv_1_2, r_inv_1_3, r_inv_1_4, r_aload_0, r_gf_582, r_gf_576, r_iret, r_bret_0, r_bret_1, r_KX, c_within, q1, c_refX, ↓reduceIte, not_true_eq_false, not_false_eq_true, Int.reduceEq, Int.reduceLE, Int.reduceLT, Int.reduceAdd, Int.reduceNeg, Int.reduceMul, Int.reduceSub, Int.reduceToNat]
    exact this
set_option maxRecDepth 20000 in
theorem w_bestCost (hd : 20 ≤ d) (hw : zWc σ s V) (ho : zOK σ) (h0 : zRet Q (zYr σ.r 0) σ s V) : zcall d 144 [.ref 5] (s, V) Q := by
  have hw0 := hw
  obtain ⟨hA, ⟨hP, hC⟩, hB2, hHH, hD, hE, hF, hG, hI, hJ, hs, t1, l1⟩ := hw
  obtain ⟨κ, hHP, hHC⟩ := id hHH
  have hW := ho.1
  obtain ⟨n0, n1, c0, c1⟩ := hW.1
  obtain ⟨⟨s1, s2, s3, s4, s5, s6, s7, s8, s9, s10⟩, hSA, hSM⟩ := id hA
  have tO := hP.1
  have tH := hHP.1
  have tG := hD.1
  have z := zExt.rf (s := s) (n := 1) (k := 6012)
  have tR := hG.1.1
  obtain ⟨d, rfl⟩ : ∃ e, d = e + 1 := ⟨d - 1, by omega⟩
  simp (disch := first | assumption | omega) only [zc_144]
  simp (disch := first | assumption | exact zk_144 | ((repeat (first | exact z1n | refine z1I ?_ | refine z1R ?_)); done) | exact rfl | omega | decide) only [zb_144_0, r_aload_0, r_gf_582, r_gf_576, r_inv_2_0, r_inv_2_1, r_inv_2_2, r_inv_2_3, r_inv_2_4, r_K0, r_K1, r_iret, r_bret_0, r_bret_1, r_KX, s2, s8, ↓reduceIte, not_true_eq_false, not_false_eq_true, Int.reduceEq, Int.reduceLE, Int.reduceLT, Int.reduceAdd, Int.reduceNeg, Int.reduceMul, Int.reduceSub, Int.reduceToNat]
  refine c_leastCost (by omega) hG.1 hP hC hW (by omega) hs hG.2 (fun s1 V1 r hx1 f1 hR1 _ hcs _ => ?_)
  have hx2 : zExt s s1 1 6012 := ⟨hx1.1, ⟨hx1.2.1.1, by have := hx1.2.1.2; omega⟩, hx1.2.2⟩
  obtain ⟨y1, y2⟩ := hw0.q2 ho (V' := V1) hx2 (fun r r1 r2 r3 => f1 r r3 (by omega) (by omega) (by omega)) (hD.cg hx1 hs (f1 _ (by omega) (by omega) (by omega) (by omega))) (hF.cg hx1 hs (f1 _ (by omega) (by omega) (by omega) (by omega))) ⟨hR1, ⟨r, hcs.1, hcs.2.1, hcs.2.2.1, hcs.2.2.2.1, Or.inr hcs.2.2.2.2⟩⟩ (hI.cg hx1 hs (f1 _ (by omega) (by omega) (by omega) (by omega)) (f1 _ (by omega) (by omega) (by omega) (by omega)))
  have := h0 s1 V1 y1 y2
  generalize zYr σ.r 0 = A at this
  simp (disch := first | assumption | exact zk_144 | ((repeat (first | exact z1n | refine z1I ?_ | refine z1R ?_)); done) | exact rfl | omega | decide) only [r_aload_0, r_gf_582, r_gf_576, r_inv_2_0, r_inv_2_1, r_inv_2_2, r_inv_2_3, r_inv_2_4, r_K0, r_K1, r_iret, r_bret_0, r_bret_1, r_KX, ↓reduceIte, not_true_eq_false, not_false_eq_true, Int.reduceEq, Int.reduceLE, Int.reduceLT, Int.reduceAdd, Int.reduceNeg, Int.reduceMul, Int.reduceSub, Int.reduceToNat]
  exact this
set_option maxRecDepth 20000 in
theorem w_bestOrder (hd : 20 ≤ d) (hw : zWc σ s V) (ho : zOK σ) {x : Int} (hx : zI32 x) (h0 : zRet Q (zYz σ.r x) σ s V) : zcall d 145 [.ref 5, zi x] (s, V) Q := by
  have hw0 := hw
  obtain ⟨hA, ⟨hP, hC⟩, hB2, hHH, hD, hE, hF, hG, hI, hJ, hs, t1, l1⟩ := hw
  obtain ⟨κ, hHP, hHC⟩ := id hHH
  have hW := ho.1
  obtain ⟨n0, n1, c0, c1⟩ := hW.1
  obtain ⟨⟨s1, s2, s3, s4, s5, s6, s7, s8, s9, s10⟩, hSA, hSM⟩ := id hA
  have tO := hP.1
  have tH := hHP.1
  have tG := hD.1
  have z := zExt.rf (s := s) (n := 1) (k := 6012)
  have tR := hG.1.1
  obtain ⟨d, rfl⟩ : ∃ e, d = e + 1 := ⟨d - 1, by omega⟩
  simp (disch := first | assumption | omega) only [zc_145]
  simp (disch := first | assumption | exact zk_145 | ((repeat (first | exact z1n | refine z1I ?_ | refine z1R ?_)); done) | exact rfl | omega | decide) only [zb_145_0, r_aload_0, r_gf_582, r_gf_576, r_iload_1, r_inv_3_0, r_inv_3_1, r_inv_3_2, r_inv_3_3, r_inv_3_4, r_K0, r_K1, r_iret, r_bret_0, r_bret_1, r_KX, s2, s8, ↓reduceIte, not_true_eq_false, not_false_eq_true, Int.reduceEq, Int.reduceLE, Int.reduceLT, Int.reduceAdd, Int.reduceNeg, Int.reduceMul, Int.reduceSub, Int.reduceToNat]
  refine c_inBestOrder (by omega) hG.1 hP hC hW (by omega) hs hG.2 hx (fun s1 V1 hx1 f1 hR1 hL1 => ?_)
  have hx2 : zExt s s1 1 6012 := ⟨hx1.1, ⟨hx1.2.1.1, by have := hx1.2.1.2; omega⟩, hx1.2.2⟩
  obtain ⟨y1, y2⟩ := hw0.q2 ho (V' := V1) hx2 (fun r r1 r2 r3 => f1 r r3 (by omega) (by omega) (by omega)) (hD.cg hx1 hs (f1 _ (by omega) (by omega) (by omega) (by omega))) (hF.cg hx1 hs (f1 _ (by omega) (by omega) (by omega) (by omega))) ⟨hR1, hL1⟩ (hI.cg hx1 hs (f1 _ (by omega) (by omega) (by omega) (by omega)) (f1 _ (by omega) (by omega) (by omega) (by omega)))
  have := h0 s1 V1 y1 y2
  generalize zYz σ.r x = A at this
  simp (disch := first | assumption | exact zk_145 | ((repeat (first | exact z1n | refine z1I ?_ | refine z1R ?_)); done) | exact rfl | omega | decide) only [r_aload_0, r_gf_582, r_gf_576, r_iload_1, r_inv_3_0, r_inv_3_1, r_inv_3_2, r_inv_3_3, r_inv_3_4, r_K0, r_K1, r_iret, r_bret_0, r_bret_1, r_KX, ↓reduceIte, not_true_eq_false, not_false_eq_true, Int.reduceEq, Int.reduceLE, Int.reduceLT, Int.reduceAdd, Int.reduceNeg, Int.reduceMul, Int.reduceSub, Int.reduceToNat]
  exact this
set_option maxRecDepth 20000 in
theorem w_failsBy (hd : 20 ≤ d) (hw : zWc σ s V) (ho : zOK σ) {x v : Int} (hx : zI32 x) (hv : zI32 v) (e1 : ¬ (0 ≤ x ∧ x < σ.r.n) → zThr Q 1 σ s V) (e2 : 0 ≤ x ∧ x < σ.r.n → ¬ (0 ≤ v ∧ v < zTwo σ.r.n) → zThr Q 2 σ s V) (h0 : 0 ≤ x ∧ x < σ.r.n → 0 ≤ v ∧ v < zTwo σ.r.n → zRet Q (zb1 (zin (zFail σ.r v.toNat) x)) σ s V) : zcall d 146 [.ref 5, zi x, zi v] (s, V) Q := by
  have hw0 := hw
  obtain ⟨hA, ⟨hP, hC⟩, hB2, hHH, hD, hE, hF, hG, hI, hJ, hs, t1, l1⟩ := hw
  obtain ⟨κ, hHP, hHC⟩ := id hHH
  have hW := ho.1
  obtain ⟨n0, n1, c0, c1⟩ := hW.1
  obtain ⟨⟨s1, s2, s3, s4, s5, s6, s7, s8, s9, s10⟩, hSA, hSM⟩ := id hA
  have tO := hP.1
  have tH := hHP.1
  have tG := hD.1
  have z := zExt.rf (s := s) (n := 1) (k := 6012)
  have hw2 := zTwo_rng n1
  obtain ⟨d, rfl⟩ : ∃ e, d = e + 1 := ⟨d - 1, by omega⟩
  simp (disch := first | assumption | omega) only [zc_146]
  by_cases q1 : 0 ≤ x ∧ x < σ.r.n
  · by_cases q2 : 0 ≤ v ∧ v < zTwo σ.r.n
    · have h0' := h0 q1 q2
      obtain ⟨u, rfl⟩ : ∃ u : Nat, v = u := ⟨v.toNat, by omega⟩
      rw [Int.toNat_natCast] at h0'
      simp (disch := first | assumption | exact zk_146 | ((repeat (first | exact z1n | refine z1I ?_ | refine z1R ?_)); done) | exact rfl | omega | decide) only [zb_146_0, r_aload_0, r_gf_576, r_iload_1, r_inv_2_0, r_inv_2_1, r_inv_2_2, r_inv_2_3, r_inv_2_4, r_K0, r_K1, r_inv_1_0, r_inv_1_1, r_inv_1_2, r_inv_1_3, r_inv_1_4, r_iload_2, r_gf_579, r_inv_3_0, r_inv_3_1, r_inv_3_2, r_inv_3_3, r_inv_3_4, r_iret, r_bret_0, r_bret_1, r_KX, s2, s5, c_whyNoService (hC := hC), q1, q2, and_self, c_ref0, c_whyNoSet (hC := hC), ↓reduceIte, not_true_eq_false, not_false_eq_true, Int.reduceEq, Int.reduceLE, Int.reduceLT, Int.reduceAdd, Int.reduceNeg, Int.reduceMul, Int.reduceSub, Int.reduceToNat]
      refine c_sort (by omega) (by omega) hD hP hC hW (fun V1 f1 hD1 hS1 => ?_)
      obtain ⟨y1, y2⟩ := hw0.q1 ho (V' := V1) (fun r r1 r2 r3 => f1 r (by omega)) (hB2.ext z (by omega) (fun r r0 r1 => f1 r (by omega))) hD1
      have := h0' s V1 y1 y2
      have u5 : V1 5 3 = .ref 116 := by rw [f1 5 (by omega)]; exact s5
      have u2 : V1 5 0 = .ref 6 := by rw [f1 5 (by omega)]; exact s2
      have hfb := fun K => c_failingBy (Q := K) (d := d) (by omega) hD1 hS1 (hP.frg f1 (by omega)) (hC.frg f1 (by omega)) hW (v := u) (by omega)
      have hl := zFail_lt hW (v := u) (by omega)
      obtain ⟨q3, q4⟩ := q1
      simp (disch := first | assumption | exact zk_146 | ((repeat (first | exact z1n | refine z1I ?_ | refine z1R ?_)); done) | exact rfl | omega | decide) only [r_aload_0, r_gf_576, r_iload_1, r_inv_2_0, r_inv_2_1, r_inv_2_2, r_inv_2_3, r_inv_2_4, r_K0, r_K1, r_inv_1_0, r_inv_1_1, r_inv_1_2, r_inv_1_3, r_inv_1_4, r_iload_2, r_gf_579, r_inv_3_0, r_inv_3_1, r_inv_3_2, r_inv_3_3, r_inv_3_4, r_iret, r_bret_0, r_bret_1, r_KX, u5, u2, hfb, c_contains, ↓reduceIte, not_true_eq_false, not_false_eq_true, Int.reduceEq, Int.reduceLE, Int.reduceLT, Int.reduceAdd, Int.reduceNeg, Int.reduceMul, Int.reduceSub, Int.reduceToNat]
      cases c : zin (zFail σ.r u) x
      · rw [c] at this
        rw [if_neg (by decide)]
        exact this
      · rw [c] at this
        rw [if_pos rfl]
        exact this
    · obtain ⟨y1, y2⟩ := hw0.thr ho (10 + (2 : Int).toNat) (fun _ => .null)
      have := e2 q1 q2 _ _ y1 y2
      simp (disch := first | assumption | exact zk_146 | ((repeat (first | exact z1n | refine z1I ?_ | refine z1R ?_)); done) | exact rfl | omega | decide) only [zb_146_0, r_aload_0, r_gf_576, r_iload_1, r_inv_2_0, r_inv_2_1, r_inv_2_2, r_inv_2_3, r_inv_2_4, r_K0, r_K1, r_inv_1_0, r_inv_1_1, r_inv_1_2, r_inv_1_3, r_inv_1_4, r_iload_2, r_gf_579, r_inv_3_0, r_inv_3_1, r_inv_3_2, r_inv_3_3, r_inv_3_4, r_iret, r_bret_0, r_bret_1, r_KX, s2, s5, c_whyNoService (hC := hC), q1, q2, and_self, c_ref0, c_whyNoSet (hC := hC), c_refX, ↓reduceIte, not_true_eq_false, not_false_eq_true, Int.reduceEq, Int.reduceLE, Int.reduceLT, Int.reduceAdd, Int.reduceNeg, Int.reduceMul, Int.reduceSub, Int.reduceToNat]
      exact this
  · obtain ⟨y1, y2⟩ := hw0.thr ho (10 + (1 : Int).toNat) (fun _ => .null)
    have := e1 q1 _ _ y1 y2
    simp (disch := first | assumption | exact zk_146 | ((repeat (first | exact z1n | refine z1I ?_ | refine z1R ?_)); done) | exact rfl | omega | decide) only [zb_146_0, r_aload_0, r_gf_576, r_iload_1, r_inv_2_0, r_inv_2_1, r_inv_2_2, r_inv_2_3, r_inv_2_4, r_K0, r_K1, r_inv_1_0, r_inv_1_1, r_inv_1_2, r_inv_1_3, r_inv_1_4, r_iload_2, r_gf_579, r_inv_3_0, r_inv_3_1, r_inv_3_2, r_inv_3_3, r_inv_3_4, r_iret, r_bret_0, r_bret_1, r_KX, s2, s5, c_whyNoService (hC := hC), q1, c_refX, ↓reduceIte, not_true_eq_false, not_false_eq_true, Int.reduceEq, Int.reduceLE, Int.reduceLT, Int.reduceAdd, Int.reduceNeg, Int.reduceMul, Int.reduceSub, Int.reduceToNat]
    exact this
/-- sorted; filled -/
theorem zSte.tr {s' : zS} {V1 V2 : zV} (h1 : zSte s V s V1) (h2 : zSte s V1 s' V2) : zSte s V s' V2 := ⟨h2.1, fun r a b => (h2.2 r a b).trans (h1.2 r a b)⟩
theorem zWc.so {V1 : zV} (h : zWc σ s V) (f1 : zFrg 116 119 V V1) : zFP s V1 ∧ zSM s V1 ∧ zStP s V1 6 ∧ zStC σ.r V1 6 ∧ V1 5 = V 5 := by
  obtain ⟨hA, ⟨hP, hC⟩, hB2, hHH, hD, hE, hF, hG, hI, hJ, hs, t1, l1⟩ := h
  exact ⟨(hI.cg (s' := s) (V' := V1) (n := 0) (k := 0) zExt.rf hs (f1 _ (by omega)) (f1 _ (by omega))).1, (hA.cg (s' := s) (V' := V1) (n := 0) (k := 0) zExt.rf hs (fun r hr => f1 r (by omega))).2.2, hP.frg f1 (by omega), hC.frg f1 (by omega), f1 5 (by omega)⟩
theorem zWc.fi {V1 V2 : zV} (h : zWc σ s V) (ho : zOK σ) (f1 : zFrg 116 119 V V1) (hD1 : zGP s V1) (f2 : zFrg 141 154 V1 V2) : zFP s V2 ∧ zStP s V2 6 ∧ zStC σ.r V2 6 ∧ V2 5 = V 5 ∧ zLz s V2 139 2 22 154 4096 ∧ zSte s V s V2 ∧ zWc σ s V2 := by
  have hw0 := h
  obtain ⟨hA, ⟨hP, hC⟩, hB2, hHH, hD, hE, hF, hG, hI, hJ, hs, t1, l1⟩ := h
  have z := zExt.rf (s := s) (n := 1) (k := 6012)
  have e1 : ∀ r, r < 116 ∨ 119 ≤ r → r < 141 ∨ 154 ≤ r → V2 r = V r := fun r r1 r2 => (f2 r r2).trans (f1 r r1)
  have hI2 := hI.cg (s' := s) (V' := V2) (n := 0) (k := 0) zExt.rf hs (e1 _ (by omega) (by omega)) (e1 _ (by omega) (by omega))
  obtain ⟨y1, y2⟩ := hw0.q2 ho (V' := V2) z (fun r r1 r2 r3 => e1 r (by omega) (by omega)) (hD1.cg (n := 0) (k := 0) zExt.rf hs (f2 _ (by omega))) (hF.cg (n := 0) (k := 0) zExt.rf hs (e1 _ (by omega) (by omega))) (hG.cg (n := 0) (k := 0) zExt.rf hs (e1 _ (by omega) (by omega))) hI2
  exact ⟨hI2.1, (hP.frg f1 (by omega)).frg f2 (by omega), (hC.frg f1 (by omega)).frg f2 (by omega), e1 5 (by omega) (by omega), hI2.2, y1, y2⟩
set_option maxRecDepth 20000 in
theorem w_cuts (hd : 20 ≤ d) (hw : zWc σ s V) (ho : zOK σ) {x b : Int} (hx : zI32 x) (hb : zI32 b) (e1 : ¬ (0 ≤ x ∧ x < σ.r.n) → zThr Q 1 σ s V) (e2 : 0 ≤ x ∧ x < σ.r.n → ¬ (1 ≤ b ∧ b ≤ 12) → zThr Q 2 σ s V) (h0 : 0 ≤ x ∧ x < σ.r.n → (1 ≤ b ∧ b ≤ 12) → zRet Q (zCuts σ.r x b) σ s V) : zcall d 147 [.ref 5, zi x, zi b] (s, V) Q := by
  have hw0 := hw
  obtain ⟨hA, ⟨hP, hC⟩, hB2, hHH, hD, hE, hF, hG, hI, hJ, hs, t1, l1⟩ := hw
  obtain ⟨κ, hHP, hHC⟩ := id hHH
  have hW := ho.1
  obtain ⟨n0, n1, c0, c1⟩ := hW.1
  obtain ⟨⟨s1, s2, s3, s4, s5, s6, s7, s8, s9, s10⟩, hSA, hSM⟩ := id hA
  have tO := hP.1
  have tH := hHP.1
  have tG := hD.1
  have z := zExt.rf (s := s) (n := 1) (k := 6012)
  have i1 : zI32 1 := ⟨by omega, by omega⟩
  have i2 : zI32 12 := ⟨by omega, by omega⟩
  have tI := hI.1.1
  obtain ⟨d, rfl⟩ : ∃ e, d = e + 1 := ⟨d - 1, by omega⟩
  simp (disch := first | assumption | omega) only [zc_147]
  by_cases q1 : 0 ≤ x ∧ x < σ.r.n
  · by_cases q2 : 1 ≤ b ∧ b ≤ 12
    · have h0' := h0 q1 q2
      simp (disch := first | assumption | exact zk_147 | ((repeat (first | exact z1n | refine z1I ?_ | refine z1R ?_)); done) | exact rfl | omega | decide) only [zb_147_0, r_aload_0, r_gf_576, r_iload_1, r_inv_2_0, r_inv_2_1, r_inv_2_2, r_inv_2_3, r_inv_2_4, r_K0, r_K1, r_inv_1_0, r_inv_1_1, r_inv_1_2, r_inv_1_3, r_inv_1_4, r_iload_2, r_iconst, r_inv_3_0, r_inv_3_1, r_inv_3_2, r_inv_3_3, r_inv_3_4, r_gf_579, r_gf_583, r_inv_4_0, r_inv_4_1, r_inv_4_2, r_inv_4_3, r_inv_4_4, r_iret, r_bret_0, r_bret_1, r_KX, s2, s5, s9, c_whyNoService (hC := hC), q1, and_self, c_ref0, c_within, q2, ↓reduceIte, not_true_eq_false, not_false_eq_true, Int.reduceEq, Int.reduceLE, Int.reduceLT, Int.reduceAdd, Int.reduceNeg, Int.reduceMul, Int.reduceSub, Int.reduceToNat]
      refine c_sort (by omega) (by omega) hD hP hC hW (fun V1 f1 hD1 hS1 => ?_)
      obtain ⟨k1, k2, k3, k4, k5⟩ := hw0.so f1
      have u2 : V1 5 0 = .ref 6 := by rw [k5]; exact s2
      have u5 : V1 5 3 = .ref 116 := by rw [k5]; exact s5
      have u9 : V1 5 7 = .ref 139 := by rw [k5]; exact s9
      simp (disch := first | assumption | exact zk_147 | ((repeat (first | exact z1n | refine z1I ?_ | refine z1R ?_)); done) | exact rfl | omega | decide) only [r_aload_0, r_gf_576, r_iload_1, r_inv_2_0, r_inv_2_1, r_inv_2_2, r_inv_2_3, r_inv_2_4, r_K0, r_K1, r_inv_1_0, r_inv_1_1, r_inv_1_2, r_inv_1_3, r_inv_1_4, r_iload_2, r_iconst, r_inv_3_0, r_inv_3_1, r_inv_3_2, r_inv_3_3, r_inv_3_4, r_gf_579, r_gf_583, r_inv_4_0, r_inv_4_1, r_inv_4_2, r_inv_4_3, r_inv_4_4, r_iret, r_bret_0, r_bret_1, r_KX, u2, u5, u9, ↓reduceIte, not_true_eq_false, not_false_eq_true, Int.reduceEq, Int.reduceLE, Int.reduceLT, Int.reduceAdd, Int.reduceNeg, Int.reduceMul, Int.reduceSub, Int.reduceToNat]
      refine c_fill (by omega) (by omega) k1 k2 hD1 hS1 k3 k4 hW (fun V2 f2 hFB => ?_)
      obtain ⟨m1, m2, m3, m4, m5, y1, y2⟩ := hw0.fi ho f1 hD1 f2
      have v2 : V2 5 0 = .ref 6 := by rw [m4]; exact s2
      have v9 : V2 5 7 = .ref 139 := by rw [m4]; exact s9
      have := h0' s V2 y1 y2
      have hcc := fun K => c_countCuts (Q := K) (d := d) (by omega) m1 hFB m2 m3 hW q1.1 q1.2 hb
      generalize zCuts σ.r x b = A at this hcc
      simp (disch := first | assumption | exact zk_147 | ((repeat (first | exact z1n | refine z1I ?_ | refine z1R ?_)); done) | exact rfl | omega | decide) only [r_aload_0, r_gf_576, r_iload_1, r_inv_2_0, r_inv_2_1, r_inv_2_2, r_inv_2_3, r_inv_2_4, r_K0, r_K1, r_inv_1_0, r_inv_1_1, r_inv_1_2, r_inv_1_3, r_inv_1_4, r_iload_2, r_iconst, r_inv_3_0, r_inv_3_1, r_inv_3_2, r_inv_3_3, r_inv_3_4, r_gf_579, r_gf_583, r_inv_4_0, r_inv_4_1, r_inv_4_2, r_inv_4_3, r_inv_4_4, r_iret, r_bret_0, r_bret_1, r_KX, v2, v9, hcc, ↓reduceIte, not_true_eq_false, not_false_eq_true, Int.reduceEq, Int.reduceLE, Int.reduceLT, Int.reduceAdd, Int.reduceNeg, Int.reduceMul, Int.reduceSub, Int.reduceToNat]
      exact this
    · obtain ⟨y1, y2⟩ := hw0.thr ho (10 + (2 : Int).toNat) (fun _ => .null)
      have := e2 q1 q2 _ _ y1 y2
      simp (disch := first | assumption | exact zk_147 | ((repeat (first | exact z1n | refine z1I ?_ | refine z1R ?_)); done) | exact rfl | omega | decide) only [zb_147_0, r_aload_0, r_gf_576, r_iload_1, r_inv_2_0, r_inv_2_1, r_inv_2_2, r_inv_2_3, r_inv_2_4, r_K0, r_K1, r_inv_1_0, r_inv_1_1, r_inv_1_2, r_inv_1_3, r_inv_1_4, r_iload_2, r_iconst, r_inv_3_0, r_inv_3_1, r_inv_3_2, r_inv_3_3, r_inv_3_4, r_gf_579, r_gf_583, r_inv_4_0, r_inv_4_1, r_inv_4_2, r_inv_4_3, r_inv_4_4, r_iret, r_bret_0, r_bret_1, r_KX, s2, s5, s9, c_whyNoService (hC := hC), q1, and_self, c_ref0, c_within, q2, c_refX, ↓reduceIte, not_true_eq_false, not_false_eq_true, Int.reduceEq, Int.reduceLE, Int.reduceLT, Int.reduceAdd, Int.reduceNeg, Int.reduceMul, Int.reduceSub, Int.reduceToNat]
      exact this
  · obtain ⟨y1, y2⟩ := hw0.thr ho (10 + (1 : Int).toNat) (fun _ => .null)
    have := e1 q1 _ _ y1 y2
    simp (disch := first | assumption | exact zk_147 | ((repeat (first | exact z1n | refine z1I ?_ | refine z1R ?_)); done) | exact rfl | omega | decide) only [zb_147_0, r_aload_0, r_gf_576, r_iload_1, r_inv_2_0, r_inv_2_1, r_inv_2_2, r_inv_2_3, r_inv_2_4, r_K0, r_K1, r_inv_1_0, r_inv_1_1, r_inv_1_2, r_inv_1_3, r_inv_1_4, r_iload_2, r_iconst, r_inv_3_0, r_inv_3_1, r_inv_3_2, r_inv_3_3, r_inv_3_4, r_gf_579, r_gf_583, r_inv_4_0, r_inv_4_1, r_inv_4_2, r_inv_4_3, r_inv_4_4, r_iret, r_bret_0, r_bret_1, r_KX, s2, s5, s9, c_whyNoService (hC := hC), q1, c_refX, ↓reduceIte, not_true_eq_false, not_false_eq_true, Int.reduceEq, Int.reduceLE, Int.reduceLT, Int.reduceAdd, Int.reduceNeg, Int.reduceMul, Int.reduceSub, Int.reduceToNat]
    exact this
set_option maxRecDepth 20000 in
theorem w_cut (hd : 20 ≤ d) (hw : zWc σ s V) (ho : zOK σ) {x b j : Int} (hx : zI32 x) (hb : zI32 b) (hj : zI32 j) (e1 : ¬ (0 ≤ x ∧ x < σ.r.n) → zThr Q 1 σ s V) (e2 : 0 ≤ x ∧ x < σ.r.n → ¬ (1 ≤ b ∧ b ≤ 12) → zThr Q 2 σ s V) (h0 : 0 ≤ x ∧ x < σ.r.n → (1 ≤ b ∧ b ≤ 12) → zRet Q (zCutj σ.r x b j) σ s V) : zcall d 148 [.ref 5, zi x, zi b, zi j] (s, V) Q := by
  have hw0 := hw
  obtain ⟨hA, ⟨hP, hC⟩, hB2, hHH, hD, hE, hF, hG, hI, hJ, hs, t1, l1⟩ := hw
  obtain ⟨κ, hHP, hHC⟩ := id hHH
  have hW := ho.1
  obtain ⟨n0, n1, c0, c1⟩ := hW.1
  obtain ⟨⟨s1, s2, s3, s4, s5, s6, s7, s8, s9, s10⟩, hSA, hSM⟩ := id hA
  have tO := hP.1
  have tH := hHP.1
  have tG := hD.1
  have z := zExt.rf (s := s) (n := 1) (k := 6012)
  have i1 : zI32 1 := ⟨by omega, by omega⟩
  have i2 : zI32 12 := ⟨by omega, by omega⟩
  have tI := hI.1.1
  obtain ⟨d, rfl⟩ : ∃ e, d = e + 1 := ⟨d - 1, by omega⟩
  simp (disch := first | assumption | omega) only [zc_148]
  by_cases q1 : 0 ≤ x ∧ x < σ.r.n
  · by_cases q2 : 1 ≤ b ∧ b ≤ 12
    · have h0' := h0 q1 q2
      simp (disch := first | assumption | exact zk_148 | ((repeat (first | exact z1n | refine z1I ?_ | refine z1R ?_)); done) | exact rfl | omega | decide) only [zb_148_0, r_aload_0, r_gf_576, r_iload_1, r_inv_2_0, r_inv_2_1, r_inv_2_2, r_inv_2_3, r_inv_2_4, r_K0, r_K1, r_inv_1_0, r_inv_1_1, r_inv_1_2, r_inv_1_3, r_inv_1_4, r_iload_2, r_iconst, r_inv_3_0, r_inv_3_1, r_inv_3_2, r_inv_3_3, r_inv_3_4, r_gf_579, r_gf_583, r_iload_3, r_inv_5_0, r_inv_5_1, r_inv_5_2, r_inv_5_3, r_inv_5_4, r_iret, r_bret_0, r_bret_1, r_KX, s2, s5, s9, c_whyNoService (hC := hC), q1, and_self, c_ref0, c_within, q2, ↓reduceIte, not_true_eq_false, not_false_eq_true, Int.reduceEq, Int.reduceLE, Int.reduceLT, Int.reduceAdd, Int.reduceNeg, Int.reduceMul, Int.reduceSub, Int.reduceToNat]
      refine c_sort (by omega) (by omega) hD hP hC hW (fun V1 f1 hD1 hS1 => ?_)
      obtain ⟨k1, k2, k3, k4, k5⟩ := hw0.so f1
      have u2 : V1 5 0 = .ref 6 := by rw [k5]; exact s2
      have u5 : V1 5 3 = .ref 116 := by rw [k5]; exact s5
      have u9 : V1 5 7 = .ref 139 := by rw [k5]; exact s9
      simp (disch := first | assumption | exact zk_148 | ((repeat (first | exact z1n | refine z1I ?_ | refine z1R ?_)); done) | exact rfl | omega | decide) only [r_aload_0, r_gf_576, r_iload_1, r_inv_2_0, r_inv_2_1, r_inv_2_2, r_inv_2_3, r_inv_2_4, r_K0, r_K1, r_inv_1_0, r_inv_1_1, r_inv_1_2, r_inv_1_3, r_inv_1_4, r_iload_2, r_iconst, r_inv_3_0, r_inv_3_1, r_inv_3_2, r_inv_3_3, r_inv_3_4, r_gf_579, r_gf_583, r_iload_3, r_inv_5_0, r_inv_5_1, r_inv_5_2, r_inv_5_3, r_inv_5_4, r_iret, r_bret_0, r_bret_1, r_KX, u2, u5, u9, ↓reduceIte, not_true_eq_false, not_false_eq_true, Int.reduceEq, Int.reduceLE, Int.reduceLT, Int.reduceAdd, Int.reduceNeg, Int.reduceMul, Int.reduceSub, Int.reduceToNat]
      refine c_fill (by omega) (by omega) k1 k2 hD1 hS1 k3 k4 hW (fun V2 f2 hFB => ?_)
      obtain ⟨m1, m2, m3, m4, m5, y1, y2⟩ := hw0.fi ho f1 hD1 f2
      have v2 : V2 5 0 = .ref 6 := by rw [m4]; exact s2
      have v9 : V2 5 7 = .ref 139 := by rw [m4]; exact s9
      have := h0' s V2 y1 y2
      have hcc := fun K => c_findCut (Q := K) (d := d) (by omega) m1 hFB m2 m3 hW q1.1 q1.2 hb hj
      generalize zCutj σ.r x b j = A at this hcc
      simp (disch := first | assumption | exact zk_148 | ((repeat (first | exact z1n | refine z1I ?_ | refine z1R ?_)); done) | exact rfl | omega | decide) only [r_aload_0, r_gf_576, r_iload_1, r_inv_2_0, r_inv_2_1, r_inv_2_2, r_inv_2_3, r_inv_2_4, r_K0, r_K1, r_inv_1_0, r_inv_1_1, r_inv_1_2, r_inv_1_3, r_inv_1_4, r_iload_2, r_iconst, r_inv_3_0, r_inv_3_1, r_inv_3_2, r_inv_3_3, r_inv_3_4, r_gf_579, r_gf_583, r_iload_3, r_inv_5_0, r_inv_5_1, r_inv_5_2, r_inv_5_3, r_inv_5_4, r_iret, r_bret_0, r_bret_1, r_KX, v2, v9, hcc, ↓reduceIte, not_true_eq_false, not_false_eq_true, Int.reduceEq, Int.reduceLE, Int.reduceLT, Int.reduceAdd, Int.reduceNeg, Int.reduceMul, Int.reduceSub, Int.reduceToNat]
      exact this
    · obtain ⟨y1, y2⟩ := hw0.thr ho (10 + (2 : Int).toNat) (fun _ => .null)
      have := e2 q1 q2 _ _ y1 y2
      simp (disch := first | assumption | exact zk_148 | ((repeat (first | exact z1n | refine z1I ?_ | refine z1R ?_)); done) | exact rfl | omega | decide) only [zb_148_0, r_aload_0, r_gf_576, r_iload_1, r_inv_2_0, r_inv_2_1, r_inv_2_2, r_inv_2_3, r_inv_2_4, r_K0, r_K1, r_inv_1_0, r_inv_1_1, r_inv_1_2, r_inv_1_3, r_inv_1_4, r_iload_2, r_iconst, r_inv_3_0, r_inv_3_1, r_inv_3_2, r_inv_3_3, r_inv_3_4, r_gf_579, r_gf_583, r_iload_3, r_inv_5_0, r_inv_5_1, r_inv_5_2, r_inv_5_3, r_inv_5_4, r_iret, r_bret_0, r_bret_1, r_KX, s2, s5, s9, c_whyNoService (hC := hC), q1, and_self, c_ref0, c_within, q2, c_refX, ↓reduceIte, not_true_eq_false, not_false_eq_true, Int.reduceEq, Int.reduceLE, Int.reduceLT, Int.reduceAdd, Int.reduceNeg, Int.reduceMul, Int.reduceSub, Int.reduceToNat]
      exact this
  · obtain ⟨y1, y2⟩ := hw0.thr ho (10 + (1 : Int).toNat) (fun _ => .null)
    have := e1 q1 _ _ y1 y2
    simp (disch := first | assumption | exact zk_148 | ((repeat (first | exact z1n | refine z1I ?_ | refine z1R ?_)); done) | exact rfl | omega | decide) only [zb_148_0, r_aload_0, r_gf_576, r_iload_1, r_inv_2_0, r_inv_2_1, r_inv_2_2, r_inv_2_3, r_inv_2_4, r_K0, r_K1, r_inv_1_0, r_inv_1_1, r_inv_1_2, r_inv_1_3, r_inv_1_4, r_iload_2, r_iconst, r_inv_3_0, r_inv_3_1, r_inv_3_2, r_inv_3_3, r_inv_3_4, r_gf_579, r_gf_583, r_iload_3, r_inv_5_0, r_inv_5_1, r_inv_5_2, r_inv_5_3, r_inv_5_4, r_iret, r_bret_0, r_bret_1, r_KX, s2, s5, s9, c_whyNoService (hC := hC), q1, c_refX, ↓reduceIte, not_true_eq_false, not_false_eq_true, Int.reduceEq, Int.reduceLE, Int.reduceLT, Int.reduceAdd, Int.reduceNeg, Int.reduceMul, Int.reduceSub, Int.reduceToNat]
    exact this
set_option maxRecDepth 20000 in
theorem w_weakest (hd : 20 ≤ d) (hw : zWc σ s V) (ho : zOK σ) {x : Int} (hx : zI32 x) (e1 : ¬ (0 ≤ x ∧ x < σ.r.n) → zThr Q 1 σ s V) (h0 : 0 ≤ x ∧ x < σ.r.n → zRet Q ((zavW σ.r x σ.r.n).1) σ s V) : zcall d 150 [.ref 5, zi x] (s, V) Q := by
  have hw0 := hw
  obtain ⟨hA, ⟨hP, hC⟩, hB2, hHH, hD, hE, hF, hG, hI, hJ, hs, t1, l1⟩ := hw
  obtain ⟨κ, hHP, hHC⟩ := id hHH
  have hW := ho.1
  obtain ⟨n0, n1, c0, c1⟩ := hW.1
  obtain ⟨⟨s1, s2, s3, s4, s5, s6, s7, s8, s9, s10⟩, hSA, hSM⟩ := id hA
  have tO := hP.1
  have tH := hHP.1
  have tG := hD.1
  have z := zExt.rf (s := s) (n := 1) (k := 6012)
  have i1 : zI32 1 := ⟨by omega, by omega⟩
  have i2 : zI32 12 := ⟨by omega, by omega⟩
  have tI := hI.1.1
  obtain ⟨d, rfl⟩ : ∃ e, d = e + 1 := ⟨d - 1, by omega⟩
  simp (disch := first | assumption | omega) only [zc_150]
  by_cases q1 : 0 ≤ x ∧ x < σ.r.n
  · have h0' := h0 q1
    simp (disch := first | assumption | exact zk_150 | ((repeat (first | exact z1n | refine z1I ?_ | refine z1R ?_)); done) | exact rfl | omega | decide) only [zb_150_0, r_aload_0, r_gf_576, r_iload_1, r_inv_2_0, r_inv_2_1, r_inv_2_2, r_inv_2_3, r_inv_2_4, r_K0, r_K1, r_inv_1_0, r_inv_1_1, r_inv_1_2, r_inv_1_3, r_inv_1_4, r_gf_579, r_gf_583, r_inv_3_0, r_inv_3_1, r_inv_3_2, r_inv_3_3, r_inv_3_4, r_iret, r_bret_0, r_bret_1, r_KX, s2, s5, s9, c_whyNoService (hC := hC), q1, and_self, c_ref0, ↓reduceIte, not_true_eq_false, not_false_eq_true, Int.reduceEq, Int.reduceLE, Int.reduceLT, Int.reduceAdd, Int.reduceNeg, Int.reduceMul, Int.reduceSub, Int.reduceToNat]
    refine c_sort (by omega) (by omega) hD hP hC hW (fun V1 f1 hD1 hS1 => ?_)
    obtain ⟨k1, k2, k3, k4, k5⟩ := hw0.so f1
    have u2 : V1 5 0 = .ref 6 := by rw [k5]; exact s2
    have u5 : V1 5 3 = .ref 116 := by rw [k5]; exact s5
    have u9 : V1 5 7 = .ref 139 := by rw [k5]; exact s9
    simp (disch := first | assumption | exact zk_150 | ((repeat (first | exact z1n | refine z1I ?_ | refine z1R ?_)); done) | exact rfl | omega | decide) only [r_aload_0, r_gf_576, r_iload_1, r_inv_2_0, r_inv_2_1, r_inv_2_2, r_inv_2_3, r_inv_2_4, r_K0, r_K1, r_inv_1_0, r_inv_1_1, r_inv_1_2, r_inv_1_3, r_inv_1_4, r_gf_579, r_gf_583, r_inv_3_0, r_inv_3_1, r_inv_3_2, r_inv_3_3, r_inv_3_4, r_iret, r_bret_0, r_bret_1, r_KX, u2, u5, u9, ↓reduceIte, not_true_eq_false, not_false_eq_true, Int.reduceEq, Int.reduceLE, Int.reduceLT, Int.reduceAdd, Int.reduceNeg, Int.reduceMul, Int.reduceSub, Int.reduceToNat]
    refine c_fill (by omega) (by omega) k1 k2 hD1 hS1 k3 k4 hW (fun V2 f2 hFB => ?_)
    obtain ⟨m1, m2, m3, m4, m5, y1, y2⟩ := hw0.fi ho f1 hD1 f2
    have v2 : V2 5 0 = .ref 6 := by rw [m4]; exact s2
    have v9 : V2 5 7 = .ref 139 := by rw [m4]; exact s9
    simp (disch := first | assumption | exact zk_150 | ((repeat (first | exact z1n | refine z1I ?_ | refine z1R ?_)); done) | exact rfl | omega | decide) only [r_aload_0, r_gf_576, r_iload_1, r_inv_2_0, r_inv_2_1, r_inv_2_2, r_inv_2_3, r_inv_2_4, r_K0, r_K1, r_inv_1_0, r_inv_1_1, r_inv_1_2, r_inv_1_3, r_inv_1_4, r_gf_579, r_gf_583, r_inv_3_0, r_inv_3_1, r_inv_3_2, r_inv_3_3, r_inv_3_4, r_iret, r_bret_0, r_bret_1, r_KX, v2, v9, ↓reduceIte, not_true_eq_false, not_false_eq_true, Int.reduceEq, Int.reduceLE, Int.reduceLT, Int.reduceAdd, Int.reduceNeg, Int.reduceMul, Int.reduceSub, Int.reduceToNat]
    refine c_mostWorthwhile (by omega) m1 hFB m2 m3 hW (by omega) hs m5 q1.1 q1.2 (fun s1 V3 hx1 g1 hF3 hL3 => ?_)
    have hx2 : zExt s s1 1 6012 := ⟨hx1.1, ⟨hx1.2.1.1, by have := hx1.2.1.2; omega⟩, hx1.2.2⟩
    obtain ⟨-, -, -, -, gD, -, gF, gG, -, -, gs, -, -⟩ := id y2
    obtain ⟨y3, y4⟩ := y2.q2 ho (V' := V3) hx2 (fun r r1 r2 r3 => g1 r r3 (by omega) (by omega)) (gD.cg hx2 gs (g1 _ (by omega) (by omega) (by omega))) (gF.cg hx2 gs (g1 _ (by omega) (by omega) (by omega))) (gG.cg hx2 gs (g1 _ (by omega) (by omega) (by omega))) ⟨hF3, hL3⟩
    have := h0' s1 V3 (y1.tr y3) y4
    generalize (zavW σ.r x σ.r.n).1 = A at this
    simp (disch := first | assumption | exact zk_150 | ((repeat (first | exact z1n | refine z1I ?_ | refine z1R ?_)); done) | exact rfl | omega | decide) only [r_aload_0, r_gf_576, r_iload_1, r_inv_2_0, r_inv_2_1, r_inv_2_2, r_inv_2_3, r_inv_2_4, r_K0, r_K1, r_inv_1_0, r_inv_1_1, r_inv_1_2, r_inv_1_3, r_inv_1_4, r_gf_579, r_gf_583, r_inv_3_0, r_inv_3_1, r_inv_3_2, r_inv_3_3, r_inv_3_4, r_iret, r_bret_0, r_bret_1, r_KX, ↓reduceIte, not_true_eq_false, not_false_eq_true, Int.reduceEq, Int.reduceLE, Int.reduceLT, Int.reduceAdd, Int.reduceNeg, Int.reduceMul, Int.reduceSub, Int.reduceToNat]
    exact this
  · obtain ⟨y1, y2⟩ := hw0.thr ho (10 + (1 : Int).toNat) (fun _ => .null)
    have := e1 q1 _ _ y1 y2
    simp (disch := first | assumption | exact zk_150 | ((repeat (first | exact z1n | refine z1I ?_ | refine z1R ?_)); done) | exact rfl | omega | decide) only [zb_150_0, r_aload_0, r_gf_576, r_iload_1, r_inv_2_0, r_inv_2_1, r_inv_2_2, r_inv_2_3, r_inv_2_4, r_K0, r_K1, r_inv_1_0, r_inv_1_1, r_inv_1_2, r_inv_1_3, r_inv_1_4, r_gf_579, r_gf_583, r_inv_3_0, r_inv_3_1, r_inv_3_2, r_inv_3_3, r_inv_3_4, r_iret, r_bret_0, r_bret_1, r_KX, s2, s5, s9, c_whyNoService (hC := hC), q1, c_refX, ↓reduceIte, not_true_eq_false, not_false_eq_true, Int.reduceEq, Int.reduceLE, Int.reduceLT, Int.reduceAdd, Int.reduceNeg, Int.reduceMul, Int.reduceSub, Int.reduceToNat]
    exact this
set_option maxRecDepth 20000 in
theorem w_availability (hd : 20 ≤ d) (hw : zWc σ s V) (ho : zOK σ) {x : Int} (hx : zI32 x) (e1 : ¬ (0 ≤ x ∧ x < σ.r.n) → zThr Q 1 σ s V) (h0 : 0 ≤ x ∧ x < σ.r.n → zRet Q (zavA σ.r x) σ s V) : zcall d 149 [.ref 5, zi x] (s, V) Q := by
  have hw0 := hw
  obtain ⟨hA, ⟨hP, hC⟩, hB2, hHH, hD, hE, hF, hG, hI, hJ, hs, t1, l1⟩ := hw
  obtain ⟨κ, hHP, hHC⟩ := id hHH
  have hW := ho.1
  obtain ⟨n0, n1, c0, c1⟩ := hW.1
  obtain ⟨⟨s1, s2, s3, s4, s5, s6, s7, s8, s9, s10⟩, hSA, hSM⟩ := id hA
  have tO := hP.1
  have tH := hHP.1
  have tG := hD.1
  have z := zExt.rf (s := s) (n := 1) (k := 6012)
  have i1 : zI32 1 := ⟨by omega, by omega⟩
  have i2 : zI32 12 := ⟨by omega, by omega⟩
  have tI := hI.1.1
  obtain ⟨d, rfl⟩ : ∃ e, d = e + 1 := ⟨d - 1, by omega⟩
  simp (disch := first | assumption | omega) only [zc_149]
  by_cases q1 : 0 ≤ x ∧ x < σ.r.n
  · have h0' := h0 q1
    simp (disch := first | assumption | exact zk_149 | ((repeat (first | exact z1n | refine z1I ?_ | refine z1R ?_)); done) | exact rfl | omega | decide) only [zb_149_0, r_aload_0, r_gf_576, r_iload_1, r_inv_2_0, r_inv_2_1, r_inv_2_2, r_inv_2_3, r_inv_2_4, r_K0, r_K1, r_inv_1_0, r_inv_1_1, r_inv_1_2, r_inv_1_3, r_inv_1_4, r_gf_579, r_gf_583, r_inv_3_0, r_inv_3_1, r_inv_3_2, r_inv_3_3, r_inv_3_4, r_iconst, r_inv_4_0, r_inv_4_1, r_inv_4_2, r_inv_4_3, r_inv_4_4, r_d2f, r_iret, r_bret_0, r_bret_1, r_KX, s2, s5, s9, c_whyNoService (hC := hC), q1, and_self, c_ref0, ↓reduceIte, not_true_eq_false, not_false_eq_true, Int.reduceEq, Int.reduceLE, Int.reduceLT, Int.reduceAdd, Int.reduceNeg, Int.reduceMul, Int.reduceSub, Int.reduceToNat]
    refine c_sort (by omega) (by omega) hD hP hC hW (fun V1 f1 hD1 hS1 => ?_)
    obtain ⟨k1, k2, k3, k4, k5⟩ := hw0.so f1
    have u2 : V1 5 0 = .ref 6 := by rw [k5]; exact s2
    have u5 : V1 5 3 = .ref 116 := by rw [k5]; exact s5
    have u9 : V1 5 7 = .ref 139 := by rw [k5]; exact s9
    simp (disch := first | assumption | exact zk_149 | ((repeat (first | exact z1n | refine z1I ?_ | refine z1R ?_)); done) | exact rfl | omega | decide) only [r_aload_0, r_gf_576, r_iload_1, r_inv_2_0, r_inv_2_1, r_inv_2_2, r_inv_2_3, r_inv_2_4, r_K0, r_K1, r_inv_1_0, r_inv_1_1, r_inv_1_2, r_inv_1_3, r_inv_1_4, r_gf_579, r_gf_583, r_inv_3_0, r_inv_3_1, r_inv_3_2, r_inv_3_3, r_inv_3_4, r_iconst, r_inv_4_0, r_inv_4_1, r_inv_4_2, r_inv_4_3, r_inv_4_4, r_d2f, r_iret, r_bret_0, r_bret_1, r_KX, u2, u5, u9, ↓reduceIte, not_true_eq_false, not_false_eq_true, Int.reduceEq, Int.reduceLE, Int.reduceLT, Int.reduceAdd, Int.reduceNeg, Int.reduceMul, Int.reduceSub, Int.reduceToNat]
    refine c_fill (by omega) (by omega) k1 k2 hD1 hS1 k3 k4 hW (fun V2 f2 hFB => ?_)
    obtain ⟨m1, m2, m3, m4, m5, y1, y2⟩ := hw0.fi ho f1 hD1 f2
    have v2 : V2 5 0 = .ref 6 := by rw [m4]; exact s2
    have v9 : V2 5 7 = .ref 139 := by rw [m4]; exact s9
    simp (disch := first | assumption | exact zk_149 | ((repeat (first | exact z1n | refine z1I ?_ | refine z1R ?_)); done) | exact rfl | omega | decide) only [r_aload_0, r_gf_576, r_iload_1, r_inv_2_0, r_inv_2_1, r_inv_2_2, r_inv_2_3, r_inv_2_4, r_K0, r_K1, r_inv_1_0, r_inv_1_1, r_inv_1_2, r_inv_1_3, r_inv_1_4, r_gf_579, r_gf_583, r_inv_3_0, r_inv_3_1, r_inv_3_2, r_inv_3_3, r_inv_3_4, r_iconst, r_inv_4_0, r_inv_4_1, r_inv_4_2, r_inv_4_3, r_inv_4_4, r_d2f, r_iret, r_bret_0, r_bret_1, r_KX, v2, v9, ↓reduceIte, not_true_eq_false, not_false_eq_true, Int.reduceEq, Int.reduceLE, Int.reduceLT, Int.reduceAdd, Int.reduceNeg, Int.reduceMul, Int.reduceSub, Int.reduceToNat]
    refine c_chanceOf (by omega) m1 hFB m2 m3 hW (by omega) hs m5 q1.1 q1.2 ⟨by omega, by omega⟩ (fun s1 V3 r hx1 g1 hF3 hr3 => ?_)
    have hx2 : zExt s s1 1 6012 := ⟨hx1.1, ⟨hx1.2.1.1, by have := hx1.2.1.2; omega⟩, hx1.2.2⟩
    obtain ⟨-, -, -, -, gD, -, gF, gG, -, -, gs, -, -⟩ := id y2
    obtain ⟨y3, y4⟩ := y2.q2 ho (V' := V3) hx2 (fun r r1 r2 r3 => g1 r r3 (by omega) (by omega)) (gD.cg hx2 gs (g1 _ (by omega) (by omega) (by omega))) (gF.cg hx2 gs (g1 _ (by omega) (by omega) (by omega))) (gG.cg hx2 gs (g1 _ (by omega) (by omega) (by omega))) ⟨hF3, ⟨r, hr3.1, hr3.2.1, hr3.2.2.1, hr3.2.2.2.1, Or.inr hr3.2.2.2.2⟩⟩
    have := h0' s1 V3 (y1.tr y3) y4
    obtain ⟨c, e, b1, b2⟩ := zavA_is hW x
    have hnn := zF32nn b1
    have z1 := z1F (u := FP.d2f (zavS σ.r (-1) x (zTwo σ.r.n)))
    have hbo := fun K h => c_bitsOf (Q := K) (h := h) (d := d) (by omega) b1 b2
    have ha : ((FP.d2f (zavS σ.r (-1) x (zTwo σ.r.n))).toNat : Int) = zavA σ.r x := rfl
    rw [ha] at hbo
    generalize zavA σ.r x = A at hbo this
    generalize zavS σ.r (-1) x (zTwo σ.r.n) = S at hnn hbo z1
    simp (disch := first | assumption | exact zk_149 | ((repeat (first | exact z1n | refine z1I ?_ | refine z1R ?_)); done) | exact rfl | omega | decide) only [r_aload_0, r_gf_576, r_iload_1, r_inv_2_0, r_inv_2_1, r_inv_2_2, r_inv_2_3, r_inv_2_4, r_K0, r_K1, r_inv_1_0, r_inv_1_1, r_inv_1_2, r_inv_1_3, r_inv_1_4, r_gf_579, r_gf_583, r_inv_3_0, r_inv_3_1, r_inv_3_2, r_inv_3_3, r_inv_3_4, r_iconst, r_inv_4_0, r_inv_4_1, r_inv_4_2, r_inv_4_3, r_inv_4_4, r_d2f, r_iret, r_bret_0, r_bret_1, r_KX, hbo, ↓reduceIte, not_true_eq_false, not_false_eq_true, Int.reduceEq, Int.reduceLE, Int.reduceLT, Int.reduceAdd, Int.reduceNeg, Int.reduceMul, Int.reduceSub, Int.reduceToNat]
    exact this
  · obtain ⟨y1, y2⟩ := hw0.thr ho (10 + (1 : Int).toNat) (fun _ => .null)
    have := e1 q1 _ _ y1 y2
    simp (disch := first | assumption | exact zk_149 | ((repeat (first | exact z1n | refine z1I ?_ | refine z1R ?_)); done) | exact rfl | omega | decide) only [zb_149_0, r_aload_0, r_gf_576, r_iload_1, r_inv_2_0, r_inv_2_1, r_inv_2_2, r_inv_2_3, r_inv_2_4, r_K0, r_K1, r_inv_1_0, r_inv_1_1, r_inv_1_2, r_inv_1_3, r_inv_1_4, r_gf_579, r_gf_583, r_inv_3_0, r_inv_3_1, r_inv_3_2, r_inv_3_3, r_inv_3_4, r_iconst, r_inv_4_0, r_inv_4_1, r_inv_4_2, r_inv_4_3, r_inv_4_4, r_d2f, r_iret, r_bret_0, r_bret_1, r_KX, s2, s5, s9, c_whyNoService (hC := hC), q1, c_refX, ↓reduceIte, not_true_eq_false, not_false_eq_true, Int.reduceEq, Int.reduceLE, Int.reduceLT, Int.reduceAdd, Int.reduceNeg, Int.reduceMul, Int.reduceSub, Int.reduceToNat]
    exact this
/-- another text -/
def zσ.tx (σ : zσ) (m : Int) (T : Int → Int) : zσ := (σ.1, σ.2.1, (m, T), σ.2.2.2)
set_option maxRecDepth 20000 in
theorem w_append (hd : 20 ≤ d) (hw : zWc σ s V) (ho : zOK σ) {x : Int} (hx : zI32 x) (e1 : ¬ (0 ≤ x ∧ x ≤ 127) → zThr Q 2 σ s V) (e2 : 0 ≤ x ∧ x ≤ 127 → ¬ σ.m < 120 → zThr Q 3 σ s V) (h0 : 0 ≤ x ∧ x ≤ 127 → σ.m < 120 → zRet Q (σ.m + 1) (σ.tx (σ.m + 1) (fun k => if k = σ.m then x else σ.T k)) s V) : zcall d 151 [.ref 5, zi x] (s, V) Q := by
  have hw0 := hw
  obtain ⟨hA, ⟨hP, hC⟩, hB2, hHH, hD, hE, hF, hG, hI, hJ, hs, t1, l1⟩ := hw
  obtain ⟨κ, hHP, hHC⟩ := id hHH
  have hW := ho.1
  obtain ⟨n0, n1, c0, c1⟩ := hW.1
  obtain ⟨⟨s1, s2, s3, s4, s5, s6, s7, s8, s9, s10⟩, hSA, hSM⟩ := id hA
  have tO := hP.1
  have tH := hHP.1
  have tG := hD.1
  have z := zExt.rf (s := s) (n := 1) (k := 6012)
  have i1 : zI32 0 := ⟨by omega, by omega⟩
  have i2 : zI32 127 := ⟨by omega, by omega⟩
  obtain ⟨⟨m0, m1⟩, -⟩ := ho.2.2.2.1
  obtain ⟨j1, ⟨j2, j3⟩, j4⟩ := id hJ
  obtain ⟨tX, ⟨x0, -, -⟩, ⟨x1, x2⟩, -⟩ := id j1
  obtain ⟨d, rfl⟩ : ∃ e, d = e + 1 := ⟨d - 1, by omega⟩
  simp (disch := first | assumption | omega) only [zc_151]
  have hwf : ∀ K, zcall d 103 [.ref 155] (s, V) K = if σ.m < 120 then K (.inl (some (zi 0))) (s, V) else K (.inl (some (zi 3))) (s, V) := fun K => by
    obtain ⟨e, rfl⟩ : ∃ e, d = e + 1 := ⟨d - 1, by omega⟩
    rw [zc_103 tX]
    by_cases c : σ.m < 120
    · rw [if_pos c]
      simp (disch := first | assumption | exact zk_103 | ((repeat (first | exact z1n | refine z1I ?_ | refine z1R ?_)); done) | exact rfl | omega | decide) only [zb_103_0, zb_103_1, zb_103_2, r_aload_0, r_gf_513, r_iconst, r_icmp_lt, r_goto, r_goto_w, r_iret, r_bret_0, r_bret_1, j2, c, ↓reduceIte, not_true_eq_false, not_false_eq_true, Int.reduceEq, Int.reduceLE, Int.reduceLT, Int.reduceAdd, Int.reduceNeg, Int.reduceMul, Int.reduceSub, Int.reduceToNat]
    · rw [if_neg c]
      simp (disch := first | assumption | exact zk_103 | ((repeat (first | exact z1n | refine z1I ?_ | refine z1R ?_)); done) | exact rfl | omega | decide) only [zb_103_0, zb_103_1, zb_103_2, r_aload_0, r_gf_513, r_iconst, r_icmp_lt, r_goto, r_goto_w, r_iret, r_bret_0, r_bret_1, j2, c, ↓reduceIte, not_true_eq_false, not_false_eq_true, Int.reduceEq, Int.reduceLE, Int.reduceLT, Int.reduceAdd, Int.reduceNeg, Int.reduceMul, Int.reduceSub, Int.reduceToNat]
  by_cases q1 : 0 ≤ x ∧ x ≤ 127
  · by_cases q2 : σ.m < 120
    · have h0' := h0 q1 q2
      have e5 : zput V 156 σ.m (zi x) 155 1 = zi σ.m := by rw [zput_r (by omega)]; exact j2
      have hV : ∀ r, r < 155 ∨ 157 ≤ r → zput (zput V 156 σ.m (zi x)) 155 1 (zi (σ.m + 1)) r = V r := fun r hr => (zput_row (by omega)).trans (zput_row (by omega))
      obtain ⟨y1, y2⟩ := hw0.qr ho (V' := zput (zput V 156 σ.m (zi x)) 155 1 (zi (σ.m + 1))) (t := (σ.m + 1, fun k => if k = σ.m then x else σ.T k)) (rq := σ.2.2.2) z (fun r r1 r2 r3 => hV r (by omega)) (hB2.ext z (by omega) (fun r r0 r1 => hV r (by omega))) (hD.cg z hs (hV _ (by omega))) (hE.cg rfl z hs (fun r r0 r1 => hV r (by omega))) (hF.cg z hs (hV _ (by omega))) (hG.cg z hs (hV _ (by omega))) (hI.cg z hs (hV _ (by omega)) (hV _ (by omega))) ⟨j1.cg z hs ⟨by rw [zput_k (by omega), zput_r (by omega)], by rw [zput_k (by omega), zput_r (by omega)], by rw [zput_k (by omega), zput_r (by omega)]⟩ (hV _ (by omega)), ⟨zput_at, fun k k0 k1 => by
        rw [zput_r (by omega)]
        dsimp only at k1 ⊢
        by_cases c : k = σ.m
        · rw [c, zput_at, if_pos rfl]
        · rw [zput_i c, if_neg c]; exact j3 k k0 (by omega)⟩, fun w hw i => by rw [hV _ (by omega)]; exact j4 w hw i⟩
      have := h0' s _ y1 y2
      have had : ∀ K : zO → zH → Prop, zcall d 104 [.ref 155, zi x] (s, V) K = K (.inl (some (zi (σ.m + 1)))) (s, zput (zput V 156 σ.m (zi x)) 155 1 (zi (σ.m + 1))) := fun K => by
        obtain ⟨e, rfl⟩ : ∃ e, d = e + 1 := ⟨d - 1, by omega⟩
        rw [zc_104 tX]
        simp (disch := first | assumption | exact zk_104 | ((repeat (first | exact z1n | refine z1I ?_ | refine z1R ?_)); done) | exact rfl | omega | decide) only [zb_104_0, r_aload_0, r_gf_512, r_gf_513, r_iload_1, r_iastore, r_dup_i, r_dup_r, r_iconst, r_iadd, r_pf_513, r_iret, r_bret_0, r_bret_1, x0, j2, e5, zput_at, ↓reduceIte, not_true_eq_false, not_false_eq_true, Int.reduceEq, Int.reduceLE, Int.reduceLT, Int.reduceAdd, Int.reduceNeg, Int.reduceMul, Int.reduceSub, Int.reduceToNat]
      simp (disch := first | assumption | exact zk_151 | ((repeat (first | exact z1n | refine z1I ?_ | refine z1R ?_)); done) | exact rfl | omega | decide) only [zb_151_0, r_iload_1, r_iconst, r_inv_3_0, r_inv_3_1, r_inv_3_2, r_inv_3_3, r_inv_3_4, r_K0, r_K1, r_inv_1_0, r_inv_1_1, r_inv_1_2, r_inv_1_3, r_inv_1_4, r_aload_0, r_gf_584, r_inv_2_0, r_inv_2_1, r_inv_2_2, r_inv_2_3, r_inv_2_4, r_iret, r_bret_0, r_bret_1, r_KX, s10, c_within, q1, and_self, c_ref0, hwf, q2, had, ↓reduceIte, not_true_eq_false, not_false_eq_true, Int.reduceEq, Int.reduceLE, Int.reduceLT, Int.reduceAdd, Int.reduceNeg, Int.reduceMul, Int.reduceSub, Int.reduceToNat]
      exact this
    · obtain ⟨y1, y2⟩ := hw0.thr ho (10 + (3 : Int).toNat) (fun _ => .null)
      have := e2 q1 q2 _ _ y1 y2
      simp (disch := first | assumption | exact zk_151 | ((repeat (first | exact z1n | refine z1I ?_ | refine z1R ?_)); done) | exact rfl | omega | decide) only [zb_151_0, r_iload_1, r_iconst, r_inv_3_0, r_inv_3_1, r_inv_3_2, r_inv_3_3, r_inv_3_4, r_K0, r_K1, r_inv_1_0, r_inv_1_1, r_inv_1_2, r_inv_1_3, r_inv_1_4, r_aload_0, r_gf_584, r_inv_2_0, r_inv_2_1, r_inv_2_2, r_inv_2_3, r_inv_2_4, r_iret, r_bret_0, r_bret_1, r_KX, s10, c_within, q1, and_self, c_ref0, hwf, q2, c_refX, ↓reduceIte, not_true_eq_false, not_false_eq_true, Int.reduceEq, Int.reduceLE, Int.reduceLT, Int.reduceAdd, Int.reduceNeg, Int.reduceMul, Int.reduceSub, Int.reduceToNat]
      exact this
  · obtain ⟨y1, y2⟩ := hw0.thr ho (10 + (2 : Int).toNat) (fun _ => .null)
    have := e1 q1 _ _ y1 y2
    simp (disch := first | assumption | exact zk_151 | ((repeat (first | exact z1n | refine z1I ?_ | refine z1R ?_)); done) | exact rfl | omega | decide) only [zb_151_0, r_iload_1, r_iconst, r_inv_3_0, r_inv_3_1, r_inv_3_2, r_inv_3_3, r_inv_3_4, r_K0, r_K1, r_inv_1_0, r_inv_1_1, r_inv_1_2, r_inv_1_3, r_inv_1_4, r_aload_0, r_gf_584, r_inv_2_0, r_inv_2_1, r_inv_2_2, r_inv_2_3, r_inv_2_4, r_iret, r_bret_0, r_bret_1, r_KX, s10, c_within, q1, c_refX, ↓reduceIte, not_true_eq_false, not_false_eq_true, Int.reduceEq, Int.reduceLE, Int.reduceLT, Int.reduceAdd, Int.reduceNeg, Int.reduceMul, Int.reduceSub, Int.reduceToNat]
    exact this
set_option maxRecDepth 20000 in
theorem w_clearText (hd : 20 ≤ d) (hw : zWc σ s V) (ho : zOK σ) (h0 : zRet Q σ.m (σ.tx 0 σ.T) s V) : zcall d 152 [.ref 5] (s, V) Q := by
  have hw0 := hw
  obtain ⟨hA, ⟨hP, hC⟩, hB2, hHH, hD, hE, hF, hG, hI, hJ, hs, t1, l1⟩ := hw
  obtain ⟨κ, hHP, hHC⟩ := id hHH
  have hW := ho.1
  obtain ⟨n0, n1, c0, c1⟩ := hW.1
  obtain ⟨⟨s1, s2, s3, s4, s5, s6, s7, s8, s9, s10⟩, hSA, hSM⟩ := id hA
  have tO := hP.1
  have tH := hHP.1
  have tG := hD.1
  have z := zExt.rf (s := s) (n := 1) (k := 6012)
  obtain ⟨⟨m0, m1⟩, -⟩ := ho.2.2.2.1
  obtain ⟨j1, ⟨j2, j3⟩, j4⟩ := id hJ
  have tX := j1.1
  obtain ⟨d, rfl⟩ : ∃ e, d = e + 1 := ⟨d - 1, by omega⟩
  simp (disch := first | assumption | omega) only [zc_152]
  have hV : ∀ r, r ≠ 155 → zput V 155 1 (zi 0) r = V r := fun r hr => zput_row hr
  obtain ⟨y1, y2⟩ := hw0.qr ho (V' := zput V 155 1 (zi 0)) (t := (0, σ.T)) (rq := σ.2.2.2) z (fun r r1 r2 r3 => hV r (by omega)) (hB2.ext z (by omega) (fun r r0 r1 => hV r (by omega))) (hD.cg z hs (hV _ (by omega))) (hE.cg rfl z hs (fun r r0 r1 => hV r (by omega))) (hF.cg z hs (hV _ (by omega))) (hG.cg z hs (hV _ (by omega))) (hI.cg z hs (hV _ (by omega)) (hV _ (by omega))) ⟨j1.cg z hs ⟨by rw [zput_k (by omega)], by rw [zput_k (by omega)], by rw [zput_k (by omega)]⟩ (hV _ (by omega)), ⟨zput_at, fun k k0 k1 => by dsimp only at k1; omega⟩, fun w hw i => by rw [hV _ (by omega)]; exact j4 w hw i⟩
  have := h0 s _ y1 y2
  have had : ∀ K : zO → zH → Prop, zcall d 105 [.ref 155] (s, V) K = K (.inl (some (zi σ.m))) (s, zput V 155 1 (zi 0)) := fun K => by
    obtain ⟨e, rfl⟩ : ∃ e, d = e + 1 := ⟨d - 1, by omega⟩
    rw [zc_105 tX]
    simp (disch := first | assumption | exact zk_105 | ((repeat (first | exact z1n | refine z1I ?_ | refine z1R ?_)); done) | exact rfl | omega | decide) only [zb_105_0, r_aload_0, r_gf_513, r_istore_1i, r_istore_1r, r_istore_1j, r_iconst, r_pf_513, r_iload_1, r_iret, r_bret_0, r_bret_1, j2, ↓reduceIte, not_true_eq_false, not_false_eq_true, Int.reduceEq, Int.reduceLE, Int.reduceLT, Int.reduceAdd, Int.reduceNeg, Int.reduceMul, Int.reduceSub, Int.reduceToNat]
  simp (disch := first | assumption | exact zk_152 | ((repeat (first | exact z1n | refine z1I ?_ | refine z1R ?_)); done) | exact rfl | omega | decide) only [zb_152_0, r_aload_0, r_gf_584, r_inv_1_0, r_inv_1_1, r_inv_1_2, r_inv_1_3, r_inv_1_4, r_K0, r_K1, r_iret, r_bret_0, r_bret_1, r_KX, s10, had, ↓reduceIte, not_true_eq_false, not_false_eq_true, Int.reduceEq, Int.reduceLE, Int.reduceLT, Int.reduceAdd, Int.reduceNeg, Int.reduceMul, Int.reduceSub, Int.reduceToNat]
  exact this
end
