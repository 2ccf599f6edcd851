/-! CALLS OF THE CLASS, 2 -/
section
variable {s s' : zS} {V V' : zV} {n k : Nat}
/-- a call that leaves state and past alone -/
theorem zWc.qr {σ : zσ} {t : Int × (Int → Int)} {rq : Bool × (Int × Bool) × zN} (h : zWc σ s V) (ho : zOK σ) (hx : zExt s s' 1 6012) (hV : ∀ r, r < 24 ∨ 42 ≤ r → r < 116 ∨ 164 ≤ r → r < 192 → V' r = V r) (h24 : zStP s' V' 24) (hD : zGP s' V') (hE : zcE (σ.1, σ.2.1, t, rq) s' V') (hF : zcF s' V') (hG : zcG s' V') (hI : zcI s' V') (hJ : zcJ t.2 t.1 s' V') : zSte s V s' V' ∧ zWc (σ.1, σ.2.1, t, rq) s' V' := by
  obtain ⟨hA, hB, hB2, hC, -, -, -, -, -, -, hs, t1, l1⟩ := h
  have h1 := hx.1
  exact ⟨⟨hx, fun r r1 r2 => hV r (by omega) (by omega) r2⟩, hA.cg hx hs (fun r hr => hV r (by omega) (by omega) (by omega)), hB.cg hx hs (by omega) (fun r r0 r1 => hV r (by omega) (by omega) (by omega)), h24, hC.cg ho.2.1.2 hx hs (fun r r0 r1 => hV r (by omega) (by omega) (by omega)), hD, hE, hF, hG, hI, hJ, by omega, (hx.t hs (by omega)).trans t1, (hx.l hs (by omega)).trans l1⟩
/-- rows from 24 to 42 and of the graph alone are written -/
theorem zWc.q1 {σ : zσ} (h : zWc σ s V) (ho : zOK σ) (hV : ∀ r, r < 24 ∨ 42 ≤ r → r < 116 ∨ 121 ≤ r → r < 192 → V' r = V r) (h24 : zStP s V' 24) (hD : zGP s V') : zSte s V s V' ∧ zWc σ s V' := by
  have hw := h
  obtain ⟨hA, hB, hB2, hC, -, hE, hF, hG, hI, hJ, hs, t1, l1⟩ := h
  have z := zExt.rf (s := s) (n := 1) (k := 6012)
  exact hw.qr (t := σ.2.2.1) (rq := σ.2.2.2) ho z (fun r r1 r2 r3 => hV r r1 (by omega) r3) h24 hD (hE.cg rfl z hs (fun r r0 r1 => hV r (by omega) (by omega) (by omega))) (hF.cg z hs (hV _ (by omega) (by omega) (by omega))) (hG.cg z hs (hV _ (by omega) (by omega) (by omega))) (hI.cg z hs (hV _ (by omega) (by omega) (by omega)) (hV _ (by omega) (by omega) (by omega))) (hJ.cg z hs (fun r r0 r1 => hV r (by omega) (by omega) (by omega)))
end
section
variable {d : Nat} {s : zS} {V : zV} {Q : zO → zH → Prop} {σ : zσ} {h : zH}
set_option maxRecDepth 20000 in
theorem w_steps (hd : 20 ≤ d) (hw : zWc σ s V) (ho : zOK σ) {x : Int} (hx : zI32 x) (e1 : ¬ (1 ≤ x ∧ x ≤ 50) → zThr Q 2 σ s V) (h0 : 1 ≤ x ∧ x ≤ 50 → zRet Q (σ.r.n - zpop (zDown (zSteps σ.r x.toNat))) (σ.sv (zSteps σ.r x.toNat)) s V) : zcall d 138 [.ref 5, zi x] (s, V) Q := by
  have hw0 := hw
  obtain ⟨hA, ⟨hP, hC⟩, hB2, hHH, hD, hE, hF, hG, hI, hJ, hs, t1, l1⟩ := hw
  obtain ⟨κ, hHP, hHC⟩ := id hHH
  have hW := ho.1
  obtain ⟨n0, n1, c0, c1⟩ := hW.1
  obtain ⟨⟨s1, s2, s3, s4, s5, s6, s7, s8, s9, s10⟩, hSA, hSM⟩ := id hA
  have tO := hP.1
  have tH := hHP.1
  have tG := hD.1
  have z := zExt.rf (s := s) (n := 1) (k := 6012)
  have i1 : zI32 1 := ⟨by omega, by omega⟩
  have i2 : zI32 50 := ⟨by omega, by omega⟩
  obtain ⟨d, rfl⟩ : ∃ e, d = e + 1 := ⟨d - 1, by omega⟩
  simp (disch := first | assumption | omega) only [zc_138]
  by_cases q1 : 1 ≤ x ∧ x ≤ 50
  · have h0' := h0 q1
    simp (disch := first | assumption | exact zk_138 | ((repeat (first | exact z1n | refine z1I ?_ | refine z1R ?_)); done) | exact rfl | omega | decide) only [zb_138_0, r_iload_1, r_iconst, r_inv_3_0, r_inv_3_1, r_inv_3_2, r_inv_3_3, r_inv_3_4, r_K0, r_K1, r_inv_1_0, r_inv_1_1, r_inv_1_2, r_inv_1_3, r_inv_1_4, r_aload_0, r_gf_578, r_gf_576, r_inv_2_0, r_inv_2_1, r_inv_2_2, r_inv_2_3, r_inv_2_4, r_iret, r_bret_0, r_bret_1, r_KX, c_within, q1, and_self, s2, s4, c_ref0, ↓reduceIte, not_true_eq_false, not_false_eq_true, Int.reduceEq, Int.reduceLE, Int.reduceLT, Int.reduceAdd, Int.reduceNeg, Int.reduceMul, Int.reduceSub, Int.reduceToNat]
    refine c_save (by omega) hHP hHC ho.2.1.1 ho.2.1.2 (by omega) hP hC ⟨by omega, by omega⟩ (fun V1 κ1 f1 hHP1 hHC1 => ?_)
    have u2 : V1 5 0 = .ref 6 := by rw [f1 5 (by omega)]; exact s2
    have hP1 := hP.frg f1 (by omega)
    have hC1 := hC.frg f1 (by omega)
    have hsw := zSteps_wf hW x.toNat
    simp (disch := first | assumption | exact zk_138 | ((repeat (first | exact z1n | refine z1I ?_ | refine z1R ?_)); done) | exact rfl | omega | decide) only [r_iload_1, r_iconst, r_inv_3_0, r_inv_3_1, r_inv_3_2, r_inv_3_3, r_inv_3_4, r_K0, r_K1, r_inv_1_0, r_inv_1_1, r_inv_1_2, r_inv_1_3, r_inv_1_4, r_aload_0, r_gf_578, r_gf_576, r_inv_2_0, r_inv_2_1, r_inv_2_2, r_inv_2_3, r_inv_2_4, r_iret, r_bret_0, r_bret_1, r_KX, u2, ↓reduceIte, not_true_eq_false, not_false_eq_true, Int.reduceEq, Int.reduceLE, Int.reduceLT, Int.reduceAdd, Int.reduceNeg, Int.reduceMul, Int.reduceSub, Int.reduceToNat]
    refine c_makeSteps (by omega) hP1 hC1 hW (by omega) (by omega) (fun V2 f2 hP2 hC2 => ?_)
    obtain ⟨y1, y2⟩ := hw0.mut ho hsw.2 f1 hHP1 hHC1 f2 hP2 hC2
    have := h0' s V2 y1 y2
    have u3 : V2 5 0 = .ref 6 := by rw [f2 5 (by omega)]; exact u2
    have tO2 := hP2.1
    have hcu := fun K => c_countUp (Q := K) (d := d) (by omega) hP2 hC2 hsw.2
    rw [show (zSteps σ.r x.toNat).n = σ.r.n from hsw.1.1] at hcu
    simp (disch := first | assumption | exact zk_138 | ((repeat (first | exact z1n | refine z1I ?_ | refine z1R ?_)); done) | exact rfl | omega | decide) only [r_iload_1, r_iconst, r_inv_3_0, r_inv_3_1, r_inv_3_2, r_inv_3_3, r_inv_3_4, r_K0, r_K1, r_inv_1_0, r_inv_1_1, r_inv_1_2, r_inv_1_3, r_inv_1_4, r_aload_0, r_gf_578, r_gf_576, r_inv_2_0, r_inv_2_1, r_inv_2_2, r_inv_2_3, r_inv_2_4, r_iret, r_bret_0, r_bret_1, r_KX, u3, hcu, ↓reduceIte, not_true_eq_false, not_false_eq_true, Int.reduceEq, Int.reduceLE, Int.reduceLT, Int.reduceAdd, Int.reduceNeg, Int.reduceMul, Int.reduceSub, Int.reduceToNat]
    exact this
  · obtain ⟨y1, y2⟩ := hw0.thr ho (10 + (2 : Int).toNat) (fun _ => .null)
    have := e1 q1 _ _ y1 y2
    simp (disch := first | assumption | exact zk_138 | ((repeat (first | exact z1n | refine z1I ?_ | refine z1R ?_)); done) | exact rfl | omega | decide) only [zb_138_0, r_iload_1, r_iconst, r_inv_3_0, r_inv_3_1, r_inv_3_2, r_inv_3_3, r_inv_3_4, r_K0, r_K1, r_inv_1_0, r_inv_1_1, r_inv_1_2, r_inv_1_3, r_inv_1_4, r_aload_0, r_gf_578, r_gf_576, r_inv_2_0, r_inv_2_1, r_inv_2_2, r_inv_2_3, r_inv_2_4, r_iret, r_bret_0, r_bret_1, r_KX, c_within, q1, c_refX, ↓reduceIte, not_true_eq_false, not_false_eq_true, Int.reduceEq, Int.reduceLE, Int.reduceLT, Int.reduceAdd, Int.reduceNeg, Int.reduceMul, Int.reduceSub, Int.reduceToNat]
    exact this
set_option maxRecDepth 20000 in
theorem w_tighten (hd : 20 ≤ d) (hw : zWc σ s V) (ho : zOK σ) (h0 : zRet Q (zTgC σ.r σ.r.n.toNat) (σ.sv (zTight σ.r)) s V) : zcall d 135 [.ref 5] (s, V) Q := by
  have hw0 := hw
  obtain ⟨hA, ⟨hP, hC⟩, hB2, hHH, hD, hE, hF, hG, hI, hJ, hs, t1, l1⟩ := hw
  obtain ⟨κ, hHP, hHC⟩ := id hHH
  have hW := ho.1
  obtain ⟨n0, n1, c0, c1⟩ := hW.1
  obtain ⟨⟨s1, s2, s3, s4, s5, s6, s7, s8, s9, s10⟩, hSA, hSM⟩ := id hA
  have tO := hP.1
  have tH := hHP.1
  have tG := hD.1
  have z := zExt.rf (s := s) (n := 1) (k := 6012)
  obtain ⟨d, rfl⟩ : ∃ e, d = e + 1 := ⟨d - 1, by omega⟩
  simp (disch := first | assumption | omega) only [zc_135]
  simp (disch := first | assumption | exact zk_135 | ((repeat (first | exact z1n | refine z1I ?_ | refine z1R ?_)); done) | exact rfl | omega | decide) only [zb_135_0, r_aload_0, r_gf_578, r_gf_576, r_inv_2_0, r_inv_2_1, r_inv_2_2, r_inv_2_3, r_inv_2_4, r_K0, r_K1, r_gf_579, r_iret, r_bret_0, r_bret_1, r_KX, s2, s4, ↓reduceIte, not_true_eq_false, not_false_eq_true, Int.reduceEq, Int.reduceLE, Int.reduceLT, Int.reduceAdd, Int.reduceNeg, Int.reduceMul, Int.reduceSub, Int.reduceToNat]
  refine c_save (by omega) hHP hHC ho.2.1.1 ho.2.1.2 (by omega) hP hC ⟨by omega, by omega⟩ (fun V1 κ1 f1 hHP1 hHC1 => ?_)
  have u2 : V1 5 0 = .ref 6 := by rw [f1 5 (by omega)]; exact s2
  have u5 : V1 5 3 = .ref 116 := by rw [f1 5 (by omega)]; exact s5
  have hP1 := hP.frg f1 (by omega)
  have hC1 := hC.frg f1 (by omega)
  have hD1 : zGP s V1 := hD.cg (n := 0) (k := 0) zExt.rf hs (f1 116 (by omega))
  have hsw := zTight_wf hW
  simp (disch := first | assumption | exact zk_135 | ((repeat (first | exact z1n | refine z1I ?_ | refine z1R ?_)); done) | exact rfl | omega | decide) only [r_aload_0, r_gf_578, r_gf_576, r_inv_2_0, r_inv_2_1, r_inv_2_2, r_inv_2_3, r_inv_2_4, r_K0, r_K1, r_gf_579, r_iret, r_bret_0, r_bret_1, r_KX, u2, u5, ↓reduceIte, not_true_eq_false, not_false_eq_true, Int.reduceEq, Int.reduceLE, Int.reduceLT, Int.reduceAdd, Int.reduceNeg, Int.reduceMul, Int.reduceSub, Int.reduceToNat]
  refine c_tightenLimits (by omega) (by omega) hD1 hP1 hC1 hW (fun V2 f2 hD2 hP2 hC2 => ?_)
  have hc : zcC (zHiQ σ.p + 1 : Nat) (zHiN σ.p σ.H σ.r) s V1 := ⟨κ1, hHP1, hHC1⟩
  obtain ⟨y1, y2⟩ := hw0.upd (ρ' := zTight σ.r) (V' := V2) (fun r r1 r2 => (f2 r (by omega) (by omega)).trans (f1 r (by omega))) ⟨hP2, hC2⟩ (hB2.ext z (by omega) (fun r r0 r1 => (f2 r (by omega) (by omega)).trans (f1 r (by omega)))) (hc.cg (ho.sv hsw.2).2.1.2 z hs (fun r r0 r1 => f2 r (by omega) (by omega))) hD2
  have := h0 s V2 y1 y2
  simp (disch := first | assumption | exact zk_135 | ((repeat (first | exact z1n | refine z1I ?_ | refine z1R ?_)); done) | exact rfl | omega | decide) only [r_aload_0, r_gf_578, r_gf_576, r_inv_2_0, r_inv_2_1, r_inv_2_2, r_inv_2_3, r_inv_2_4, r_K0, r_K1, r_gf_579, r_iret, r_bret_0, r_bret_1, r_KX, ↓reduceIte, not_true_eq_false, not_false_eq_true, Int.reduceEq, Int.reduceLE, Int.reduceLT, Int.reduceAdd, Int.reduceNeg, Int.reduceMul, Int.reduceSub, Int.reduceToNat]
  exact this
set_option maxRecDepth 20000 in
theorem w_undo (hd : 20 ≤ d) (hw : zWc σ s V) (ho : zOK σ) (e1 : σ.p = 0 → zThr Q 3 σ s V) (h0 : ¬ σ.p = 0 → zRet Q (σ.p - 1) (σ.H (σ.p.toNat - 1), (σ.p - 1, σ.H), σ.2.2) s V) : zcall d 154 [.ref 5] (s, V) Q := by
  have hw0 := hw
  obtain ⟨hA, ⟨hP, hC⟩, hB2, hHH, hD, hE, hF, hG, hI, hJ, hs, t1, l1⟩ := hw
  obtain ⟨κ, hHP, hHC⟩ := id hHH
  have hW := ho.1
  obtain ⟨n0, n1, c0, c1⟩ := hW.1
  obtain ⟨⟨s1, s2, s3, s4, s5, s6, s7, s8, s9, s10⟩, hSA, hSM⟩ := id hA
  have tO := hP.1
  have tH := hHP.1
  have tG := hD.1
  have z := zExt.rf (s := s) (n := 1) (k := 6012)
  obtain ⟨p0, p1⟩ := ho.2.1
  have hwe := fun K => c_whyEmpty (Q := K) (d := d - 1) (by omega) hHP hHC p0 p1
  obtain ⟨d, rfl⟩ : ∃ e, d = e + 1 := ⟨d - 1, by omega⟩
  simp (disch := first | assumption | omega) only [zc_154]
  have hwe : ∀ K, zcall d 34 [.ref 42] (s, V) K = if σ.p = 0 then K (.inl (some (zi 3))) (s, V) else K (.inl (some (zi 0))) (s, V) := fun K => c_whyEmpty (by omega) hHP hHC p0 p1
  by_cases q1 : σ.p = 0
  · obtain ⟨y1, y2⟩ := hw0.thr ho (10 + (3 : Int).toNat) (fun _ => .null)
    have := e1 q1 _ _ y1 y2
    simp (disch := first | assumption | exact zk_154 | ((repeat (first | exact z1n | refine z1I ?_ | refine z1R ?_)); done) | exact rfl | omega | decide) only [zb_154_0, r_aload_0, r_gf_578, r_inv_1_0, r_inv_1_1, r_inv_1_2, r_inv_1_3, r_inv_1_4, r_K0, r_K1, r_gf_576, r_inv_2_0, r_inv_2_1, r_inv_2_2, r_inv_2_3, r_inv_2_4, r_iret, r_bret_0, r_bret_1, r_KX, s2, s4, hwe, q1, c_refX, ↓reduceIte, not_true_eq_false, not_false_eq_true, Int.reduceEq, Int.reduceLE, Int.reduceLT, Int.reduceAdd, Int.reduceNeg, Int.reduceMul, Int.reduceSub, Int.reduceToNat]
    exact this
  · have h0' := h0 q1
    have hW1 := ho.2.2.1 (σ.p.toNat - 1) (by omega)
    obtain ⟨m0, m1, b0, b1⟩ := hW1.1
    simp (disch := first | assumption | exact zk_154 | ((repeat (first | exact z1n | refine z1I ?_ | refine z1R ?_)); done) | exact rfl | omega | decide) only [zb_154_0, r_aload_0, r_gf_578, r_inv_1_0, r_inv_1_1, r_inv_1_2, r_inv_1_3, r_inv_1_4, r_K0, r_K1, r_gf_576, r_inv_2_0, r_inv_2_1, r_inv_2_2, r_inv_2_3, r_inv_2_4, r_iret, r_bret_0, r_bret_1, r_KX, s2, s4, hwe, q1, c_ref0, ↓reduceIte, not_true_eq_false, not_false_eq_true, Int.reduceEq, Int.reduceLE, Int.reduceLT, Int.reduceAdd, Int.reduceNeg, Int.reduceMul, Int.reduceSub, Int.reduceToNat]
    refine c_restore (by omega) hHP hHC (by omega) p1 (by omega) hP ⟨m1, b1⟩ (fun V1 f1 hHP1 hHC1 hP1 hC1 => ?_)
    obtain ⟨y1, y2⟩ := hw0.upd (ρ' := σ.H (σ.p.toNat - 1)) (V' := V1) (p' := σ.p - 1) (H' := σ.H) (fun r r1 r2 => f1 r (by omega) (by omega)) ⟨hP1, hC1⟩ (hB2.ext z (by omega) (fun r r0 r1 => f1 r (by omega) (by omega))) ⟨κ, hHP1, hHC1⟩ (hD.cg z hs (f1 _ (by omega) (by omega)))
    have := h0' s V1 y1 y2
    simp (disch := first | assumption | exact zk_154 | ((repeat (first | exact z1n | refine z1I ?_ | refine z1R ?_)); done) | exact rfl | omega | decide) only [r_aload_0, r_gf_578, r_inv_1_0, r_inv_1_1, r_inv_1_2, r_inv_1_3, r_inv_1_4, r_K0, r_K1, r_gf_576, r_inv_2_0, r_inv_2_1, r_inv_2_2, r_inv_2_3, r_inv_2_4, r_iret, r_bret_0, r_bret_1, r_KX, ↓reduceIte, not_true_eq_false, not_false_eq_true, Int.reduceEq, Int.reduceLE, Int.reduceLT, Int.reduceAdd, Int.reduceNeg, Int.reduceMul, Int.reduceSub, Int.reduceToNat]
    exact this
theorem w_execute (hd : 20 ≤ d) (hw : zWc σ s V) (ho : zOK σ) {X : Int} (hx : zXis σ.T σ.m σ.r X) (h0 : zRet Q (zXr σ.T σ.m X) (zXst σ.T σ.m X σ.r, (zXp σ.T σ.m X σ.p, zXh σ.T σ.m X σ.p σ.H σ.r), σ.2.2) s V) : zcall d 153 [.ref 5] (s, V) Q := by
  have hw0 := hw
  obtain ⟨hA, ⟨hP, hC⟩, hB2, hHH, hD, hE, hF, hG, hI, hJ, hs, t1, l1⟩ := hw
  obtain ⟨κ, hHP, hHC⟩ := id hHH
  have hW := ho.1
  obtain ⟨n0, n1, c0, c1⟩ := hW.1
  obtain ⟨⟨s1, s2, s3, s4, s5, s6, s7, s8, s9, s10⟩, hSA, hSM⟩ := id hA
  have tO := hP.1
  have tH := hHP.1
  have tG := hD.1
  have z := zExt.rf (s := s) (n := 1) (k := 6012)
  obtain ⟨j1, j2, j3⟩ := id hJ
  refine c_execute (by omega) hA.1 hSA hP hC hW hB2 hHP hHC ho.2.1.1 ho.2.1.2 j1 j2 ho.2.2.2.1 j3 hx (fun V1 κ1 f1 hP1 hC1 hB1 hHP1 hHC1 hI1 => ?_)
  refine h0 s V1 ⟨z, fun r r1 r2 => f1 r (by omega) (by omega) (by omega)⟩ ⟨hA.cg z hs (fun r hr => f1 r (by omega) (by omega) (by omega)), ⟨hP1, hC1⟩, hB1, ⟨κ1, hHP1, hHC1⟩, hD.cg z hs (f1 _ (by omega) (by omega) (by omega)), hE.cg rfl z hs (fun r r0 r1 => f1 r (by omega) (by omega) (by omega)), hF.cg z hs (f1 _ (by omega) (by omega) (by omega)), hG.cg z hs (f1 _ (by omega) (by omega) (by omega)), hI.cg z hs (f1 _ (by omega) (by omega) (by omega)) (f1 _ (by omega) (by omega) (by omega)), ⟨j1.cg z hs ⟨by rw [f1 155 (by omega) (by omega) (by omega)], by rw [f1 155 (by omega) (by omega) (by omega)], by rw [f1 155 (by omega) (by omega) (by omega)]⟩ (f1 _ (by omega) (by omega) (by omega)), ⟨by rw [f1 155 (by omega) (by omega) (by omega)]; exact j2.1, fun i => by rw [f1 156 (by omega) (by omega) (by omega)]; exact j2.2 i⟩, hI1⟩, hs, t1, l1⟩
set_option maxRecDepth 20000 in
theorem w_spread (hd : 20 ≤ d) (hw : zWc σ s V) (ho : zOK σ) {x : Int} (hx : zI32 x) (e1 : ¬ (0 ≤ x ∧ x < σ.r.n) → zThr Q 1 σ s V) (e2 : (0 ≤ x ∧ x < σ.r.n) → ¬ σ.r.S 6 x = 1 → zThr Q 3 σ s V) (h0 : (0 ≤ x ∧ x < σ.r.n) → σ.r.S 6 x = 1 → zRet Q (zDown (zSteps (zGd σ.r x) 40) : Nat) σ s V) : zcall d 140 [.ref 5, zi x] (s, V) Q := by
  have hw0 := hw
  obtain ⟨hA, ⟨hP, hC⟩, hB2, hHH, hD, hE, hF, hG, hI, hJ, hs, t1, l1⟩ := hw
  obtain ⟨κ, hHP, hHC⟩ := id hHH
  have hW := ho.1
  obtain ⟨n0, n1, c0, c1⟩ := hW.1
  obtain ⟨⟨s1, s2, s3, s4, s5, s6, s7, s8, s9, s10⟩, hSA, hSM⟩ := id hA
  have tO := hP.1
  have tH := hHP.1
  have tG := hD.1
  have z := zExt.rf (s := s) (n := 1) (k := 6012)
  obtain ⟨d, rfl⟩ : ∃ e, d = e + 1 := ⟨d - 1, by omega⟩
  simp (disch := first | assumption | omega) only [zc_140]
  by_cases q1 : 0 ≤ x ∧ x < σ.r.n
  · by_cases q2 : σ.r.S 6 x = 1
    · have h0' := h0 q1 q2
      have tA := hB2.1
      simp (disch := first | assumption | exact zk_140 | ((repeat (first | exact z1n | refine z1I ?_ | refine z1R ?_)); done) | exact rfl | omega | decide) only [zb_140_0, r_aload_0, r_gf_576, r_iload_1, r_inv_2_0, r_inv_2_1, r_inv_2_2, r_inv_2_3, r_inv_2_4, r_K0, r_K1, r_inv_1_0, r_inv_1_1, r_inv_1_2, r_inv_1_3, r_inv_1_4, r_gf_577, r_iconst, r_iret, r_bret_0, r_bret_1, r_KX, s2, s3, c_whyNotGoDown (hC := hC), q1, q2, and_self, c_ref0, ↓reduceIte, not_true_eq_false, not_false_eq_true, Int.reduceEq, Int.reduceLE, Int.reduceLT, Int.reduceAdd, Int.reduceNeg, Int.reduceMul, Int.reduceSub, Int.reduceToNat]
      refine c_copyFrom (by omega) (by omega) hB2 hP hC ⟨n1, c1⟩ (fun V1 f1 hP1 hC1 => ?_)
      have u3 : V1 5 1 = .ref 24 := by rw [f1 5 (by omega)]; exact s3
      simp (disch := first | assumption | exact zk_140 | ((repeat (first | exact z1n | refine z1I ?_ | refine z1R ?_)); done) | exact rfl | omega | decide) only [r_aload_0, r_gf_576, r_iload_1, r_inv_2_0, r_inv_2_1, r_inv_2_2, r_inv_2_3, r_inv_2_4, r_K0, r_K1, r_inv_1_0, r_inv_1_1, r_inv_1_2, r_inv_1_3, r_inv_1_4, r_gf_577, r_iconst, r_iret, r_bret_0, r_bret_1, r_KX, u3, ↓reduceIte, not_true_eq_false, not_false_eq_true, Int.reduceEq, Int.reduceLE, Int.reduceLT, Int.reduceAdd, Int.reduceNeg, Int.reduceMul, Int.reduceSub, Int.reduceToNat]
      refine c_goDown (by omega) hP1 hC1 n1 q1.1 q1.2 (fun V2 f2 hP2 hC2 => ?_)
      have v3 : V2 5 1 = .ref 24 := by rw [f2 5 (by omega)]; exact u3
      simp (disch := first | assumption | exact zk_140 | ((repeat (first | exact z1n | refine z1I ?_ | refine z1R ?_)); done) | exact rfl | omega | decide) only [r_aload_0, r_gf_576, r_iload_1, r_inv_2_0, r_inv_2_1, r_inv_2_2, r_inv_2_3, r_inv_2_4, r_K0, r_K1, r_inv_1_0, r_inv_1_1, r_inv_1_2, r_inv_1_3, r_inv_1_4, r_gf_577, r_iconst, r_iret, r_bret_0, r_bret_1, r_KX, v3, ↓reduceIte, not_true_eq_false, not_false_eq_true, Int.reduceEq, Int.reduceLE, Int.reduceLT, Int.reduceAdd, Int.reduceNeg, Int.reduceMul, Int.reduceSub, Int.reduceToNat]
      refine c_makeSteps (by omega) hP2 hC2 hW.gd (by omega) (by omega) (fun V3 f3 hP3 hC3 => ?_)
      have w3 : V3 5 1 = .ref 24 := by rw [f3 5 (by omega)]; exact v3
      have hds := fun K => c_downSet (Q := K) (d := d) (by omega) hP3 hC3 (zSteps_wf hW.gd _).2
      rw [show (40 : Int).toNat = 40 from rfl] at hds
      obtain ⟨y1, y2⟩ := hw0.q1 ho (V' := V3) (fun r r1 r2 r3 => (f3 r (by omega)).trans ((f2 r (by omega)).trans (f1 r (by omega)))) hP3 (hD.cg z hs ((f3 116 (by omega)).trans ((f2 116 (by omega)).trans (f1 116 (by omega)))))
      have := h0' s V3 y1 y2
      have hdl := zDown_lt (zSteps_wf (hW.gd (x := x)) 40).2
      simp (disch := first | assumption | exact zk_140 | ((repeat (first | exact z1n | refine z1I ?_ | refine z1R ?_)); done) | exact rfl | omega | decide) only [r_aload_0, r_gf_576, r_iload_1, r_inv_2_0, r_inv_2_1, r_inv_2_2, r_inv_2_3, r_inv_2_4, r_K0, r_K1, r_inv_1_0, r_inv_1_1, r_inv_1_2, r_inv_1_3, r_inv_1_4, r_gf_577, r_iconst, r_iret, r_bret_0, r_bret_1, r_KX, w3, hds, ↓reduceIte, not_true_eq_false, not_false_eq_true, Int.reduceEq, Int.reduceLE, Int.reduceLT, Int.reduceAdd, Int.reduceNeg, Int.reduceMul, Int.reduceSub, Int.reduceToNat]
      exact this
    · obtain ⟨y1, y2⟩ := hw0.thr ho (10 + (3 : Int).toNat) (fun _ => .null)
      have := e2 q1 q2 _ _ y1 y2
      simp (disch := first | assumption | exact zk_140 | ((repeat (first | exact z1n | refine z1I ?_ | refine z1R ?_)); done) | exact rfl | omega | decide) only [zb_140_0, r_aload_0, r_gf_576, r_iload_1, r_inv_2_0, r_inv_2_1, r_inv_2_2, r_inv_2_3, r_inv_2_4, r_K0, r_K1, r_inv_1_0, r_inv_1_1, r_inv_1_2, r_inv_1_3, r_inv_1_4, r_gf_577, r_iconst, r_iret, r_bret_0, r_bret_1, r_KX, s2, s3, c_whyNotGoDown (hC := hC), q1, q2, and_self, c_refX, ↓reduceIte, not_true_eq_false, not_false_eq_true, Int.reduceEq, Int.reduceLE, Int.reduceLT, Int.reduceAdd, Int.reduceNeg, Int.reduceMul, Int.reduceSub, Int.reduceToNat]
      exact this
  · obtain ⟨y1, y2⟩ := hw0.thr ho (10 + (1 : Int).toNat) (fun _ => .null)
    have := e1 q1 _ _ y1 y2
    simp (disch := first | assumption | exact zk_140 | ((repeat (first | exact z1n | refine z1I ?_ | refine z1R ?_)); done) | exact rfl | omega | decide) only [zb_140_0, r_aload_0, r_gf_576, r_iload_1, r_inv_2_0, r_inv_2_1, r_inv_2_2, r_inv_2_3, r_inv_2_4, r_K0, r_K1, r_inv_1_0, r_inv_1_1, r_inv_1_2, r_inv_1_3, r_inv_1_4, r_gf_577, r_iconst, r_iret, r_bret_0, r_bret_1, r_KX, s2, s3, c_whyNotGoDown (hC := hC), q1, c_refX, ↓reduceIte, not_true_eq_false, not_false_eq_true, Int.reduceEq, Int.reduceLE, Int.reduceLT, Int.reduceAdd, Int.reduceNeg, Int.reduceMul, Int.reduceSub, Int.reduceToNat]
    exact this
set_option maxRecDepth 20000 in
theorem w_calm (hd : 20 ≤ d) (hw : zWc σ s V) (ho : zOK σ) {x : Int} (hx : zI32 x) (e1 : ¬ (0 ≤ x ∧ x < σ.r.n) → zThr Q 1 σ s V) (e2 : (0 ≤ x ∧ x < σ.r.n) → ¬ σ.r.S 6 x = 1 → zThr Q 3 σ s V) (h0 : (0 ≤ x ∧ x < σ.r.n) → σ.r.S 6 x = 1 → zRet Q (zCalm σ.r x 41) σ s V) : zcall d 141 [.ref 5, zi x] (s, V) Q := by
  have hw0 := hw
  obtain ⟨hA, ⟨hP, hC⟩, hB2, hHH, hD, hE, hF, hG, hI, hJ, hs, t1, l1⟩ := hw
  obtain ⟨κ, hHP, hHC⟩ := id hHH
  have hW := ho.1
  obtain ⟨n0, n1, c0, c1⟩ := hW.1
  obtain ⟨⟨s1, s2, s3, s4, s5, s6, s7, s8, s9, s10⟩, hSA, hSM⟩ := id hA
  have tO := hP.1
  have tH := hHP.1
  have tG := hD.1
  have z := zExt.rf (s := s) (n := 1) (k := 6012)
  obtain ⟨d, rfl⟩ : ∃ e, d = e + 1 := ⟨d - 1, by omega⟩
  simp (disch := first | assumption | omega) only [zc_141]
  by_cases q1 : 0 ≤ x ∧ x < σ.r.n
  · by_cases q2 : σ.r.S 6 x = 1
    · have h0' := h0 q1 q2
      have tA := hB2.1
      simp (disch := first | assumption | exact zk_141 | ((repeat (first | exact z1n | refine z1I ?_ | refine z1R ?_)); done) | exact rfl | omega | decide) only [zb_141_0, r_aload_0, r_gf_576, r_iload_1, r_inv_2_0, r_inv_2_1, r_inv_2_2, r_inv_2_3, r_inv_2_4, r_K0, r_K1, r_inv_1_0, r_inv_1_1, r_inv_1_2, r_inv_1_3, r_inv_1_4, r_gf_577, r_iconst, r_istore_2i, r_istore_2r, r_istore_2j, r_goto_w, r_iload_2, r_icmp_gt, r_if_eq, r_iret, r_bret_0, r_bret_1, r_iinc_2i, r_iinc_2r, r_iinc_2j, r_goto, r_KX, s2, s3, c_whyNotGoDown (hC := hC), q1, q2, and_self, c_ref0, ↓reduceIte, not_true_eq_false, not_false_eq_true, Int.reduceEq, Int.reduceLE, Int.reduceLT, Int.reduceAdd, Int.reduceNeg, Int.reduceMul, Int.reduceSub, Int.reduceToNat]
      refine c_copyFrom (by omega) (by omega) hB2 hP hC ⟨n1, c1⟩ (fun V1 f1 hP1 hC1 => ?_)
      have u3 : V1 5 1 = .ref 24 := by rw [f1 5 (by omega)]; exact s3
      simp (disch := first | assumption | exact zk_141 | ((repeat (first | exact z1n | refine z1I ?_ | refine z1R ?_)); done) | exact rfl | omega | decide) only [r_aload_0, r_gf_576, r_iload_1, r_inv_2_0, r_inv_2_1, r_inv_2_2, r_inv_2_3, r_inv_2_4, r_K0, r_K1, r_inv_1_0, r_inv_1_1, r_inv_1_2, r_inv_1_3, r_inv_1_4, r_gf_577, r_iconst, r_istore_2i, r_istore_2r, r_istore_2j, r_goto_w, r_iload_2, r_icmp_gt, r_if_eq, r_iret, r_bret_0, r_bret_1, r_iinc_2i, r_iinc_2r, r_iinc_2j, r_goto, r_KX, u3, ↓reduceIte, not_true_eq_false, not_false_eq_true, Int.reduceEq, Int.reduceLE, Int.reduceLT, Int.reduceAdd, Int.reduceNeg, Int.reduceMul, Int.reduceSub, Int.reduceToNat]
      refine c_goDown (by omega) hP1 hC1 n1 q1.1 q1.2 (fun V2 f2 hP2 hC2 => ?_)
      have F2 : zFr 24 V V2 := fun r hr => (f2 r hr).trans (f1 r hr)
      simp (disch := first | assumption | exact zk_141 | ((repeat (first | exact z1n | refine z1I ?_ | refine z1R ?_)); done) | exact rfl | omega | decide) only [r_aload_0, r_gf_576, r_iload_1, r_inv_2_0, r_inv_2_1, r_inv_2_2, r_inv_2_3, r_inv_2_4, r_K0, r_K1, r_inv_1_0, r_inv_1_1, r_inv_1_2, r_inv_1_3, r_inv_1_4, r_gf_577, r_iconst, r_istore_2i, r_istore_2r, r_istore_2j, r_goto_w, r_iload_2, r_icmp_gt, r_if_eq, r_iret, r_bret_0, r_bret_1, r_iinc_2i, r_iinc_2r, r_iinc_2j, r_goto, r_KX, ↓reduceIte, not_true_eq_false, not_false_eq_true, Int.reduceEq, Int.reduceLE, Int.reduceLT, Int.reduceAdd, Int.reduceNeg, Int.reduceMul, Int.reduceSub, Int.reduceToNat]
      have fin : ∀ V3, zFr 24 V V3 → zStP s V3 24 → ∀ a, a = zCalm σ.r x 41 → Q (.inl (some (zi a))) (s, V3) := by
        intro V3 F3 hP3 a ha
        obtain ⟨y1, y2⟩ := hw0.q1 ho (V' := V3) (fun r r1 r2 r3 => F3 r (by omega)) hP3 (hD.cg z hs (F3 116 (by omega)))
        rw [ha]
        exact h0' s V3 y1 y2
      have lo := z_iter (i := 1) (n := 41) (I := fun k (u : zV) => zFr 24 V u ∧ zStP s u 24 ∧ zStC (zSteps (zGd σ.r x) (k - 1).toNat) u 24 ∧ ∀ j, 1 ≤ j → j < k → zFal σ.r x j = 0) (P := fun k u => zwp (zcall d) 141 Q (zB 141 1) [.ref 5, zi x, zi k] [] (s, u)) (by omega)
      refine lo ?_ ?_ V2 ⟨F2, hP2, hC2, fun j _ _ => by omega⟩
      · rintro k V3 k0 k1 ⟨F3, hP3, hC3, hz⟩ ih
        have w3 : V3 5 1 = .ref 24 := by rw [F3 5 (by omega)]; exact s3
        have tA3 := hP3.1
        have hW3 := (zSteps_wf (hW.gd (x := x)) (k - 1).toNat).2
        conv => rw [zb_141_1]
        simp (disch := first | assumption | exact zk_141 | ((repeat (first | exact z1n | refine z1I ?_ | refine z1R ?_)); done) | exact rfl | omega | decide) only [r_aload_0, r_gf_576, r_iload_1, r_inv_2_0, r_inv_2_1, r_inv_2_2, r_inv_2_3, r_inv_2_4, r_K0, r_K1, r_inv_1_0, r_inv_1_1, r_inv_1_2, r_inv_1_3, r_inv_1_4, r_gf_577, r_iconst, r_istore_2i, r_istore_2r, r_istore_2j, r_goto_w, r_iload_2, r_icmp_gt, r_if_eq, r_iret, r_bret_0, r_bret_1, r_iinc_2i, r_iinc_2r, r_iinc_2j, r_goto, r_KX, w3, ↓reduceIte, not_true_eq_false, not_false_eq_true, Int.reduceEq, Int.reduceLE, Int.reduceLT, Int.reduceAdd, Int.reduceNeg, Int.reduceMul, Int.reduceSub, Int.reduceToNat]
        rw [if_neg (by omega)]
        refine c_makeStep (by omega) hP3 hC3 hW3 (fun V4 f4 hP4 hC4 => ?_)
        have hfl : (zStp (zSteps (zGd σ.r x) (k - 1).toNat) (zSteps (zGd σ.r x) (k - 1).toNat).n).2 = zFal σ.r x k := rfl
        rw [hfl]
        have F4 : zFr 24 V V4 := fun r hr => (f4 r hr).trans (F3 r hr)
        have hfb : zFal σ.r x k < 4096 := (zStp_inv hW3 hW3.1.1 (Int.le_refl _)).2.2
        by_cases c : zFal σ.r x k = 0
        · have := ih V4 ⟨F4, hP4, by
            have e : (k + 1 - 1).toNat = (k - 1).toNat + 1 := by omega
            rw [e]
            exact hC4, fun j j0 j1 => by
            by_cases e : j = k
            · rw [e]; exact c
            · exact hz j j0 (by omega)⟩
          have c' : ((zFal σ.r x k : Nat) : Int) = 0 := by omega
          simp (disch := first | assumption | exact zk_141 | ((repeat (first | exact z1n | refine z1I ?_ | refine z1R ?_)); done) | exact rfl | omega | decide) only [zb_141_2, r_aload_0, r_gf_576, r_iload_1, r_inv_2_0, r_inv_2_1, r_inv_2_2, r_inv_2_3, r_inv_2_4, r_K0, r_K1, r_inv_1_0, r_inv_1_1, r_inv_1_2, r_inv_1_3, r_inv_1_4, r_gf_577, r_iconst, r_istore_2i, r_istore_2r, r_istore_2j, r_goto_w, r_iload_2, r_icmp_gt, r_if_eq, r_iret, r_bret_0, r_bret_1, r_iinc_2i, r_iinc_2r, r_iinc_2j, r_goto, r_KX, c', ↓reduceIte, not_true_eq_false, not_false_eq_true, Int.reduceEq, Int.reduceLE, Int.reduceLT, Int.reduceAdd, Int.reduceNeg, Int.reduceMul, Int.reduceSub, Int.reduceToNat]
          exact this
        · have c' : ¬ ((zFal σ.r x k : Nat) : Int) = 0 := by omega
          have := fin V4 F4 hP4 k (by
            unfold zCalm
            have hf : zfst (fun j => decide (zFal σ.r x j ≠ 0)) 1 41 = k := zfst_eq k0 (by omega) (fun j j0 j1 => by simpa using hz j j0 j1) (fun _ => by simpa using c)
            rw [hf, if_pos k1])
          simp (disch := first | assumption | exact zk_141 | ((repeat (first | exact z1n | refine z1I ?_ | refine z1R ?_)); done) | exact rfl | omega | decide) only [r_aload_0, r_gf_576, r_iload_1, r_inv_2_0, r_inv_2_1, r_inv_2_2, r_inv_2_3, r_inv_2_4, r_K0, r_K1, r_inv_1_0, r_inv_1_1, r_inv_1_2, r_inv_1_3, r_inv_1_4, r_gf_577, r_iconst, r_istore_2i, r_istore_2r, r_istore_2j, r_goto_w, r_iload_2, r_icmp_gt, r_if_eq, r_iret, r_bret_0, r_bret_1, r_iinc_2i, r_iinc_2r, r_iinc_2j, r_goto, r_KX, c', ↓reduceIte, not_true_eq_false, not_false_eq_true, Int.reduceEq, Int.reduceLE, Int.reduceLT, Int.reduceAdd, Int.reduceNeg, Int.reduceMul, Int.reduceSub, Int.reduceToNat]
          exact this
      · rintro V3 ⟨F3, hP3, hC3, hz⟩
        have := fin V3 F3 hP3 (-1) (by
          unfold zCalm
          have hf : zfst (fun j => decide (zFal σ.r x j ≠ 0)) 1 41 = 41 := zfst_eq (by omega) (Int.le_refl _) (fun j j0 j1 => by simpa using hz j j0 j1) (fun c => by omega)
          rw [hf, if_neg (by omega)])
        simp (disch := first | assumption | exact zk_141 | ((repeat (first | exact z1n | refine z1I ?_ | refine z1R ?_)); done) | exact rfl | omega | decide) only [zb_141_1, zb_141_3, r_aload_0, r_gf_576, r_iload_1, r_inv_2_0, r_inv_2_1, r_inv_2_2, r_inv_2_3, r_inv_2_4, r_K0, r_K1, r_inv_1_0, r_inv_1_1, r_inv_1_2, r_inv_1_3, r_inv_1_4, r_gf_577, r_iconst, r_istore_2i, r_istore_2r, r_istore_2j, r_goto_w, r_iload_2, r_icmp_gt, r_if_eq, r_iret, r_bret_0, r_bret_1, r_iinc_2i, r_iinc_2r, r_iinc_2j, r_goto, r_KX, ↓reduceIte, not_true_eq_false, not_false_eq_true, Int.reduceEq, Int.reduceLE, Int.reduceLT, Int.reduceAdd, Int.reduceNeg, Int.reduceMul, Int.reduceSub, Int.reduceToNat]
        exact this
    · obtain ⟨y1, y2⟩ := hw0.thr ho (10 + (3 : Int).toNat) (fun _ => .null)
      have := e2 q1 q2 _ _ y1 y2
      simp (disch := first | assumption | exact zk_141 | ((repeat (first | exact z1n | refine z1I ?_ | refine z1R ?_)); done) | exact rfl | omega | decide) only [zb_141_0, zb_141_1, zb_141_2, zb_141_3, r_aload_0, r_gf_576, r_iload_1, r_inv_2_0, r_inv_2_1, r_inv_2_2, r_inv_2_3, r_inv_2_4, r_K0, r_K1, r_inv_1_0, r_inv_1_1, r_inv_1_2, r_inv_1_3, r_inv_1_4, r_gf_577, r_iconst, r_istore_2i, r_istore_2r, r_istore_2j, r_goto_w, r_iload_2, r_icmp_gt, r_if_eq, r_iret, r_bret_0, r_bret_1, r_iinc_2i, r_iinc_2r, r_iinc_2j, r_goto, r_KX, s2, s3, c_whyNotGoDown (hC := hC), q1, q2, and_self, c_refX, ↓reduceIte, not_true_eq_false, not_false_eq_true, Int.reduceEq, Int.reduceLE, Int.reduceLT, Int.reduceAdd, Int.reduceNeg, Int.reduceMul, Int.reduceSub, Int.reduceToNat]
      exact this
  · obtain ⟨y1, y2⟩ := hw0.thr ho (10 + (1 : Int).toNat) (fun _ => .null)
    have := e1 q1 _ _ y1 y2
    simp (disch := first | assumption | exact zk_141 | ((repeat (first | exact z1n | refine z1I ?_ | refine z1R ?_)); done) | exact rfl | omega | decide) only [zb_141_0, zb_141_1, zb_141_2, zb_141_3, r_aload_0, r_gf_576, r_iload_1, r_inv_2_0, r_inv_2_1, r_inv_2_2, r_inv_2_3, r_inv_2_4, r_K0, r_K1, r_inv_1_0, r_inv_1_1, r_inv_1_2, r_inv_1_3, r_inv_1_4, r_gf_577, r_iconst, r_istore_2i, r_istore_2r, r_istore_2j, r_goto_w, r_iload_2, r_icmp_gt, r_if_eq, r_iret, r_bret_0, r_bret_1, r_iinc_2i, r_iinc_2r, r_iinc_2j, r_goto, r_KX, s2, s3, c_whyNotGoDown (hC := hC), q1, c_refX, ↓reduceIte, not_true_eq_false, not_false_eq_true, Int.reduceEq, Int.reduceLE, Int.reduceLT, Int.reduceAdd, Int.reduceNeg, Int.reduceMul, Int.reduceSub, Int.reduceToNat]
    exact this
set_option maxRecDepth 20000 in
theorem w_services (hd : 20 ≤ d) (hw : zWc σ s V) (ho : zOK σ) : zcall d 121 [.ref 5] (s, V) Q = Q (.inl (some (zi σ.r.n))) (s, V) := by
  have hw0 := hw
  obtain ⟨hA, ⟨hP, hC⟩, hB2, hHH, hD, hE, hF, hG, hI, hJ, hs, t1, l1⟩ := hw
  obtain ⟨κ, hHP, hHC⟩ := id hHH
  have hW := ho.1
  obtain ⟨n0, n1, c0, c1⟩ := hW.1
  obtain ⟨⟨s1, s2, s3, s4, s5, s6, s7, s8, s9, s10⟩, hSA, hSM⟩ := id hA
  have tO := hP.1
  have tH := hHP.1
  have tG := hD.1
  have z := zExt.rf (s := s) (n := 1) (k := 6012)
  have vn := hC.1
  obtain ⟨d, rfl⟩ : ∃ e, d = e + 1 := ⟨d - 1, by omega⟩
  simp (disch := first | assumption | omega) only [zc_121]
  simp (disch := first | assumption | exact zk_121 | ((repeat (first | exact z1n | refine z1I ?_ | refine z1R ?_)); done) | exact rfl | omega | decide) only [zb_121_0, r_aload_0, r_gf_576, r_gf_448, r_iret, r_bret_0, r_bret_1, s2, vn, ↓reduceIte, not_true_eq_false, not_false_eq_true, Int.reduceEq, Int.reduceLE, Int.reduceLT, Int.reduceAdd, Int.reduceNeg, Int.reduceMul, Int.reduceSub, Int.reduceToNat]
set_option maxRecDepth 20000 in
theorem w_calls (hd : 20 ≤ d) (hw : zWc σ s V) (ho : zOK σ) : zcall d 122 [.ref 5] (s, V) Q = Q (.inl (some (zi σ.r.c))) (s, V) := by
  have hw0 := hw
  obtain ⟨hA, ⟨hP, hC⟩, hB2, hHH, hD, hE, hF, hG, hI, hJ, hs, t1, l1⟩ := hw
  obtain ⟨κ, hHP, hHC⟩ := id hHH
  have hW := ho.1
  obtain ⟨n0, n1, c0, c1⟩ := hW.1
  obtain ⟨⟨s1, s2, s3, s4, s5, s6, s7, s8, s9, s10⟩, hSA, hSM⟩ := id hA
  have tO := hP.1
  have tH := hHP.1
  have tG := hD.1
  have z := zExt.rf (s := s) (n := 1) (k := 6012)
  have vn := hC.2.1
  obtain ⟨d, rfl⟩ : ∃ e, d = e + 1 := ⟨d - 1, by omega⟩
  simp (disch := first | assumption | omega) only [zc_122]
  simp (disch := first | assumption | exact zk_122 | ((repeat (first | exact z1n | refine z1I ?_ | refine z1R ?_)); done) | exact rfl | omega | decide) only [zb_122_0, r_aload_0, r_gf_576, r_gf_449, r_iret, r_bret_0, r_bret_1, s2, vn, ↓reduceIte, not_true_eq_false, not_false_eq_true, Int.reduceEq, Int.reduceLE, Int.reduceLT, Int.reduceAdd, Int.reduceNeg, Int.reduceMul, Int.reduceSub, Int.reduceToNat]
set_option maxRecDepth 20000 in
theorem w_down (hd : 20 ≤ d) (hw : zWc σ s V) (ho : zOK σ) : zcall d 139 [.ref 5] (s, V) Q = Q (.inl (some (zi (zDown σ.r : Nat)))) (s, V) := by
  have hw0 := hw
  obtain ⟨hA, ⟨hP, hC⟩, hB2, hHH, hD, hE, hF, hG, hI, hJ, hs, t1, l1⟩ := hw
  obtain ⟨κ, hHP, hHC⟩ := id hHH
  have hW := ho.1
  obtain ⟨n0, n1, c0, c1⟩ := hW.1
  obtain ⟨⟨s1, s2, s3, s4, s5, s6, s7, s8, s9, s10⟩, hSA, hSM⟩ := id hA
  have tO := hP.1
  have tH := hHP.1
  have tG := hD.1
  have z := zExt.rf (s := s) (n := 1) (k := 6012)
  have hdl := zDown_lt hW
  obtain ⟨d, rfl⟩ : ∃ e, d = e + 1 := ⟨d - 1, by omega⟩
  simp (disch := first | assumption | omega) only [zc_139]
  simp (disch := first | assumption | exact zk_139 | ((repeat (first | exact z1n | refine z1I ?_ | refine z1R ?_)); done) | exact rfl | omega | decide) only [zb_139_0, r_aload_0, r_gf_576, r_inv_1_0, r_inv_1_1, r_inv_1_2, r_inv_1_3, r_inv_1_4, r_K0, r_K1, r_iret, r_bret_0, r_bret_1, r_KX, s2, c_downSet (hC := hC), ↓reduceIte, not_true_eq_false, not_false_eq_true, Int.reduceEq, Int.reduceLE, Int.reduceLT, Int.reduceAdd, Int.reduceNeg, Int.reduceMul, Int.reduceSub, Int.reduceToNat]
end
