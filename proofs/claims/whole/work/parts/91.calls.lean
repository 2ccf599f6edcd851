/-! CALLS OF THE CLASS, 3: looks -/
section
variable {d : Nat} {s : zS} {V : zV} {Q : zO → zH → Prop} {σ : zσ} {h : zH}
def zTell (ρ : zR) (x w : Int) : Int := if w ≤ 8 then ρ.S w x else if w = 9 then zdiv (ρ.S 0 x * ρ.S 1 x + 99) 100 else zCnt ρ x
set_option maxRecDepth 20000 in
theorem w_service (hd : 20 ≤ d) (hw : zWc σ s V) (ho : zOK σ) {x w : Int} (hx : zI32 x) (hw' : zI32 w) (e1 : ¬ (0 ≤ x ∧ x < σ.r.n) → zThr Q 1 σ s V) (e2 : (0 ≤ x ∧ x < σ.r.n) → ¬ (0 ≤ w ∧ w ≤ 10) → zThr Q 2 σ s V) (h0 : (0 ≤ x ∧ x < σ.r.n) → (0 ≤ w ∧ w ≤ 10) → zRet Q (zTell σ.r x w) σ s V) : zcall d 123 [.ref 5, zi x, zi w] (s, V) Q := by
  have hw0 := hw
  obtain ⟨hA, ⟨hP, hC⟩, hB2, hHH, hD, hE, hF, hG, hI, hJ, hs, t1, l1⟩ := hw
  obtain ⟨κ, hHP, hHC⟩ := id hHH
  have hW := ho.1
  obtain ⟨n0, n1, c0, c1⟩ := hW.1
  obtain ⟨⟨s1, s2, s3, s4, s5, s6, s7, s8, s9, s10⟩, hSA, hSM⟩ := id hA
  have tO := hP.1
  have tH := hHP.1
  have tG := hD.1
  have z := zExt.rf (s := s) (n := 1) (k := 6012)
  have i1 : zI32 0 := ⟨by omega, by omega⟩
  have i2 : zI32 10 := ⟨by omega, by omega⟩
  obtain ⟨d, rfl⟩ : ∃ e, d = e + 1 := ⟨d - 1, by omega⟩
  simp (disch := first | assumption | omega) only [zc_123]
  by_cases q1 : 0 ≤ x ∧ x < σ.r.n
  · by_cases q2 : 0 ≤ w ∧ w ≤ 10
    · have := h0 q1 q2 s V zSte.rf hw0
      obtain ⟨q3, q4⟩ := q1
      obtain ⟨q5, q6⟩ := q2
      have ht := fun K => c_tell (Q := K) (d := d) (by omega) hP hC hW q3 q4 q5 q6
      simp (disch := first | assumption | exact zk_123 | ((repeat (first | exact z1n | refine z1I ?_ | refine z1R ?_)); done) | exact rfl | omega | decide) only [zb_123_0, r_aload_0, r_gf_576, r_iload_1, r_inv_2_0, r_inv_2_1, r_inv_2_2, r_inv_2_3, r_inv_2_4, r_K0, r_K1, r_inv_1_0, r_inv_1_1, r_inv_1_2, r_inv_1_3, r_inv_1_4, r_iload_2, r_iconst, r_inv_3_0, r_inv_3_1, r_inv_3_2, r_inv_3_3, r_inv_3_4, r_iret, r_bret_0, r_bret_1, r_KX, s2, c_whyNoService (hC := hC), q3, q4, q5, q6, and_self, c_ref0, c_within, ht, ↓reduceIte, not_true_eq_false, not_false_eq_true, Int.reduceEq, Int.reduceLE, Int.reduceLT, Int.reduceAdd, Int.reduceNeg, Int.reduceMul, Int.reduceSub, Int.reduceToNat]
      exact this
    · obtain ⟨y1, y2⟩ := hw0.thr ho (10 + (2 : Int).toNat) (fun _ => .null)
      have := e2 q1 q2 _ _ y1 y2
      simp (disch := first | assumption | exact zk_123 | ((repeat (first | exact z1n | refine z1I ?_ | refine z1R ?_)); done) | exact rfl | omega | decide) only [zb_123_0, r_aload_0, r_gf_576, r_iload_1, r_inv_2_0, r_inv_2_1, r_inv_2_2, r_inv_2_3, r_inv_2_4, r_K0, r_K1, r_inv_1_0, r_inv_1_1, r_inv_1_2, r_inv_1_3, r_inv_1_4, r_iload_2, r_iconst, r_inv_3_0, r_inv_3_1, r_inv_3_2, r_inv_3_3, r_inv_3_4, r_iret, r_bret_0, r_bret_1, r_KX, s2, c_whyNoService (hC := hC), q1, q2, and_self, c_ref0, c_within, c_refX, ↓reduceIte, not_true_eq_false, not_false_eq_true, Int.reduceEq, Int.reduceLE, Int.reduceLT, Int.reduceAdd, Int.reduceNeg, Int.reduceMul, Int.reduceSub, Int.reduceToNat]
      exact this
  · obtain ⟨y1, y2⟩ := hw0.thr ho (10 + (1 : Int).toNat) (fun _ => .null)
    have := e1 q1 _ _ y1 y2
    simp (disch := first | assumption | exact zk_123 | ((repeat (first | exact z1n | refine z1I ?_ | refine z1R ?_)); done) | exact rfl | omega | decide) only [zb_123_0, r_aload_0, r_gf_576, r_iload_1, r_inv_2_0, r_inv_2_1, r_inv_2_2, r_inv_2_3, r_inv_2_4, r_K0, r_K1, r_inv_1_0, r_inv_1_1, r_inv_1_2, r_inv_1_3, r_inv_1_4, r_iload_2, r_iconst, r_inv_3_0, r_inv_3_1, r_inv_3_2, r_inv_3_3, r_inv_3_4, r_iret, r_bret_0, r_bret_1, r_KX, s2, c_whyNoService (hC := hC), q1, c_refX, ↓reduceIte, not_true_eq_false, not_false_eq_true, Int.reduceEq, Int.reduceLE, Int.reduceLT, Int.reduceAdd, Int.reduceNeg, Int.reduceMul, Int.reduceSub, Int.reduceToNat]
    exact this
def zTelK (ρ : zR) (k w : Int) : Int := if w < 5 then ρ.K w k else zLead ρ k
set_option maxRecDepth 20000 in
theorem w_call (hd : 20 ≤ d) (hw : zWc σ s V) (ho : zOK σ) {x w : Int} (hx : zI32 x) (hw' : zI32 w) (e1 : ¬ (0 ≤ x ∧ x < σ.r.c) → zThr Q 1 σ s V) (e2 : (0 ≤ x ∧ x < σ.r.c) → ¬ (0 ≤ w ∧ w ≤ 5) → zThr Q 2 σ s V) (h0 : (0 ≤ x ∧ x < σ.r.c) → (0 ≤ w ∧ w ≤ 5) → zRet Q (zTelK σ.r x w) σ s V) : zcall d 124 [.ref 5, zi x, zi w] (s, V) Q := by
  have hw0 := hw
  obtain ⟨hA, ⟨hP, hC⟩, hB2, hHH, hD, hE, hF, hG, hI, hJ, hs, t1, l1⟩ := hw
  obtain ⟨κ, hHP, hHC⟩ := id hHH
  have hW := ho.1
  obtain ⟨n0, n1, c0, c1⟩ := hW.1
  obtain ⟨⟨s1, s2, s3, s4, s5, s6, s7, s8, s9, s10⟩, hSA, hSM⟩ := id hA
  have tO := hP.1
  have tH := hHP.1
  have tG := hD.1
  have z := zExt.rf (s := s) (n := 1) (k := 6012)
  have i1 : zI32 0 := ⟨by omega, by omega⟩
  have i2 : zI32 5 := ⟨by omega, by omega⟩
  obtain ⟨d, rfl⟩ : ∃ e, d = e + 1 := ⟨d - 1, by omega⟩
  simp (disch := first | assumption | omega) only [zc_124]
  by_cases q1 : 0 ≤ x ∧ x < σ.r.c
  · by_cases q2 : 0 ≤ w ∧ w ≤ 5
    · have := h0 q1 q2 s V zSte.rf hw0
      obtain ⟨q3, q4⟩ := q1
      obtain ⟨q5, q6⟩ := q2
      obtain ⟨y, rfl⟩ : ∃ y : Nat, w = y := ⟨w.toNat, by omega⟩
      have vB := hP.2.2.2.2.1
      have tB := hP.2.2.2.2.2.1
      have lB := hP.2.2.2.2.2.2.1
      obtain ⟨v1, v2, v3⟩ := hP.2.2.2.2.2.2.2.2 y (by omega)
      have hB3 : s.tg (6 + 11) = 24 ∨ s.tg (6 + 11) = 25 ∨ s.tg (6 + 11) = 26 := Or.inl tB
      have ev : V (6 + 12 + y) x = zi (zTelK σ.r x y) := by
        unfold zTelK
        by_cases c : (y : Int) < 5
        · rw [if_pos c]
          exact hC.2.2.2.1 y (by omega) x q3 q4
        · rw [if_neg c, show y = 5 by omega]
          exact hC.2.2.2.2 x q3 q4
      generalize zTelK σ.r x y = A at ev this
      simp (disch := first | assumption | exact zk_124 | ((repeat (first | exact z1n | refine z1I ?_ | refine z1R ?_)); done) | exact rfl | omega | decide) only [zb_124_0, r_aload_0, r_gf_576, r_iload_1, r_inv_2_0, r_inv_2_1, r_inv_2_2, r_inv_2_3, r_inv_2_4, r_K0, r_K1, r_inv_1_0, r_inv_1_1, r_inv_1_2, r_inv_1_3, r_inv_1_4, r_iload_2, r_iconst, r_inv_3_0, r_inv_3_1, r_inv_3_2, r_inv_3_3, r_inv_3_4, r_gf_451, r_aaload, r_ial, r_ial30, r_ial32, r_iret, r_bret_0, r_bret_1, r_KX, s2, c_whyNoCall (hC := hC), q3, q4, q5, q6, and_self, c_ref0, c_within, vB, v1, ev, ↓reduceIte, not_true_eq_false, not_false_eq_true, Int.reduceEq, Int.reduceLE, Int.reduceLT, Int.reduceAdd, Int.reduceNeg, Int.reduceMul, Int.reduceSub, Int.reduceToNat]
      exact this
    · obtain ⟨y1, y2⟩ := hw0.thr ho (10 + (2 : Int).toNat) (fun _ => .null)
      have := e2 q1 q2 _ _ y1 y2
      simp (disch := first | assumption | exact zk_124 | ((repeat (first | exact z1n | refine z1I ?_ | refine z1R ?_)); done) | exact rfl | omega | decide) only [zb_124_0, r_aload_0, r_gf_576, r_iload_1, r_inv_2_0, r_inv_2_1, r_inv_2_2, r_inv_2_3, r_inv_2_4, r_K0, r_K1, r_inv_1_0, r_inv_1_1, r_inv_1_2, r_inv_1_3, r_inv_1_4, r_iload_2, r_iconst, r_inv_3_0, r_inv_3_1, r_inv_3_2, r_inv_3_3, r_inv_3_4, r_gf_451, r_aaload, r_ial, r_ial30, r_ial32, r_iret, r_bret_0, r_bret_1, r_KX, s2, c_whyNoCall (hC := hC), q1, q2, and_self, c_ref0, c_within, c_refX, ↓reduceIte, not_true_eq_false, not_false_eq_true, Int.reduceEq, Int.reduceLE, Int.reduceLT, Int.reduceAdd, Int.reduceNeg, Int.reduceMul, Int.reduceSub, Int.reduceToNat]
      exact this
  · obtain ⟨y1, y2⟩ := hw0.thr ho (10 + (1 : Int).toNat) (fun _ => .null)
    have := e1 q1 _ _ y1 y2
    simp (disch := first | assumption | exact zk_124 | ((repeat (first | exact z1n | refine z1I ?_ | refine z1R ?_)); done) | exact rfl | omega | decide) only [zb_124_0, r_aload_0, r_gf_576, r_iload_1, r_inv_2_0, r_inv_2_1, r_inv_2_2, r_inv_2_3, r_inv_2_4, r_K0, r_K1, r_inv_1_0, r_inv_1_1, r_inv_1_2, r_inv_1_3, r_inv_1_4, r_iload_2, r_iconst, r_inv_3_0, r_inv_3_1, r_inv_3_2, r_inv_3_3, r_inv_3_4, r_gf_451, r_aaload, r_ial, r_ial30, r_ial32, r_iret, r_bret_0, r_bret_1, r_KX, s2, c_whyNoCall (hC := hC), q1, c_refX, ↓reduceIte, not_true_eq_false, not_false_eq_true, Int.reduceEq, Int.reduceLE, Int.reduceLT, Int.reduceAdd, Int.reduceNeg, Int.reduceMul, Int.reduceSub, Int.reduceToNat]
    exact this
set_option maxRecDepth 20000 in
theorem w_depends (hd : 20 ≤ d) (hw : zWc σ s V) (ho : zOK σ) {x y : Int} (hx : zI32 x) (hy : zI32 y) (e1 : ¬ ((0 ≤ x ∧ x < σ.r.n) ∧ 0 ≤ y ∧ y < σ.r.n) → zThr Q 1 σ s V) (h0 : (0 ≤ x ∧ x < σ.r.n) ∧ 0 ≤ y ∧ y < σ.r.n → zRet Q (zb1 (zin (zNeeds σ.r x) y)) σ s V) : zcall d 125 [.ref 5, zi x, zi y] (s, V) Q := by
  have hw0 := hw
  obtain ⟨hA, ⟨hP, hC⟩, hB2, hHH, hD, hE, hF, hG, hI, hJ, hs, t1, l1⟩ := hw
  obtain ⟨κ, hHP, hHC⟩ := id hHH
  have hW := ho.1
  obtain ⟨n0, n1, c0, c1⟩ := hW.1
  obtain ⟨⟨s1, s2, s3, s4, s5, s6, s7, s8, s9, s10⟩, hSA, hSM⟩ := id hA
  have tO := hP.1
  have tH := hHP.1
  have tG := hD.1
  have z := zExt.rf (s := s) (n := 1) (k := 6012)
  obtain ⟨d, rfl⟩ : ∃ e, d = e + 1 := ⟨d - 1, by omega⟩
  simp (disch := first | assumption | omega) only [zc_125]
  by_cases q1 : 0 ≤ x ∧ x < σ.r.n
  · by_cases q2 : 0 ≤ y ∧ y < σ.r.n
    · have := h0 ⟨q1, q2⟩ s V zSte.rf hw0
      obtain ⟨q3, q4⟩ := q1
      obtain ⟨q5, q6⟩ := q2
      have hl := zNeeds_lt hW x
      simp (disch := first | assumption | exact zk_125 | ((repeat (first | exact z1n | refine z1I ?_ | refine z1R ?_)); done) | exact rfl | omega | decide) only [zb_125_0, r_aload_0, r_gf_576, r_iload_1, r_inv_2_0, r_inv_2_1, r_inv_2_2, r_inv_2_3, r_inv_2_4, r_K0, r_K1, r_inv_1_0, r_inv_1_1, r_inv_1_2, r_inv_1_3, r_inv_1_4, r_iload_2, r_iret, r_bret_0, r_bret_1, r_KX, s2, c_whyNoService (hC := hC), q3, q4, q5, q6, and_self, c_ref0, c_needs (hC := hC), c_contains, ↓reduceIte, not_true_eq_false, not_false_eq_true, Int.reduceEq, Int.reduceLE, Int.reduceLT, Int.reduceAdd, Int.reduceNeg, Int.reduceMul, Int.reduceSub, Int.reduceToNat]
      cases c : zin (zNeeds σ.r x) y
      · rw [c] at this
        rw [if_neg (by decide)]
        exact this
      · rw [c] at this
        rw [if_pos rfl]
        exact this
    · obtain ⟨y1, y2⟩ := hw0.thr ho (10 + (1 : Int).toNat) (fun _ => .null)
      have := e1 (fun c => q2 c.2) _ _ y1 y2
      simp (disch := first | assumption | exact zk_125 | ((repeat (first | exact z1n | refine z1I ?_ | refine z1R ?_)); done) | exact rfl | omega | decide) only [zb_125_0, r_aload_0, r_gf_576, r_iload_1, r_inv_2_0, r_inv_2_1, r_inv_2_2, r_inv_2_3, r_inv_2_4, r_K0, r_K1, r_inv_1_0, r_inv_1_1, r_inv_1_2, r_inv_1_3, r_inv_1_4, r_iload_2, r_iret, r_bret_0, r_bret_1, r_KX, s2, c_whyNoService (hC := hC), q1, q2, and_self, c_ref0, c_refX, ↓reduceIte, not_true_eq_false, not_false_eq_true, Int.reduceEq, Int.reduceLE, Int.reduceLT, Int.reduceAdd, Int.reduceNeg, Int.reduceMul, Int.reduceSub, Int.reduceToNat]
      exact this
  · obtain ⟨y1, y2⟩ := hw0.thr ho (10 + (1 : Int).toNat) (fun _ => .null)
    have := e1 (fun c => q1 c.1) _ _ y1 y2
    simp (disch := first | assumption | exact zk_125 | ((repeat (first | exact z1n | refine z1I ?_ | refine z1R ?_)); done) | exact rfl | omega | decide) only [zb_125_0, r_aload_0, r_gf_576, r_iload_1, r_inv_2_0, r_inv_2_1, r_inv_2_2, r_inv_2_3, r_inv_2_4, r_K0, r_K1, r_inv_1_0, r_inv_1_1, r_inv_1_2, r_inv_1_3, r_inv_1_4, r_iload_2, r_iret, r_bret_0, r_bret_1, r_KX, s2, c_whyNoService (hC := hC), q1, c_refX, ↓reduceIte, not_true_eq_false, not_false_eq_true, Int.reduceEq, Int.reduceLE, Int.reduceLT, Int.reduceAdd, Int.reduceNeg, Int.reduceMul, Int.reduceSub, Int.reduceToNat]
    exact this
set_option maxRecDepth 20000 in
theorem w_order (hd : 20 ≤ d) (hw : zWc σ s V) (ho : zOK σ) {x : Int} (hx : zI32 x) (h0 : zRet Q (if 0 ≤ x ∧ x < σ.r.n then zPlc σ.r x else -1) σ s V) : zcall d 126 [.ref 5, zi x] (s, V) Q := by
  have hw0 := hw
  obtain ⟨hA, ⟨hP, hC⟩, hB2, hHH, hD, hE, hF, hG, hI, hJ, hs, t1, l1⟩ := hw
  obtain ⟨κ, hHP, hHC⟩ := id hHH
  have hW := ho.1
  obtain ⟨n0, n1, c0, c1⟩ := hW.1
  obtain ⟨⟨s1, s2, s3, s4, s5, s6, s7, s8, s9, s10⟩, hSA, hSM⟩ := id hA
  have tO := hP.1
  have tH := hHP.1
  have tG := hD.1
  have z := zExt.rf (s := s) (n := 1) (k := 6012)
  obtain ⟨d, rfl⟩ : ∃ e, d = e + 1 := ⟨d - 1, by omega⟩
  simp (disch := first | assumption | omega) only [zc_126]
  simp (disch := first | assumption | exact zk_126 | ((repeat (first | exact z1n | refine z1I ?_ | refine z1R ?_)); done) | exact rfl | omega | decide) only [zb_126_0, r_aload_0, r_gf_579, r_gf_576, r_inv_2_0, r_inv_2_1, r_inv_2_2, r_inv_2_3, r_inv_2_4, r_K0, r_K1, r_iload_1, r_iret, r_bret_0, r_bret_1, r_KX, s2, s5, ↓reduceIte, not_true_eq_false, not_false_eq_true, Int.reduceEq, Int.reduceLE, Int.reduceLT, Int.reduceAdd, Int.reduceNeg, Int.reduceMul, Int.reduceSub, Int.reduceToNat]
  refine c_sort (by omega) (by omega) hD hP hC hW (fun V1 f1 hD1 hS1 => ?_)
  obtain ⟨y1, y2⟩ := hw0.q1 ho (V' := V1) (fun r r1 r2 r3 => f1 r (by omega)) (hB2.ext z (by omega) (fun r r0 r1 => f1 r (by omega))) hD1
  have := h0 s V1 y1 y2
  have u5 : V1 5 3 = .ref 116 := by rw [f1 5 (by omega)]; exact s5
  have hsa := fun K => c_sortedAt (Q := K) (d := d) (by omega) hD1 hS1 hW hx
  simp (disch := first | assumption | exact zk_126 | ((repeat (first | exact z1n | refine z1I ?_ | refine z1R ?_)); done) | exact rfl | omega | decide) only [r_aload_0, r_gf_579, r_gf_576, r_inv_2_0, r_inv_2_1, r_inv_2_2, r_inv_2_3, r_inv_2_4, r_K0, r_K1, r_iload_1, r_iret, r_bret_0, r_bret_1, r_KX, u5, hsa, ↓reduceIte, not_true_eq_false, not_false_eq_true, Int.reduceEq, Int.reduceLE, Int.reduceLT, Int.reduceAdd, Int.reduceNeg, Int.reduceMul, Int.reduceSub, Int.reduceToNat]
  by_cases q : 0 ≤ x ∧ x < σ.r.n
  · rw [if_pos q] at this ⊢
    exact this
  · rw [if_neg q] at this ⊢
    exact this
set_option maxRecDepth 20000 in
theorem w_level (hd : 20 ≤ d) (hw : zWc σ s V) (ho : zOK σ) {x : Int} (hx : zI32 x) (e1 : ¬ (0 ≤ x ∧ x < σ.r.n) → zThr Q 1 σ s V) (h0 : 0 ≤ x ∧ x < σ.r.n → zRet Q (zChn σ.r x) σ s V) : zcall d 127 [.ref 5, zi x] (s, V) Q := by
  have hw0 := hw
  obtain ⟨hA, ⟨hP, hC⟩, hB2, hHH, hD, hE, hF, hG, hI, hJ, hs, t1, l1⟩ := hw
  obtain ⟨κ, hHP, hHC⟩ := id hHH
  have hW := ho.1
  obtain ⟨n0, n1, c0, c1⟩ := hW.1
  obtain ⟨⟨s1, s2, s3, s4, s5, s6, s7, s8, s9, s10⟩, hSA, hSM⟩ := id hA
  have tO := hP.1
  have tH := hHP.1
  have tG := hD.1
  have z := zExt.rf (s := s) (n := 1) (k := 6012)
  obtain ⟨d, rfl⟩ : ∃ e, d = e + 1 := ⟨d - 1, by omega⟩
  simp (disch := first | assumption | omega) only [zc_127]
  by_cases q1 : 0 ≤ x ∧ x < σ.r.n
  · have h0' := h0 q1
    simp (disch := first | assumption | exact zk_127 | ((repeat (first | exact z1n | refine z1I ?_ | refine z1R ?_)); done) | exact rfl | omega | decide) only [zb_127_0, r_aload_0, r_gf_576, r_iload_1, r_inv_2_0, r_inv_2_1, r_inv_2_2, r_inv_2_3, r_inv_2_4, r_K0, r_K1, r_inv_1_0, r_inv_1_1, r_inv_1_2, r_inv_1_3, r_inv_1_4, r_gf_579, r_gf_131, r_ial, r_ial30, r_ial32, r_iret, r_bret_0, r_bret_1, r_KX, s2, s5, c_whyNoService (hC := hC), q1, and_self, c_ref0, ↓reduceIte, not_true_eq_false, not_false_eq_true, Int.reduceEq, Int.reduceLE, Int.reduceLT, Int.reduceAdd, Int.reduceNeg, Int.reduceMul, Int.reduceSub, Int.reduceToNat]
    refine c_measureChains (by omega) (by omega) hD hP hC hW (fun V1 f1 hD1 hb => ?_)
    obtain ⟨y1, y2⟩ := hw0.q1 ho (V' := V1) (fun r r1 r2 r3 => f1 r (by omega)) (hB2.ext z (by omega) (fun r r0 r1 => f1 r (by omega))) hD1
    have := h0' s V1 y1 y2
    have u5 : V1 5 3 = .ref 116 := by rw [f1 5 (by omega)]; exact s5
    have ev := hb x q1.1 q1.2
    obtain ⟨-, ⟨-, -, g3, -⟩, ⟨-, -, g4, -⟩, -, -, g5, -⟩ := hD1
    obtain ⟨q3, q4⟩ := q1
    generalize zChn σ.r x = A at ev this
    simp (disch := first | assumption | exact zk_127 | ((repeat (first | exact z1n | refine z1I ?_ | refine z1R ?_)); done) | exact rfl | omega | decide) only [r_aload_0, r_gf_576, r_iload_1, r_inv_2_0, r_inv_2_1, r_inv_2_2, r_inv_2_3, r_inv_2_4, r_K0, r_K1, r_inv_1_0, r_inv_1_1, r_inv_1_2, r_inv_1_3, r_inv_1_4, r_gf_579, r_gf_131, r_ial, r_ial30, r_ial32, r_iret, r_bret_0, r_bret_1, r_KX, u5, g3, ev, ↓reduceIte, not_true_eq_false, not_false_eq_true, Int.reduceEq, Int.reduceLE, Int.reduceLT, Int.reduceAdd, Int.reduceNeg, Int.reduceMul, Int.reduceSub, Int.reduceToNat]
    exact this
  · obtain ⟨y1, y2⟩ := hw0.thr ho (10 + (1 : Int).toNat) (fun _ => .null)
    have := e1 q1 _ _ y1 y2
    simp (disch := first | assumption | exact zk_127 | ((repeat (first | exact z1n | refine z1I ?_ | refine z1R ?_)); done) | exact rfl | omega | decide) only [zb_127_0, r_aload_0, r_gf_576, r_iload_1, r_inv_2_0, r_inv_2_1, r_inv_2_2, r_inv_2_3, r_inv_2_4, r_K0, r_K1, r_inv_1_0, r_inv_1_1, r_inv_1_2, r_inv_1_3, r_inv_1_4, r_gf_579, r_gf_131, r_ial, r_ial30, r_ial32, r_iret, r_bret_0, r_bret_1, r_KX, s2, s5, c_whyNoService (hC := hC), q1, c_refX, ↓reduceIte, not_true_eq_false, not_false_eq_true, Int.reduceEq, Int.reduceLE, Int.reduceLT, Int.reduceAdd, Int.reduceNeg, Int.reduceMul, Int.reduceSub, Int.reduceToNat]
    exact this
set_option maxRecDepth 20000 in
theorem w_worst (hd : 20 ≤ d) (hw : zWc σ s V) (ho : zOK σ) {x : Int} (hx : zI32 x) (e1 : ¬ (0 ≤ x ∧ x < σ.r.n) → zThr Q 1 σ s V) (h0 : 0 ≤ x ∧ x < σ.r.n → zRet Q (zBnd σ.r x) σ s V) : zcall d 133 [.ref 5, zi x] (s, V) Q := by
  have hw0 := hw
  obtain ⟨hA, ⟨hP, hC⟩, hB2, hHH, hD, hE, hF, hG, hI, hJ, hs, t1, l1⟩ := hw
  obtain ⟨κ, hHP, hHC⟩ := id hHH
  have hW := ho.1
  obtain ⟨n0, n1, c0, c1⟩ := hW.1
  obtain ⟨⟨s1, s2, s3, s4, s5, s6, s7, s8, s9, s10⟩, hSA, hSM⟩ := id hA
  have tO := hP.1
  have tH := hHP.1
  have tG := hD.1
  have z := zExt.rf (s := s) (n := 1) (k := 6012)
  obtain ⟨d, rfl⟩ : ∃ e, d = e + 1 := ⟨d - 1, by omega⟩
  simp (disch := first | assumption | omega) only [zc_133]
  by_cases q1 : 0 ≤ x ∧ x < σ.r.n
  · have h0' := h0 q1
    simp (disch := first | assumption | exact zk_133 | ((repeat (first | exact z1n | refine z1I ?_ | refine z1R ?_)); done) | exact rfl | omega | decide) only [zb_133_0, r_aload_0, r_gf_576, r_iload_1, r_inv_2_0, r_inv_2_1, r_inv_2_2, r_inv_2_3, r_inv_2_4, r_K0, r_K1, r_inv_1_0, r_inv_1_1, r_inv_1_2, r_inv_1_3, r_inv_1_4, r_gf_579, r_gf_132, r_ial, r_ial30, r_ial32, r_iret, r_bret_0, r_bret_1, r_KX, s2, s5, c_whyNoService (hC := hC), q1, and_self, c_ref0, ↓reduceIte, not_true_eq_false, not_false_eq_true, Int.reduceEq, Int.reduceLE, Int.reduceLT, Int.reduceAdd, Int.reduceNeg, Int.reduceMul, Int.reduceSub, Int.reduceToNat]
    refine c_measureBounds (by omega) (by omega) hD hP hC hW (fun V1 f1 hD1 hb => ?_)
    obtain ⟨y1, y2⟩ := hw0.q1 ho (V' := V1) (fun r r1 r2 r3 => f1 r (by omega)) (hB2.ext z (by omega) (fun r r0 r1 => f1 r (by omega))) hD1
    have := h0' s V1 y1 y2
    have u5 : V1 5 3 = .ref 116 := by rw [f1 5 (by omega)]; exact s5
    have ev := hb x q1.1 q1.2
    obtain ⟨-, ⟨-, -, -, g3⟩, ⟨-, -, -, g4⟩, -, -, -, g5⟩ := hD1
    obtain ⟨q3, q4⟩ := q1
    generalize zBnd σ.r x = A at ev this
    simp (disch := first | assumption | exact zk_133 | ((repeat (first | exact z1n | refine z1I ?_ | refine z1R ?_)); done) | exact rfl | omega | decide) only [r_aload_0, r_gf_576, r_iload_1, r_inv_2_0, r_inv_2_1, r_inv_2_2, r_inv_2_3, r_inv_2_4, r_K0, r_K1, r_inv_1_0, r_inv_1_1, r_inv_1_2, r_inv_1_3, r_inv_1_4, r_gf_579, r_gf_132, r_ial, r_ial30, r_ial32, r_iret, r_bret_0, r_bret_1, r_KX, u5, g3, ev, ↓reduceIte, not_true_eq_false, not_false_eq_true, Int.reduceEq, Int.reduceLE, Int.reduceLT, Int.reduceAdd, Int.reduceNeg, Int.reduceMul, Int.reduceSub, Int.reduceToNat]
    exact this
  · obtain ⟨y1, y2⟩ := hw0.thr ho (10 + (1 : Int).toNat) (fun _ => .null)
    have := e1 q1 _ _ y1 y2
    simp (disch := first | assumption | exact zk_133 | ((repeat (first | exact z1n | refine z1I ?_ | refine z1R ?_)); done) | exact rfl | omega | decide) only [zb_133_0, r_aload_0, r_gf_576, r_iload_1, r_inv_2_0, r_inv_2_1, r_inv_2_2, r_inv_2_3, r_inv_2_4, r_K0, r_K1, r_inv_1_0, r_inv_1_1, r_inv_1_2, r_inv_1_3, r_inv_1_4, r_gf_579, r_gf_132, r_ial, r_ial30, r_ial32, r_iret, r_bret_0, r_bret_1, r_KX, s2, s5, c_whyNoService (hC := hC), q1, c_refX, ↓reduceIte, not_true_eq_false, not_false_eq_true, Int.reduceEq, Int.reduceLE, Int.reduceLT, Int.reduceAdd, Int.reduceNeg, Int.reduceMul, Int.reduceSub, Int.reduceToNat]
    exact this
set_option maxRecDepth 20000 in
theorem w_unsound (hd : 20 ≤ d) (hw : zWc σ s V) (ho : zOK σ) (h0 : zRet Q (zUns σ.r) σ s V) : zcall d 134 [.ref 5] (s, V) Q := by
  have hw0 := hw
  obtain ⟨hA, ⟨hP, hC⟩, hB2, hHH, hD, hE, hF, hG, hI, hJ, hs, t1, l1⟩ := hw
  obtain ⟨κ, hHP, hHC⟩ := id hHH
  have hW := ho.1
  obtain ⟨n0, n1, c0, c1⟩ := hW.1
  obtain ⟨⟨s1, s2, s3, s4, s5, s6, s7, s8, s9, s10⟩, hSA, hSM⟩ := id hA
  have tO := hP.1
  have tH := hHP.1
  have tG := hD.1
  have z := zExt.rf (s := s) (n := 1) (k := 6012)
  obtain ⟨d, rfl⟩ : ∃ e, d = e + 1 := ⟨d - 1, by omega⟩
  simp (disch := first | assumption | omega) only [zc_134]
  simp (disch := first | assumption | exact zk_134 | ((repeat (first | exact z1n | refine z1I ?_ | refine z1R ?_)); done) | exact rfl | omega | decide) only [zb_134_0, r_aload_0, r_gf_579, r_gf_576, r_inv_2_0, r_inv_2_1, r_inv_2_2, r_inv_2_3, r_inv_2_4, r_K0, r_K1, r_iret, r_bret_0, r_bret_1, r_KX, s2, s5, ↓reduceIte, not_true_eq_false, not_false_eq_true, Int.reduceEq, Int.reduceLE, Int.reduceLT, Int.reduceAdd, Int.reduceNeg, Int.reduceMul, Int.reduceSub, Int.reduceToNat]
  refine c_measureBounds (by omega) (by omega) hD hP hC hW (fun V1 f1 hD1 hb => ?_)
  obtain ⟨y1, y2⟩ := hw0.q1 ho (V' := V1) (fun r r1 r2 r3 => f1 r (by omega)) (hB2.ext z (by omega) (fun r r0 r1 => f1 r (by omega))) hD1
  have := h0 s V1 y1 y2
  have u5 : V1 5 3 = .ref 116 := by rw [f1 5 (by omega)]; exact s5
  have u2 : V1 5 0 = .ref 6 := by rw [f1 5 (by omega)]; exact s2
  have hP1 := hP.frg f1 (by omega)
  have hC1 := hC.frg f1 (by omega)
  have hcu := fun K => c_countUnsound (Q := K) (d := d) (by omega) hD1 hP1 hC1 hW hb
  simp (disch := first | assumption | exact zk_134 | ((repeat (first | exact z1n | refine z1I ?_ | refine z1R ?_)); done) | exact rfl | omega | decide) only [r_aload_0, r_gf_579, r_gf_576, r_inv_2_0, r_inv_2_1, r_inv_2_2, r_inv_2_3, r_inv_2_4, r_K0, r_K1, r_iret, r_bret_0, r_bret_1, r_KX, u5, u2, hcu, ↓reduceIte, not_true_eq_false, not_false_eq_true, Int.reduceEq, Int.reduceLE, Int.reduceLT, Int.reduceAdd, Int.reduceNeg, Int.reduceMul, Int.reduceSub, Int.reduceToNat]
  exact this
/-- the part of the request -/
def zσ.rq (σ : zσ) (z : (Int × Bool) × zN) : zσ := (σ.1, σ.2.1, σ.2.2.1, true, z.1, z.2)
set_option maxRecDepth 20000 in
theorem w_request (hd : 80 ≤ d) (hw : zWc σ s V) (ho : zOK σ) {x b : Int} (hx : zI32 x) (hb : zI32 b) (e1 : ¬ (0 ≤ x ∧ x < σ.r.n) → zThr Q 1 σ s V) (e2 : 0 ≤ x ∧ x < σ.r.n → ¬ (0 ≤ b ∧ b ≤ 1000) → zThr Q 2 σ s V) (h0 : 0 ≤ x ∧ x < σ.r.n → 0 ≤ b ∧ b ≤ 1000 → zNok2 (zSv σ.r 12 x 0 b zN0).2 → zRet Q (zb1 (zSv σ.r 12 x 0 b zN0).1.2) (σ.rq (zSv σ.r 12 x 0 b zN0)) s V) : zcall d 128 [.ref 5, zi x, zi b] (s, V) Q := by
  have hw0 := hw
  obtain ⟨hA, ⟨hP, hC⟩, hB2, hHH, hD, hE, hF, hG, hI, hJ, hs, t1, l1⟩ := hw
  obtain ⟨κ, hHP, hHC⟩ := id hHH
  have hW := ho.1
  obtain ⟨n0, n1, c0, c1⟩ := hW.1
  obtain ⟨⟨s1, s2, s3, s4, s5, s6, s7, s8, s9, s10⟩, hSA, hSM⟩ := id hA
  have tO := hP.1
  have tH := hHP.1
  have tG := hD.1
  have z := zExt.rf (s := s) (n := 1) (k := 6012)
  have i1 : zI32 0 := ⟨by omega, by omega⟩
  have i2 : zI32 1000 := ⟨by omega, by omega⟩
  have tR := hE.1.1
  obtain ⟨d, rfl⟩ : ∃ e, d = e + 1 := ⟨d - 1, by omega⟩
  simp (disch := first | assumption | omega) only [zc_128]
  by_cases q1 : 0 ≤ x ∧ x < σ.r.n
  · by_cases q2 : 0 ≤ b ∧ b ≤ 1000
    · have h0' := h0 q1 q2
      simp (disch := first | assumption | exact zk_128 | ((repeat (first | exact z1n | refine z1I ?_ | refine z1R ?_)); done) | exact rfl | omega | decide) only [zb_128_0, r_aload_0, r_gf_576, r_iload_1, r_inv_2_0, r_inv_2_1, r_inv_2_2, r_inv_2_3, r_inv_2_4, r_K0, r_K1, r_inv_1_0, r_inv_1_1, r_inv_1_2, r_inv_1_3, r_inv_1_4, r_iload_2, r_iconst, r_inv_3_0, r_inv_3_1, r_inv_3_2, r_inv_3_3, r_inv_3_4, r_gf_580, r_inv_4_0, r_inv_4_1, r_inv_4_2, r_inv_4_3, r_inv_4_4, r_iret, r_bret_0, r_bret_1, r_KX, s2, s6, c_whyNoService (hC := hC), q1, q2, and_self, c_ref0, c_within, ↓reduceIte, not_true_eq_false, not_false_eq_true, Int.reduceEq, Int.reduceLE, Int.reduceLT, Int.reduceAdd, Int.reduceNeg, Int.reduceMul, Int.reduceSub, Int.reduceToNat]
      refine c_begin hW hP hC (by omega) hE.1 q1.1 q1.2 q2.1 q2.2 (by omega) (fun V1 f1 hR1 hN1 hk1 v0 v1 => ?_)
      generalize zSv σ.r 12 x 0 b zN0 = Z at h0' hN1 hk1 v0 v1
      obtain ⟨y1, y2⟩ := hw0.qr ho (V' := V1) (t := σ.2.2.1) (rq := (true, Z.1, Z.2)) z (fun r r1 r2 r3 => f1 r (by omega)) (hB2.ext z (by omega) (fun r r0 r1 => f1 r (by omega))) (hD.cg z hs (f1 _ (by omega))) ⟨hR1, v0, fun _ => ⟨hN1, v1⟩, fun c => by cases c⟩ (hF.cg z hs (f1 _ (by omega))) (hG.cg z hs (f1 _ (by omega))) (hI.cg z hs (f1 _ (by omega)) (f1 _ (by omega))) (hJ.cg z hs (fun r r0 r1 => f1 r (by omega)))
      have := h0' hk1 s V1 y1 y2
      cases c : Z.1.2
      · rw [c] at this
        rw [show zb1 false = 0 from rfl] at this ⊢
        simp (disch := first | assumption | exact zk_128 | ((repeat (first | exact z1n | refine z1I ?_ | refine z1R ?_)); done) | exact rfl | omega | decide) only [r_aload_0, r_gf_576, r_iload_1, r_inv_2_0, r_inv_2_1, r_inv_2_2, r_inv_2_3, r_inv_2_4, r_K0, r_K1, r_inv_1_0, r_inv_1_1, r_inv_1_2, r_inv_1_3, r_inv_1_4, r_iload_2, r_iconst, r_inv_3_0, r_inv_3_1, r_inv_3_2, r_inv_3_3, r_inv_3_4, r_gf_580, r_inv_4_0, r_inv_4_1, r_inv_4_2, r_inv_4_3, r_inv_4_4, r_iret, r_bret_0, r_bret_1, r_KX, ↓reduceIte, not_true_eq_false, not_false_eq_true, Int.reduceEq, Int.reduceLE, Int.reduceLT, Int.reduceAdd, Int.reduceNeg, Int.reduceMul, Int.reduceSub, Int.reduceToNat]
        exact this
      · rw [c] at this
        rw [show zb1 true = 1 from rfl] at this ⊢
        simp (disch := first | assumption | exact zk_128 | ((repeat (first | exact z1n | refine z1I ?_ | refine z1R ?_)); done) | exact rfl | omega | decide) only [r_aload_0, r_gf_576, r_iload_1, r_inv_2_0, r_inv_2_1, r_inv_2_2, r_inv_2_3, r_inv_2_4, r_K0, r_K1, r_inv_1_0, r_inv_1_1, r_inv_1_2, r_inv_1_3, r_inv_1_4, r_iload_2, r_iconst, r_inv_3_0, r_inv_3_1, r_inv_3_2, r_inv_3_3, r_inv_3_4, r_gf_580, r_inv_4_0, r_inv_4_1, r_inv_4_2, r_inv_4_3, r_inv_4_4, r_iret, r_bret_0, r_bret_1, r_KX, ↓reduceIte, not_true_eq_false, not_false_eq_true, Int.reduceEq, Int.reduceLE, Int.reduceLT, Int.reduceAdd, Int.reduceNeg, Int.reduceMul, Int.reduceSub, Int.reduceToNat]
        exact this
    · obtain ⟨y1, y2⟩ := hw0.thr ho (10 + (2 : Int).toNat) (fun _ => .null)
      have := e2 q1 q2 _ _ y1 y2
      simp (disch := first | assumption | exact zk_128 | ((repeat (first | exact z1n | refine z1I ?_ | refine z1R ?_)); done) | exact rfl | omega | decide) only [zb_128_0, r_aload_0, r_gf_576, r_iload_1, r_inv_2_0, r_inv_2_1, r_inv_2_2, r_inv_2_3, r_inv_2_4, r_K0, r_K1, r_inv_1_0, r_inv_1_1, r_inv_1_2, r_inv_1_3, r_inv_1_4, r_iload_2, r_iconst, r_inv_3_0, r_inv_3_1, r_inv_3_2, r_inv_3_3, r_inv_3_4, r_gf_580, r_inv_4_0, r_inv_4_1, r_inv_4_2, r_inv_4_3, r_inv_4_4, r_iret, r_bret_0, r_bret_1, r_KX, s2, s6, c_whyNoService (hC := hC), q1, q2, and_self, c_ref0, c_within, c_refX, ↓reduceIte, not_true_eq_false, not_false_eq_true, Int.reduceEq, Int.reduceLE, Int.reduceLT, Int.reduceAdd, Int.reduceNeg, Int.reduceMul, Int.reduceSub, Int.reduceToNat]
      exact this
  · obtain ⟨y1, y2⟩ := hw0.thr ho (10 + (1 : Int).toNat) (fun _ => .null)
    have := e1 q1 _ _ y1 y2
    simp (disch := first | assumption | exact zk_128 | ((repeat (first | exact z1n | refine z1I ?_ | refine z1R ?_)); done) | exact rfl | omega | decide) only [zb_128_0, r_aload_0, r_gf_576, r_iload_1, r_inv_2_0, r_inv_2_1, r_inv_2_2, r_inv_2_3, r_inv_2_4, r_K0, r_K1, r_inv_1_0, r_inv_1_1, r_inv_1_2, r_inv_1_3, r_inv_1_4, r_iload_2, r_iconst, r_inv_3_0, r_inv_3_1, r_inv_3_2, r_inv_3_3, r_inv_3_4, r_gf_580, r_inv_4_0, r_inv_4_1, r_inv_4_2, r_inv_4_3, r_inv_4_4, r_iret, r_bret_0, r_bret_1, r_KX, s2, s6, c_whyNoService (hC := hC), q1, c_refX, ↓reduceIte, not_true_eq_false, not_false_eq_true, Int.reduceEq, Int.reduceLE, Int.reduceLT, Int.reduceAdd, Int.reduceNeg, Int.reduceMul, Int.reduceSub, Int.reduceToNat]
    exact this
/-- whom a request blames -/
def zBlm (o : Int × Bool) (g : zN) : Int := if o.2 = true then -1 else if g.fa = -1 then g.ff else g.fa
def zRs9 (σ : zσ) (w : Int) : Int := if w = 0 then σ.o.1 else if w = 1 then σ.g.mi else if w = 2 then σ.g.fc else if w = 3 then σ.g.tc else if w = 4 then zBlm σ.o σ.g else σ.g.sv
set_option maxRecDepth 20000 in
theorem c_blamed (hd : 2 ≤ d) (hE : zcE σ s V) (hk : zNok2 σ.g) (o0 : 0 ≤ σ.o.1) (o1 : σ.o.1 ≤ 1000) (hq : σ.q = true) : zcall d 54 [.ref 121] (s, V) Q = Q (.inl (some (zi (zBlm σ.o σ.g)))) (s, V) := by
  obtain ⟨a1, a2, a3, -⟩ := hE
  obtain ⟨⟨⟨b1, b2, b3, b4, b5, b6⟩, -, -⟩, b7⟩ := a3 hq
  have tR := a1.1
  obtain ⟨-, -, k1, k2⟩ := hk
  obtain ⟨d, rfl⟩ : ∃ e, d = e + 1 := ⟨d - 1, by omega⟩
  simp (disch := first | assumption | omega) only [zc_54]
  have hg := fun K => c_isGood (Q := K) (h := (s, V)) (d := d) (r := σ.o) (by omega) o0 (by omega)
  unfold zBlm
  by_cases c : σ.o.2 = true
  · rw [if_pos c]
    simp (disch := first | assumption | exact zk_54 | ((repeat (first | exact z1n | refine z1I ?_ | refine z1R ?_)); done) | exact rfl | omega | decide) only [zb_54_0, zb_54_1, zb_54_2, zb_54_3, r_aload_0, r_gf_321, r_inv_1_0, r_inv_1_1, r_inv_1_2, r_inv_1_3, r_inv_1_4, r_K0, r_K1, r_if_eq, r_iconst, r_iret, r_bret_0, r_bret_1, r_gf_325, r_icmp_eq, r_goto, r_gf_324, r_goto_w, b7, hg, c, ↓reduceIte, not_true_eq_false, not_false_eq_true, Int.reduceEq, Int.reduceLE, Int.reduceLT, Int.reduceAdd, Int.reduceNeg, Int.reduceMul, Int.reduceSub, Int.reduceToNat]
  · rw [if_neg c]
    by_cases c2 : σ.g.fa = -1
    · rw [if_pos c2]
      simp (disch := first | assumption | exact zk_54 | ((repeat (first | exact z1n | refine z1I ?_ | refine z1R ?_)); done) | exact rfl | omega | decide) only [zb_54_0, zb_54_1, zb_54_2, zb_54_3, r_aload_0, r_gf_321, r_inv_1_0, r_inv_1_1, r_inv_1_2, r_inv_1_3, r_inv_1_4, r_K0, r_K1, r_if_eq, r_iconst, r_iret, r_bret_0, r_bret_1, r_gf_325, r_icmp_eq, r_goto, r_gf_324, r_goto_w, b7, hg, c, b3, b4, c2, Bool.false_eq_true, ↓reduceIte, not_true_eq_false, not_false_eq_true, Int.reduceEq, Int.reduceLE, Int.reduceLT, Int.reduceAdd, Int.reduceNeg, Int.reduceMul, Int.reduceSub, Int.reduceToNat]
    · rw [if_neg c2]
      simp (disch := first | assumption | exact zk_54 | ((repeat (first | exact z1n | refine z1I ?_ | refine z1R ?_)); done) | exact rfl | omega | decide) only [zb_54_0, zb_54_1, zb_54_2, zb_54_3, r_aload_0, r_gf_321, r_inv_1_0, r_inv_1_1, r_inv_1_2, r_inv_1_3, r_inv_1_4, r_K0, r_K1, r_if_eq, r_iconst, r_iret, r_bret_0, r_bret_1, r_gf_325, r_icmp_eq, r_goto, r_gf_324, r_goto_w, b7, hg, c, b3, b4, c2, Bool.false_eq_true, ↓reduceIte, not_true_eq_false, not_false_eq_true, Int.reduceEq, Int.reduceLE, Int.reduceLT, Int.reduceAdd, Int.reduceNeg, Int.reduceMul, Int.reduceSub, Int.reduceToNat]
set_option maxRecDepth 20000 in
theorem w_result (hd : 20 ≤ d) (hw : zWc σ s V) (ho : zOK σ) {w : Int} (hw' : zI32 w) (e1 : ¬ (0 ≤ w ∧ w ≤ 5) → zThr Q 2 σ s V) (e2 : 0 ≤ w ∧ w ≤ 5 → ¬ σ.q = true → zThr Q 3 σ s V) (h0 : 0 ≤ w ∧ w ≤ 5 → σ.q = true → zRet Q (zRs9 σ w) σ s V) : zcall d 129 [.ref 5, zi w] (s, V) Q := by
  have hw0 := hw
  obtain ⟨hA, ⟨hP, hC⟩, hB2, hHH, hD, hE, hF, hG, hI, hJ, hs, t1, l1⟩ := hw
  obtain ⟨κ, hHP, hHC⟩ := id hHH
  have hW := ho.1
  obtain ⟨n0, n1, c0, c1⟩ := hW.1
  obtain ⟨⟨s1, s2, s3, s4, s5, s6, s7, s8, s9, s10⟩, hSA, hSM⟩ := id hA
  have tO := hP.1
  have tH := hHP.1
  have tG := hD.1
  have z := zExt.rf (s := s) (n := 1) (k := 6012)
  have i1 : zI32 0 := ⟨by omega, by omega⟩
  have i2 : zI32 5 := ⟨by omega, by omega⟩
  have tR := hE.1.1
  have r0 := hE.2.1
  obtain ⟨d, rfl⟩ : ∃ e, d = e + 1 := ⟨d - 1, by omega⟩
  simp (disch := first | assumption | omega) only [zc_129]
  have hwn : ∀ K, zcall d 52 [.ref 121] (s, V) K = if σ.q = true then K (.inl (some (zi 0))) (s, V) else K (.inl (some (zi 3))) (s, V) := fun K => by
    obtain ⟨e, rfl⟩ : ∃ e, d = e + 1 := ⟨d - 1, by omega⟩
    rw [zc_52 tR]
    cases c : σ.q
    · rw [c, show zb1 false = 0 from rfl] at r0
      simp (disch := first | assumption | exact zk_52 | ((repeat (first | exact z1n | refine z1I ?_ | refine z1R ?_)); done) | exact rfl | omega | decide) only [zb_52_0, zb_52_1, zb_52_2, r_aload_0, r_gf_320, r_if_eq, r_iconst, r_goto, r_goto_w, r_iret, r_bret_0, r_bret_1, r0, Bool.false_eq_true, ↓reduceIte, not_true_eq_false, not_false_eq_true, Int.reduceEq, Int.reduceLE, Int.reduceLT, Int.reduceAdd, Int.reduceNeg, Int.reduceMul, Int.reduceSub, Int.reduceToNat]
    · rw [c, show zb1 true = 1 from rfl] at r0
      simp (disch := first | assumption | exact zk_52 | ((repeat (first | exact z1n | refine z1I ?_ | refine z1R ?_)); done) | exact rfl | omega | decide) only [zb_52_0, zb_52_1, zb_52_2, r_aload_0, r_gf_320, r_if_eq, r_iconst, r_goto, r_goto_w, r_iret, r_bret_0, r_bret_1, r0, ↓reduceIte, not_true_eq_false, not_false_eq_true, Int.reduceEq, Int.reduceLE, Int.reduceLT, Int.reduceAdd, Int.reduceNeg, Int.reduceMul, Int.reduceSub, Int.reduceToNat]
  by_cases q1 : 0 ≤ w ∧ w ≤ 5
  · by_cases q2 : σ.q = true
    · have := h0 q1 q2 s V zSte.rf hw0
      obtain ⟨hk, o0, o1⟩ := ho.2.2.2.2 q2
      obtain ⟨⟨⟨b1, b2, b3, b4, b5, b6⟩, -, -⟩, b7⟩ := hE.2.2.1 q2
      have hbl := fun K => c_blamed (Q := K) (d := d - 1) (by omega) hE hk o0 o1 q2
      have hab : ∀ K : zO → zH → Prop, K (.inl (some (zi (zRs9 σ w)))) (s, V) → zcall d 53 [.ref 121, zi w] (s, V) K := fun K hK => by
        obtain ⟨e, rfl⟩ : ∃ e, d = e + 1 := ⟨d - 1, by omega⟩
        rw [show e + 1 - 1 = e from rfl] at hbl
        have hto := fun K => c_timeOf (Q := K) (h := (s, V)) (d := e) (r := σ.o) (by omega) o0 (by omega)
        rw [zc_53 tR]
        rcases (by omega : w = 0 ∨ w = 1 ∨ w = 2 ∨ w = 3 ∨ w = 4 ∨ w = 5) with rfl | rfl | rfl | rfl | rfl | rfl
        · have hK : K (.inl (some (zi σ.o.1))) (s, V) := hK
          simp (disch := first | assumption | exact zk_53 | ((repeat (first | exact z1n | refine z1I ?_ | refine z1R ?_)); done) | exact rfl | omega | decide) only [zb_53_0, zb_53_1, zb_53_2, zb_53_3, zb_53_4, zb_53_5, zb_53_6, r_iload_1, r_sw, r_aload_0, r_gf_321, r_inv_1_0, r_inv_1_1, r_inv_1_2, r_inv_1_3, r_inv_1_4, r_K0, r_K1, r_iret, r_bret_0, r_bret_1, r_gf_322, r_gf_326, r_gf_327, r_gf_323, zsw, b7, hto, ↓reduceIte, not_true_eq_false, not_false_eq_true, Int.reduceEq, Int.reduceLE, Int.reduceLT, Int.reduceAdd, Int.reduceNeg, Int.reduceMul, Int.reduceSub, Int.reduceToNat]
          exact hK
        · have hK : K (.inl (some (zi σ.g.mi))) (s, V) := hK
          simp (disch := first | assumption | exact zk_53 | ((repeat (first | exact z1n | refine z1I ?_ | refine z1R ?_)); done) | exact rfl | omega | decide) only [zb_53_0, zb_53_1, zb_53_2, zb_53_3, zb_53_4, zb_53_5, zb_53_6, r_iload_1, r_sw, r_aload_0, r_gf_321, r_inv_1_0, r_inv_1_1, r_inv_1_2, r_inv_1_3, r_inv_1_4, r_K0, r_K1, r_iret, r_bret_0, r_bret_1, r_gf_322, r_gf_326, r_gf_327, r_gf_323, zsw, b1, ↓reduceIte, not_true_eq_false, not_false_eq_true, Int.reduceEq, Int.reduceLE, Int.reduceLT, Int.reduceAdd, Int.reduceNeg, Int.reduceMul, Int.reduceSub, Int.reduceToNat]
          exact hK
        · have hK : K (.inl (some (zi σ.g.fc))) (s, V) := hK
          simp (disch := first | assumption | exact zk_53 | ((repeat (first | exact z1n | refine z1I ?_ | refine z1R ?_)); done) | exact rfl | omega | decide) only [zb_53_0, zb_53_1, zb_53_2, zb_53_3, zb_53_4, zb_53_5, zb_53_6, r_iload_1, r_sw, r_aload_0, r_gf_321, r_inv_1_0, r_inv_1_1, r_inv_1_2, r_inv_1_3, r_inv_1_4, r_K0, r_K1, r_iret, r_bret_0, r_bret_1, r_gf_322, r_gf_326, r_gf_327, r_gf_323, zsw, b5, ↓reduceIte, not_true_eq_false, not_false_eq_true, Int.reduceEq, Int.reduceLE, Int.reduceLT, Int.reduceAdd, Int.reduceNeg, Int.reduceMul, Int.reduceSub, Int.reduceToNat]
          exact hK
        · have hK : K (.inl (some (zi σ.g.tc))) (s, V) := hK
          simp (disch := first | assumption | exact zk_53 | ((repeat (first | exact z1n | refine z1I ?_ | refine z1R ?_)); done) | exact rfl | omega | decide) only [zb_53_0, zb_53_1, zb_53_2, zb_53_3, zb_53_4, zb_53_5, zb_53_6, r_iload_1, r_sw, r_aload_0, r_gf_321, r_inv_1_0, r_inv_1_1, r_inv_1_2, r_inv_1_3, r_inv_1_4, r_K0, r_K1, r_iret, r_bret_0, r_bret_1, r_gf_322, r_gf_326, r_gf_327, r_gf_323, zsw, b6, ↓reduceIte, not_true_eq_false, not_false_eq_true, Int.reduceEq, Int.reduceLE, Int.reduceLT, Int.reduceAdd, Int.reduceNeg, Int.reduceMul, Int.reduceSub, Int.reduceToNat]
          exact hK
        · have hK : K (.inl (some (zi (zBlm σ.o σ.g)))) (s, V) := hK
          simp (disch := first | assumption | exact zk_53 | ((repeat (first | exact z1n | refine z1I ?_ | refine z1R ?_)); done) | exact rfl | omega | decide) only [zb_53_0, zb_53_1, zb_53_2, zb_53_3, zb_53_4, zb_53_5, zb_53_6, r_iload_1, r_sw, r_aload_0, r_gf_321, r_inv_1_0, r_inv_1_1, r_inv_1_2, r_inv_1_3, r_inv_1_4, r_K0, r_K1, r_iret, r_bret_0, r_bret_1, r_gf_322, r_gf_326, r_gf_327, r_gf_323, zsw, hbl, ↓reduceIte, not_true_eq_false, not_false_eq_true, Int.reduceEq, Int.reduceLE, Int.reduceLT, Int.reduceAdd, Int.reduceNeg, Int.reduceMul, Int.reduceSub, Int.reduceToNat]
          exact hK
        · have hK : K (.inl (some (zi σ.g.sv))) (s, V) := hK
          simp (disch := first | assumption | exact zk_53 | ((repeat (first | exact z1n | refine z1I ?_ | refine z1R ?_)); done) | exact rfl | omega | decide) only [zb_53_0, zb_53_1, zb_53_2, zb_53_3, zb_53_4, zb_53_5, zb_53_6, r_iload_1, r_sw, r_aload_0, r_gf_321, r_inv_1_0, r_inv_1_1, r_inv_1_2, r_inv_1_3, r_inv_1_4, r_K0, r_K1, r_iret, r_bret_0, r_bret_1, r_gf_322, r_gf_326, r_gf_327, r_gf_323, zsw, b2, ↓reduceIte, not_true_eq_false, not_false_eq_true, Int.reduceEq, Int.reduceLE, Int.reduceLT, Int.reduceAdd, Int.reduceNeg, Int.reduceMul, Int.reduceSub, Int.reduceToNat]
          exact hK
      simp (disch := first | assumption | exact zk_129 | ((repeat (first | exact z1n | refine z1I ?_ | refine z1R ?_)); done) | exact rfl | omega | decide) only [zb_129_0, r_iload_1, r_iconst, r_inv_3_0, r_inv_3_1, r_inv_3_2, r_inv_3_3, r_inv_3_4, r_K0, r_K1, r_inv_1_0, r_inv_1_1, r_inv_1_2, r_inv_1_3, r_inv_1_4, r_aload_0, r_gf_580, r_inv_2_0, r_inv_2_1, r_inv_2_2, r_inv_2_3, r_inv_2_4, r_iret, r_bret_0, r_bret_1, r_KX, s6, c_within, q1, and_self, c_ref0, hwn, q2, ↓reduceIte, not_true_eq_false, not_false_eq_true, Int.reduceEq, Int.reduceLE, Int.reduceLT, Int.reduceAdd, Int.reduceNeg, Int.reduceMul, Int.reduceSub, Int.reduceToNat]
      refine hab _ ?_
      generalize zRs9 σ w = A at this
      simp (disch := first | assumption | exact zk_129 | ((repeat (first | exact z1n | refine z1I ?_ | refine z1R ?_)); done) | exact rfl | omega | decide) only [r_iload_1, r_iconst, r_inv_3_0, r_inv_3_1, r_inv_3_2, r_inv_3_3, r_inv_3_4, r_K0, r_K1, r_inv_1_0, r_inv_1_1, r_inv_1_2, r_inv_1_3, r_inv_1_4, r_aload_0, r_gf_580, r_inv_2_0, r_inv_2_1, r_inv_2_2, r_inv_2_3, r_inv_2_4, r_iret, r_bret_0, r_bret_1, r_KX, ↓reduceIte, not_true_eq_false, not_false_eq_true, Int.reduceEq, Int.reduceLE, Int.reduceLT, Int.reduceAdd, Int.reduceNeg, Int.reduceMul, Int.reduceSub, Int.reduceToNat]
      exact this
    · have q2 : σ.q = false := by simpa using q2
      obtain ⟨y1, y2⟩ := hw0.thr ho (10 + (3 : Int).toNat) (fun _ => .null)
      have := e2 q1 (by rw [q2]; decide) _ _ y1 y2
      simp (disch := first | assumption | exact zk_129 | ((repeat (first | exact z1n | refine z1I ?_ | refine z1R ?_)); done) | exact rfl | omega | decide) only [zb_129_0, r_iload_1, r_iconst, r_inv_3_0, r_inv_3_1, r_inv_3_2, r_inv_3_3, r_inv_3_4, r_K0, r_K1, r_inv_1_0, r_inv_1_1, r_inv_1_2, r_inv_1_3, r_inv_1_4, r_aload_0, r_gf_580, r_inv_2_0, r_inv_2_1, r_inv_2_2, r_inv_2_3, r_inv_2_4, r_iret, r_bret_0, r_bret_1, r_KX, s6, c_within, q1, and_self, c_ref0, hwn, q2, Bool.false_eq_true, c_refX, ↓reduceIte, not_true_eq_false, not_false_eq_true, Int.reduceEq, Int.reduceLE, Int.reduceLT, Int.reduceAdd, Int.reduceNeg, Int.reduceMul, Int.reduceSub, Int.reduceToNat]
      exact this
  · obtain ⟨y1, y2⟩ := hw0.thr ho (10 + (2 : Int).toNat) (fun _ => .null)
    have := e1 q1 _ _ y1 y2
    simp (disch := first | assumption | exact zk_129 | ((repeat (first | exact z1n | refine z1I ?_ | refine z1R ?_)); done) | exact rfl | omega | decide) only [zb_129_0, r_iload_1, r_iconst, r_inv_3_0, r_inv_3_1, r_inv_3_2, r_inv_3_3, r_inv_3_4, r_K0, r_K1, r_inv_1_0, r_inv_1_1, r_inv_1_2, r_inv_1_3, r_inv_1_4, r_aload_0, r_gf_580, r_inv_2_0, r_inv_2_1, r_inv_2_2, r_inv_2_3, r_inv_2_4, r_iret, r_bret_0, r_bret_1, r_KX, s6, c_within, q1, c_refX, ↓reduceIte, not_true_eq_false, not_false_eq_true, Int.reduceEq, Int.reduceLE, Int.reduceLT, Int.reduceAdd, Int.reduceNeg, Int.reduceMul, Int.reduceSub, Int.reduceToNat]
    exact this
def zFlr (σ : zσ) (k w : Int) : Int := if σ.q = true ∧ 0 ≤ k ∧ k < σ.g.fc then σ.g.F w k else -1
def zTry9 (σ : zσ) (k w : Int) : Int := if σ.q = true ∧ 0 ≤ k ∧ k < σ.g.tc then σ.g.T w k else -1
set_option maxRecDepth 20000 in
theorem w_failure (hd : 20 ≤ d) (hw : zWc σ s V) (ho : zOK σ) {k w : Int} (hk' : zI32 k) (hw' : zI32 w) (e1 : ¬ (0 ≤ w ∧ w ≤ 3) → zThr Q 2 σ s V) (h0 : 0 ≤ w ∧ w ≤ 3 → zRet Q (zFlr σ k w) σ s V) : zcall d 130 [.ref 5, zi k, zi w] (s, V) Q := by
  have hw0 := hw
  obtain ⟨hA, ⟨hP, hC⟩, hB2, hHH, hD, hE, hF, hG, hI, hJ, hs, t1, l1⟩ := hw
  obtain ⟨κ, hHP, hHC⟩ := id hHH
  have hW := ho.1
  obtain ⟨n0, n1, c0, c1⟩ := hW.1
  obtain ⟨⟨s1, s2, s3, s4, s5, s6, s7, s8, s9, s10⟩, hSA, hSM⟩ := id hA
  have tO := hP.1
  have tH := hHP.1
  have tG := hD.1
  have z := zExt.rf (s := s) (n := 1) (k := 6012)
  have i1 : zI32 0 := ⟨by omega, by omega⟩
  have i2 : zI32 3 := ⟨by omega, by omega⟩
  obtain ⟨k1, k2⟩ := id hk'
  obtain ⟨tR, ⟨r8, r9⟩, ⟨r10, r11⟩, ⟨r12, r13⟩, r14, r15⟩ := hE.1
  obtain ⟨d, rfl⟩ : ∃ e, d = e + 1 := ⟨d - 1, by omega⟩
  simp (disch := first | assumption | omega) only [zc_130]
  by_cases q1 : 0 ≤ w ∧ w ≤ 3
  · have := h0 q1 s V zSte.rf hw0
    obtain ⟨y, rfl⟩ : ∃ y : Nat, w = y := ⟨w.toNat, by omega⟩
    have hab : ∀ K : zO → zH → Prop, K (.inl (some (zi (zFlr σ k y)))) (s, V) → zcall d 55 [.ref 121, zi k, zi (y : Nat)] (s, V) K := fun K hK => by
      obtain ⟨e, rfl⟩ : ∃ e, d = e + 1 := ⟨d - 1, by omega⟩
      rw [zc_55 tR]
      unfold zFlr at hK
      cases q2 : σ.q
      · obtain ⟨b1, -⟩ := hE.2.2.2 q2
        rw [q2, if_neg (by simp)] at hK
        simp (disch := first | assumption | exact zk_55 | ((repeat (first | exact z1n | refine z1I ?_ | refine z1R ?_)); done) | exact rfl | omega | decide) only [zb_55_0, zb_55_1, zb_55_2, zb_55_3, r_iload_1, r_if_lt, r_aload_0, r_gf_326, r_icmp_lt, r_goto_w, r_iconst, r_goto, r_gf_328, r_iload_2, r_aaload, r_ial, r_ial30, r_ial32, r_iret, r_bret_0, r_bret_1, b1, ↓reduceIte, not_true_eq_false, not_false_eq_true, Int.reduceEq, Int.reduceLE, Int.reduceLT, Int.reduceAdd, Int.reduceNeg, Int.reduceMul, Int.reduceSub, Int.reduceToNat]
        by_cases c : k < 0
        · rw [if_pos c]; exact hK
        · rw [if_neg c, if_neg c]; exact hK
      · obtain ⟨hk, o0, o1⟩ := ho.2.2.2.2 q2
        obtain ⟨⟨⟨-, -, -, -, b5, -⟩, b8, -⟩, -⟩ := hE.2.2.1 q2
        obtain ⟨f0, f1⟩ := hk.1
        by_cases c : 0 ≤ k ∧ k < σ.g.fc
        · rw [q2, if_pos ⟨rfl, c⟩] at hK
          have ev := b8 y (by omega) k c.1 c.2
          obtain ⟨m1, m2, m3⟩ := r14 y (by omega)
          have w7 : s.tg 122 = 24 ∨ s.tg 122 = 25 ∨ s.tg 122 = 26 := Or.inl r10
          obtain ⟨c1', c2'⟩ := c
          generalize σ.g.F y k = A at ev hK
          simp (disch := first | assumption | exact zk_55 | ((repeat (first | exact z1n | refine z1I ?_ | refine z1R ?_)); done) | exact rfl | omega | decide) only [zb_55_0, zb_55_1, zb_55_2, zb_55_3, r_iload_1, r_if_lt, r_aload_0, r_gf_326, r_icmp_lt, r_goto_w, r_iconst, r_goto, r_gf_328, r_iload_2, r_aaload, r_ial, r_ial30, r_ial32, r_iret, r_bret_0, r_bret_1, b5, r8, m1, ev, ↓reduceIte, not_true_eq_false, not_false_eq_true, Int.reduceEq, Int.reduceLE, Int.reduceLT, Int.reduceAdd, Int.reduceNeg, Int.reduceMul, Int.reduceSub, Int.reduceToNat]
          rw [if_neg (by omega), if_pos c2']
          exact hK
        · rw [q2, if_neg (fun z => c z.2)] at hK
          simp (disch := first | assumption | exact zk_55 | ((repeat (first | exact z1n | refine z1I ?_ | refine z1R ?_)); done) | exact rfl | omega | decide) only [zb_55_0, zb_55_1, zb_55_2, zb_55_3, r_iload_1, r_if_lt, r_aload_0, r_gf_326, r_icmp_lt, r_goto_w, r_iconst, r_goto, r_gf_328, r_iload_2, r_aaload, r_ial, r_ial30, r_ial32, r_iret, r_bret_0, r_bret_1, b5, ↓reduceIte, not_true_eq_false, not_false_eq_true, Int.reduceEq, Int.reduceLE, Int.reduceLT, Int.reduceAdd, Int.reduceNeg, Int.reduceMul, Int.reduceSub, Int.reduceToNat]
          by_cases c2 : k < 0
          · rw [if_pos c2]; exact hK
          · rw [if_neg c2, if_neg (by omega)]; exact hK
    simp (disch := first | assumption | exact zk_130 | ((repeat (first | exact z1n | refine z1I ?_ | refine z1R ?_)); done) | exact rfl | omega | decide) only [zb_130_0, r_iload_2, r_iconst, r_inv_3_0, r_inv_3_1, r_inv_3_2, r_inv_3_3, r_inv_3_4, r_K0, r_K1, r_inv_1_0, r_inv_1_1, r_inv_1_2, r_inv_1_3, r_inv_1_4, r_aload_0, r_gf_580, r_iload_1, r_iret, r_bret_0, r_bret_1, r_KX, s6, c_within, q1, and_self, c_ref0, ↓reduceIte, not_true_eq_false, not_false_eq_true, Int.reduceEq, Int.reduceLE, Int.reduceLT, Int.reduceAdd, Int.reduceNeg, Int.reduceMul, Int.reduceSub, Int.reduceToNat]
    refine hab _ ?_
    generalize zFlr σ k y = A at this
    simp (disch := first | assumption | exact zk_130 | ((repeat (first | exact z1n | refine z1I ?_ | refine z1R ?_)); done) | exact rfl | omega | decide) only [r_iload_2, r_iconst, r_inv_3_0, r_inv_3_1, r_inv_3_2, r_inv_3_3, r_inv_3_4, r_K0, r_K1, r_inv_1_0, r_inv_1_1, r_inv_1_2, r_inv_1_3, r_inv_1_4, r_aload_0, r_gf_580, r_iload_1, r_iret, r_bret_0, r_bret_1, r_KX, ↓reduceIte, not_true_eq_false, not_false_eq_true, Int.reduceEq, Int.reduceLE, Int.reduceLT, Int.reduceAdd, Int.reduceNeg, Int.reduceMul, Int.reduceSub, Int.reduceToNat]
    exact this
  · obtain ⟨y1, y2⟩ := hw0.thr ho (10 + (2 : Int).toNat) (fun _ => .null)
    have := e1 q1 _ _ y1 y2
    simp (disch := first | assumption | exact zk_130 | ((repeat (first | exact z1n | refine z1I ?_ | refine z1R ?_)); done) | exact rfl | omega | decide) only [zb_130_0, r_iload_2, r_iconst, r_inv_3_0, r_inv_3_1, r_inv_3_2, r_inv_3_3, r_inv_3_4, r_K0, r_K1, r_inv_1_0, r_inv_1_1, r_inv_1_2, r_inv_1_3, r_inv_1_4, r_aload_0, r_gf_580, r_iload_1, r_iret, r_bret_0, r_bret_1, r_KX, s6, c_within, q1, c_refX, ↓reduceIte, not_true_eq_false, not_false_eq_true, Int.reduceEq, Int.reduceLE, Int.reduceLT, Int.reduceAdd, Int.reduceNeg, Int.reduceMul, Int.reduceSub, Int.reduceToNat]
    exact this
set_option maxRecDepth 20000 in
theorem w_attempt (hd : 20 ≤ d) (hw : zWc σ s V) (ho : zOK σ) {k w : Int} (hk' : zI32 k) (hw' : zI32 w) (e1 : ¬ (0 ≤ w ∧ w ≤ 3) → zThr Q 2 σ s V) (h0 : 0 ≤ w ∧ w ≤ 3 → zRet Q (zTry9 σ k w) σ s V) : zcall d 131 [.ref 5, zi k, zi w] (s, V) Q := by
  have hw0 := hw
  obtain ⟨hA, ⟨hP, hC⟩, hB2, hHH, hD, hE, hF, hG, hI, hJ, hs, t1, l1⟩ := hw
  obtain ⟨κ, hHP, hHC⟩ := id hHH
  have hW := ho.1
  obtain ⟨n0, n1, c0, c1⟩ := hW.1
  obtain ⟨⟨s1, s2, s3, s4, s5, s6, s7, s8, s9, s10⟩, hSA, hSM⟩ := id hA
  have tO := hP.1
  have tH := hHP.1
  have tG := hD.1
  have z := zExt.rf (s := s) (n := 1) (k := 6012)
  have i1 : zI32 0 := ⟨by omega, by omega⟩
  have i2 : zI32 3 := ⟨by omega, by omega⟩
  obtain ⟨k1, k2⟩ := id hk'
  obtain ⟨tR, ⟨r8, r9⟩, ⟨r10, r11⟩, ⟨r12, r13⟩, r14, r15⟩ := hE.1
  obtain ⟨d, rfl⟩ : ∃ e, d = e + 1 := ⟨d - 1, by omega⟩
  simp (disch := first | assumption | omega) only [zc_131]
  by_cases q1 : 0 ≤ w ∧ w ≤ 3
  · have := h0 q1 s V zSte.rf hw0
    obtain ⟨y, rfl⟩ : ∃ y : Nat, w = y := ⟨w.toNat, by omega⟩
    have hab : ∀ K : zO → zH → Prop, K (.inl (some (zi (zTry9 σ k y)))) (s, V) → zcall d 56 [.ref 121, zi k, zi (y : Nat)] (s, V) K := fun K hK => by
      obtain ⟨e, rfl⟩ : ∃ e, d = e + 1 := ⟨d - 1, by omega⟩
      rw [zc_56 tR]
      unfold zTry9 at hK
      cases q2 : σ.q
      · obtain ⟨-, b1⟩ := hE.2.2.2 q2
        rw [q2, if_neg (by simp)] at hK
        simp (disch := first | assumption | exact zk_56 | ((repeat (first | exact z1n | refine z1I ?_ | refine z1R ?_)); done) | exact rfl | omega | decide) only [zb_56_0, zb_56_1, zb_56_2, zb_56_3, r_iload_1, r_if_lt, r_aload_0, r_gf_327, r_icmp_lt, r_goto_w, r_iconst, r_goto, r_gf_329, r_iload_2, r_aaload, r_ial, r_ial30, r_ial32, r_iret, r_bret_0, r_bret_1, b1, ↓reduceIte, not_true_eq_false, not_false_eq_true, Int.reduceEq, Int.reduceLE, Int.reduceLT, Int.reduceAdd, Int.reduceNeg, Int.reduceMul, Int.reduceSub, Int.reduceToNat]
        by_cases c : k < 0
        · rw [if_pos c]; exact hK
        · rw [if_neg c, if_neg c]; exact hK
      · obtain ⟨hk, o0, o1⟩ := ho.2.2.2.2 q2
        obtain ⟨⟨⟨-, -, -, -, -, b5⟩, -, b8⟩, -⟩ := hE.2.2.1 q2
        obtain ⟨f0, f1⟩ := hk.2.1
        by_cases c : 0 ≤ k ∧ k < σ.g.tc
        · rw [q2, if_pos ⟨rfl, c⟩] at hK
          have ev := b8 y (by omega) k c.1 c.2
          obtain ⟨m1, m2, m3⟩ := r15 y (by omega)
          have w7 : s.tg 127 = 24 ∨ s.tg 127 = 25 ∨ s.tg 127 = 26 := Or.inl r12
          obtain ⟨c1', c2'⟩ := c
          generalize σ.g.T y k = A at ev hK
          simp (disch := first | assumption | exact zk_56 | ((repeat (first | exact z1n | refine z1I ?_ | refine z1R ?_)); done) | exact rfl | omega | decide) only [zb_56_0, zb_56_1, zb_56_2, zb_56_3, r_iload_1, r_if_lt, r_aload_0, r_gf_327, r_icmp_lt, r_goto_w, r_iconst, r_goto, r_gf_329, r_iload_2, r_aaload, r_ial, r_ial30, r_ial32, r_iret, r_bret_0, r_bret_1, b5, r9, m1, ev, ↓reduceIte, not_true_eq_false, not_false_eq_true, Int.reduceEq, Int.reduceLE, Int.reduceLT, Int.reduceAdd, Int.reduceNeg, Int.reduceMul, Int.reduceSub, Int.reduceToNat]
          rw [if_neg (by omega), if_pos c2']
          exact hK
        · rw [q2, if_neg (fun z => c z.2)] at hK
          simp (disch := first | assumption | exact zk_56 | ((repeat (first | exact z1n | refine z1I ?_ | refine z1R ?_)); done) | exact rfl | omega | decide) only [zb_56_0, zb_56_1, zb_56_2, zb_56_3, r_iload_1, r_if_lt, r_aload_0, r_gf_327, r_icmp_lt, r_goto_w, r_iconst, r_goto, r_gf_329, r_iload_2, r_aaload, r_ial, r_ial30, r_ial32, r_iret, r_bret_0, r_bret_1, b5, ↓reduceIte, not_true_eq_false, not_false_eq_true, Int.reduceEq, Int.reduceLE, Int.reduceLT, Int.reduceAdd, Int.reduceNeg, Int.reduceMul, Int.reduceSub, Int.reduceToNat]
          by_cases c2 : k < 0
          · rw [if_pos c2]; exact hK
          · rw [if_neg c2, if_neg (by omega)]; exact hK
    simp (disch := first | assumption | exact zk_131 | ((repeat (first | exact z1n | refine z1I ?_ | refine z1R ?_)); done) | exact rfl | omega | decide) only [zb_131_0, r_iload_2, r_iconst, r_inv_3_0, r_inv_3_1, r_inv_3_2, r_inv_3_3, r_inv_3_4, r_K0, r_K1, r_inv_1_0, r_inv_1_1, r_inv_1_2, r_inv_1_3, r_inv_1_4, r_aload_0, r_gf_580, r_iload_1, r_iret, r_bret_0, r_bret_1, r_KX, s6, c_within, q1, and_self, c_ref0, ↓reduceIte, not_true_eq_false, not_false_eq_true, Int.reduceEq, Int.reduceLE, Int.reduceLT, Int.reduceAdd, Int.reduceNeg, Int.reduceMul, Int.reduceSub, Int.reduceToNat]
    refine hab _ ?_
    generalize zTry9 σ k y = A at this
    simp (disch := first | assumption | exact zk_131 | ((repeat (first | exact z1n | refine z1I ?_ | refine z1R ?_)); done) | exact rfl | omega | decide) only [r_iload_2, r_iconst, r_inv_3_0, r_inv_3_1, r_inv_3_2, r_inv_3_3, r_inv_3_4, r_K0, r_K1, r_inv_1_0, r_inv_1_1, r_inv_1_2, r_inv_1_3, r_inv_1_4, r_aload_0, r_gf_580, r_iload_1, r_iret, r_bret_0, r_bret_1, r_KX, ↓reduceIte, not_true_eq_false, not_false_eq_true, Int.reduceEq, Int.reduceLE, Int.reduceLT, Int.reduceAdd, Int.reduceNeg, Int.reduceMul, Int.reduceSub, Int.reduceToNat]
    exact this
  · obtain ⟨y1, y2⟩ := hw0.thr ho (10 + (2 : Int).toNat) (fun _ => .null)
    have := e1 q1 _ _ y1 y2
    simp (disch := first | assumption | exact zk_131 | ((repeat (first | exact z1n | refine z1I ?_ | refine z1R ?_)); done) | exact rfl | omega | decide) only [zb_131_0, r_iload_2, r_iconst, r_inv_3_0, r_inv_3_1, r_inv_3_2, r_inv_3_3, r_inv_3_4, r_K0, r_K1, r_inv_1_0, r_inv_1_1, r_inv_1_2, r_inv_1_3, r_inv_1_4, r_aload_0, r_gf_580, r_iload_1, r_iret, r_bret_0, r_bret_1, r_KX, s6, c_within, q1, c_refX, ↓reduceIte, not_true_eq_false, not_false_eq_true, Int.reduceEq, Int.reduceLE, Int.reduceLT, Int.reduceAdd, Int.reduceNeg, Int.reduceMul, Int.reduceSub, Int.reduceToNat]
    exact this
end
