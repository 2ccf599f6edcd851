/-! CALLS OF THE MODEL, 3 -/
section
variable {d : Nat} {s : zS} {V V' : zV} {Q K : zO → zH → Prop} {σ : zσ} {h : zH} {l : List Nat} {ks : List Int}
theorem zMrt.qt {x : Int} (hQ : zMrt Q x σ s V) (h : zWm σ s V) (hf : zFm [167, 169, 170, 171, 186, 187, 188, 189] [6, 36] V V') : Q (.inl (some (zi x))) (s, zput V' 164 6 (zi 0)) := hQ.qo h (hf.pf (by simp)) zput_at
set_option maxRecDepth 20000 in
theorem u_depends (hd : 20 ≤ d) (hm : zWm σ s V) (ho : zOK σ) {x y : Int} (hx : zI32 x) (hy : zI32 y) (e1 : ¬ ((0 ≤ x ∧ x < σ.r.n) ∧ 0 ≤ y ∧ y < σ.r.n) → zMth Q 1 σ s V) (h0 : (0 ≤ x ∧ x < σ.r.n) ∧ 0 ≤ y ∧ y < σ.r.n → zMrt Q (zb1 (zin (zNeeds σ.r x) y)) σ s V) : zcall d 205 [.ref 164, zi x, zi y] (s, V) Q := by
  obtain ⟨hM, hC, hI, hPa, hX, ⟨hi1, hi2⟩, hR⟩ := id hm
  have hW := ho.1
  obtain ⟨n0, n1, c0, c1⟩ := hW.1
  obtain ⟨p0, p1⟩ := ho.2.1
  have tM := hM.1
  have hH : ∀ k : Nat, (k : Int) < σ.p → (σ.H k).n ≤ 12 ∧ (σ.H k).c ≤ 24 := fun k hk => by
    obtain ⟨b0, b1, b2, b3⟩ := (ho.2.2.1 k hk).1
    exact ⟨b1, b3⟩
  obtain ⟨d, rfl⟩ : ∃ e, d = e + 1 := ⟨d - 1, by omega⟩
  simp (disch := first | assumption | omega) only [zc_205]
  by_cases q1 : 0 ≤ x ∧ x < σ.r.n
  · by_cases q2 : 0 ≤ y ∧ y < σ.r.n
    · have h0' := h0 ⟨q1, q2⟩
      have hf6 : zFm [169] [6] V (zput V 164 6 (zi 0)) := zFm.rf.pf (by simp)
      have hM1 := hM.fm hf6 (by decide)
      have hC1 := hC.fm hf6 (by decide)
      simp (disch := first | assumption | exact zk_205 | ((repeat (first | exact z1n | refine z1I ?_ | refine z1R ?_)); done) | exact rfl | omega | decide) only [zb_205_0, zb_205_4, r_aload_0, r_iload_1, r_inv_2_0, r_inv_2_1, r_inv_2_2, r_inv_2_3, r_inv_2_4, r_K0, r_K1, r_if_eq, r_iload_2, r_if_ne, r_goto_w, r_iconst, r_goto, r_iret, r_bret_0, r_bret_1, r_pf_646, r_inv_3_0, r_inv_3_1, r_inv_3_2, r_inv_3_3, r_inv_3_4, m_isService (hC := hC), q1, q2, and_self, ↓reduceIte, not_true_eq_false, not_false_eq_true, Int.reduceEq, Int.reduceLE, Int.reduceLT, Int.reduceAdd, Int.reduceNeg, Int.reduceMul, Int.reduceSub, Int.reduceToNat]
      refine m_dependsOn (by omega) hM1 hC1 hW q1.1 q1.2 q2.1 q2.2 (fun V2 f2 => ?_)
      have := h0'.qo hm (V' := V2) ((hf6.tr (f2.mono (by simp) (by simp))).mono (by decide) (by decide)) (by rw [f2.2 6 (by simp)]; exact zput_at)
      have e : (if zin (zNeeds σ.r x) y = true then (1 : Int) else 0) = zb1 (zin (zNeeds σ.r x) y) := rfl
      rw [e]
      cases c : zin (zNeeds σ.r x) y
      · rw [c, show zb1 false = 0 from rfl] at this
        rw [show zb1 false = 0 from rfl]
        simp (disch := first | assumption | exact zk_205 | ((repeat (first | exact z1n | refine z1I ?_ | refine z1R ?_)); done) | exact rfl | omega | decide) only [r_aload_0, r_iload_1, r_inv_2_0, r_inv_2_1, r_inv_2_2, r_inv_2_3, r_inv_2_4, r_K0, r_K1, r_if_eq, r_iload_2, r_if_ne, r_goto_w, r_iconst, r_goto, r_iret, r_bret_0, r_bret_1, r_pf_646, r_inv_3_0, r_inv_3_1, r_inv_3_2, r_inv_3_3, r_inv_3_4, ↓reduceIte, not_true_eq_false, not_false_eq_true, Int.reduceEq, Int.reduceLE, Int.reduceLT, Int.reduceAdd, Int.reduceNeg, Int.reduceMul, Int.reduceSub, Int.reduceToNat]
        exact this
      · rw [c, show zb1 true = 1 from rfl] at this
        rw [show zb1 true = 1 from rfl]
        simp (disch := first | assumption | exact zk_205 | ((repeat (first | exact z1n | refine z1I ?_ | refine z1R ?_)); done) | exact rfl | omega | decide) only [r_aload_0, r_iload_1, r_inv_2_0, r_inv_2_1, r_inv_2_2, r_inv_2_3, r_inv_2_4, r_K0, r_K1, r_if_eq, r_iload_2, r_if_ne, r_goto_w, r_iconst, r_goto, r_iret, r_bret_0, r_bret_1, r_pf_646, r_inv_3_0, r_inv_3_1, r_inv_3_2, r_inv_3_3, r_inv_3_4, ↓reduceIte, not_true_eq_false, not_false_eq_true, Int.reduceEq, Int.reduceLE, Int.reduceLT, Int.reduceAdd, Int.reduceNeg, Int.reduceMul, Int.reduceSub, Int.reduceToNat]
        exact this
    · have := (e1 (fun c => q2 c.2)).go hm
      simp (disch := first | assumption | exact zk_205 | ((repeat (first | exact z1n | refine z1I ?_ | refine z1R ?_)); done) | exact rfl | omega | decide) only [zb_205_0, zb_205_1, zb_205_2, zb_205_3, r_aload_0, r_iload_1, r_inv_2_0, r_inv_2_1, r_inv_2_2, r_inv_2_3, r_inv_2_4, r_K0, r_K1, r_if_eq, r_iload_2, r_if_ne, r_goto_w, r_iconst, r_goto, r_iret, r_bret_0, r_bret_1, r_pf_646, r_inv_3_0, r_inv_3_1, r_inv_3_2, r_inv_3_3, r_inv_3_4, m_isService (hC := hC), q1, q2, and_self, m_fails, ↓reduceIte, not_true_eq_false, not_false_eq_true, Int.reduceEq, Int.reduceLE, Int.reduceLT, Int.reduceAdd, Int.reduceNeg, Int.reduceMul, Int.reduceSub, Int.reduceToNat]
      exact this
  · have := (e1 (fun c => q1 c.1)).go hm
    simp (disch := first | assumption | exact zk_205 | ((repeat (first | exact z1n | refine z1I ?_ | refine z1R ?_)); done) | exact rfl | omega | decide) only [zb_205_0, zb_205_1, zb_205_2, zb_205_3, r_aload_0, r_iload_1, r_inv_2_0, r_inv_2_1, r_inv_2_2, r_inv_2_3, r_inv_2_4, r_K0, r_K1, r_if_eq, r_iload_2, r_if_ne, r_goto_w, r_iconst, r_goto, r_iret, r_bret_0, r_bret_1, r_pf_646, r_inv_3_0, r_inv_3_1, r_inv_3_2, r_inv_3_3, r_inv_3_4, m_isService (hC := hC), q1, m_fails, ↓reduceIte, not_true_eq_false, not_false_eq_true, Int.reduceEq, Int.reduceLE, Int.reduceLT, Int.reduceAdd, Int.reduceNeg, Int.reduceMul, Int.reduceSub, Int.reduceToNat]
    exact this
set_option maxRecDepth 20000 in
theorem u_order (hd : 20 ≤ d) (hm : zWm σ s V) (ho : zOK σ) {x : Int} (hx : zI32 x) (h0 : zMrt Q (if 0 ≤ x ∧ x < σ.r.n then zPlc σ.r x else -1) σ s V) : zcall d 206 [.ref 164, zi x] (s, V) Q := by
  obtain ⟨hM, hC, hI, hPa, hX, ⟨hi1, hi2⟩, hR⟩ := id hm
  have hW := ho.1
  obtain ⟨n0, n1, c0, c1⟩ := hW.1
  obtain ⟨p0, p1⟩ := ho.2.1
  have tM := hM.1
  have hH : ∀ k : Nat, (k : Int) < σ.p → (σ.H k).n ≤ 12 ∧ (σ.H k).c ≤ 24 := fun k hk => by
    obtain ⟨b0, b1, b2, b3⟩ := (ho.2.2.1 k hk).1
    exact ⟨b1, b3⟩
  obtain ⟨d, rfl⟩ : ∃ e, d = e + 1 := ⟨d - 1, by omega⟩
  simp (disch := first | assumption | omega) only [zc_206]
  simp (disch := first | assumption | exact zk_206 | ((repeat (first | exact z1n | refine z1I ?_ | refine z1R ?_)); done) | exact rfl | omega | decide) only [zb_206_0, r_aload_0, r_inv_1_0, r_inv_1_1, r_inv_1_2, r_inv_1_3, r_inv_1_4, r_K0, r_K1, r_iload_1, r_inv_2_0, r_inv_2_1, r_inv_2_2, r_inv_2_3, r_inv_2_4, r_if_eq, r_gf_648, r_ial, r_ial30, r_ial32, r_goto, r_iconst, r_goto_w, r_iret, r_bret_0, r_bret_1, ↓reduceIte, not_true_eq_false, not_false_eq_true, Int.reduceEq, Int.reduceLE, Int.reduceLT, Int.reduceAdd, Int.reduceNeg, Int.reduceMul, Int.reduceSub, Int.reduceToNat]
  refine m_laysOrder (by omega) hM hC hW (fun V1 f1 _ e2 => ?_)
  have hM1 := hM.fm f1 (by decide)
  have hC1 := hC.fm f1 (by decide)
  have := h0.qt hm (f1.mono (by decide) (by decide))
  have v8 : V1 164 8 = .ref 170 := (hM1.2 5 (by decide)).1
  have t8 : s.tg 170 = 20 := (hM1.2 5 (by decide)).2.1
  have l8 : s.ln 170 = 12 := (hM1.2 5 (by decide)).2.2
  by_cases q1 : 0 ≤ x ∧ x < σ.r.n
  · rw [if_pos q1] at this
    obtain ⟨q3, q4⟩ := q1
    have ev := e2 x q3 q4
    generalize zPlc σ.r x = A at ev this
    simp (disch := first | assumption | exact zk_206 | ((repeat (first | exact z1n | refine z1I ?_ | refine z1R ?_)); done) | exact rfl | omega | decide) only [zb_206_1, zb_206_2, r_aload_0, r_inv_1_0, r_inv_1_1, r_inv_1_2, r_inv_1_3, r_inv_1_4, r_K0, r_K1, r_iload_1, r_inv_2_0, r_inv_2_1, r_inv_2_2, r_inv_2_3, r_inv_2_4, r_if_eq, r_gf_648, r_ial, r_ial30, r_ial32, r_goto, r_iconst, r_goto_w, r_iret, r_bret_0, r_bret_1, m_isService (hC := hC1), q3, q4, and_self, v8, ev, m_tells, ↓reduceIte, not_true_eq_false, not_false_eq_true, Int.reduceEq, Int.reduceLE, Int.reduceLT, Int.reduceAdd, Int.reduceNeg, Int.reduceMul, Int.reduceSub, Int.reduceToNat]
    exact this
  · rw [if_neg q1] at this
    simp (disch := first | assumption | exact zk_206 | ((repeat (first | exact z1n | refine z1I ?_ | refine z1R ?_)); done) | exact rfl | omega | decide) only [zb_206_1, zb_206_2, r_aload_0, r_inv_1_0, r_inv_1_1, r_inv_1_2, r_inv_1_3, r_inv_1_4, r_K0, r_K1, r_iload_1, r_inv_2_0, r_inv_2_1, r_inv_2_2, r_inv_2_3, r_inv_2_4, r_if_eq, r_gf_648, r_ial, r_ial30, r_ial32, r_goto, r_iconst, r_goto_w, r_iret, r_bret_0, r_bret_1, m_isService (hC := hC1), q1, m_tells, ↓reduceIte, not_true_eq_false, not_false_eq_true, Int.reduceEq, Int.reduceLE, Int.reduceLT, Int.reduceAdd, Int.reduceNeg, Int.reduceMul, Int.reduceSub, Int.reduceToNat]
    exact this
set_option maxRecDepth 20000 in
theorem u_level (hd : 20 ≤ d) (hm : zWm σ s V) (ho : zOK σ) {x : Int} (hx : zI32 x) (e1 : ¬ (0 ≤ x ∧ x < σ.r.n) → zMth Q 1 σ s V) (h0 : 0 ≤ x ∧ x < σ.r.n → zMrt Q (zChn σ.r x) σ s V) : zcall d 208 [.ref 164, zi x] (s, V) Q := by
  obtain ⟨hM, hC, hI, hPa, hX, ⟨hi1, hi2⟩, hR⟩ := id hm
  have hW := ho.1
  obtain ⟨n0, n1, c0, c1⟩ := hW.1
  obtain ⟨p0, p1⟩ := ho.2.1
  have tM := hM.1
  have hH : ∀ k : Nat, (k : Int) < σ.p → (σ.H k).n ≤ 12 ∧ (σ.H k).c ≤ 24 := fun k hk => by
    obtain ⟨b0, b1, b2, b3⟩ := (ho.2.2.1 k hk).1
    exact ⟨b1, b3⟩
  obtain ⟨d, rfl⟩ : ∃ e, d = e + 1 := ⟨d - 1, by omega⟩
  simp (disch := first | assumption | omega) only [zc_208]
  by_cases q1 : 0 ≤ x ∧ x < σ.r.n
  · have h0' := h0 q1
    simp (disch := first | assumption | exact zk_208 | ((repeat (first | exact z1n | refine z1I ?_ | refine z1R ?_)); done) | exact rfl | omega | decide) only [zb_208_0, zb_208_1, r_aload_0, r_iload_1, r_inv_2_0, r_inv_2_1, r_inv_2_2, r_inv_2_3, r_inv_2_4, r_K0, r_K1, r_if_ne, r_iconst, r_iret, r_bret_0, r_bret_1, r_inv_1_0, r_inv_1_1, r_inv_1_2, r_inv_1_3, r_inv_1_4, r_gf_650, r_ial, r_ial30, r_ial32, m_isService (hC := hC), q1, and_self, ↓reduceIte, not_true_eq_false, not_false_eq_true, Int.reduceEq, Int.reduceLE, Int.reduceLT, Int.reduceAdd, Int.reduceNeg, Int.reduceMul, Int.reduceSub, Int.reduceToNat]
    refine m_laysLevels (by omega) hM hC hW (fun V1 f1 e2 => ?_)
    have hM1 := hM.fm f1 (by decide)
    have := h0'.qt hm (f1.mono (by decide) (by decide))
    have v8 : V1 164 10 = .ref 171 := (hM1.2 6 (by decide)).1
    have t8 : s.tg 171 = 20 := (hM1.2 6 (by decide)).2.1
    have l8 : s.ln 171 = 12 := (hM1.2 6 (by decide)).2.2
    have ev := e2 x q1.1 q1.2
    obtain ⟨q3, q4⟩ := q1
    generalize zChn σ.r x = A at ev this
    simp (disch := first | assumption | exact zk_208 | ((repeat (first | exact z1n | refine z1I ?_ | refine z1R ?_)); done) | exact rfl | omega | decide) only [r_aload_0, r_iload_1, r_inv_2_0, r_inv_2_1, r_inv_2_2, r_inv_2_3, r_inv_2_4, r_K0, r_K1, r_if_ne, r_iconst, r_iret, r_bret_0, r_bret_1, r_inv_1_0, r_inv_1_1, r_inv_1_2, r_inv_1_3, r_inv_1_4, r_gf_650, r_ial, r_ial30, r_ial32, v8, ev, m_tells, ↓reduceIte, not_true_eq_false, not_false_eq_true, Int.reduceEq, Int.reduceLE, Int.reduceLT, Int.reduceAdd, Int.reduceNeg, Int.reduceMul, Int.reduceSub, Int.reduceToNat]
    exact this
  · have := (e1 q1).go hm
    simp (disch := first | assumption | exact zk_208 | ((repeat (first | exact z1n | refine z1I ?_ | refine z1R ?_)); done) | exact rfl | omega | decide) only [zb_208_0, r_aload_0, r_iload_1, r_inv_2_0, r_inv_2_1, r_inv_2_2, r_inv_2_3, r_inv_2_4, r_K0, r_K1, r_if_ne, r_iconst, r_iret, r_bret_0, r_bret_1, r_inv_1_0, r_inv_1_1, r_inv_1_2, r_inv_1_3, r_inv_1_4, r_gf_650, r_ial, r_ial30, r_ial32, m_isService (hC := hC), q1, m_fails, ↓reduceIte, not_true_eq_false, not_false_eq_true, Int.reduceEq, Int.reduceLE, Int.reduceLT, Int.reduceAdd, Int.reduceNeg, Int.reduceMul, Int.reduceSub, Int.reduceToNat]
    exact this
set_option maxRecDepth 20000 in
theorem u_worst (hd : 20 ≤ d) (hm : zWm σ s V) (ho : zOK σ) {x : Int} (hx : zI32 x) (e1 : ¬ (0 ≤ x ∧ x < σ.r.n) → zMth Q 1 σ s V) (h0 : 0 ≤ x ∧ x < σ.r.n → zMrt Q (zBnd σ.r x) σ s V) : zcall d 225 [.ref 164, zi x] (s, V) Q := by
  obtain ⟨hM, hC, hI, hPa, hX, ⟨hi1, hi2⟩, hR⟩ := id hm
  have hW := ho.1
  obtain ⟨n0, n1, c0, c1⟩ := hW.1
  obtain ⟨p0, p1⟩ := ho.2.1
  have tM := hM.1
  have hH : ∀ k : Nat, (k : Int) < σ.p → (σ.H k).n ≤ 12 ∧ (σ.H k).c ≤ 24 := fun k hk => by
    obtain ⟨b0, b1, b2, b3⟩ := (ho.2.2.1 k hk).1
    exact ⟨b1, b3⟩
  obtain ⟨d, rfl⟩ : ∃ e, d = e + 1 := ⟨d - 1, by omega⟩
  simp (disch := first | assumption | omega) only [zc_225]
  by_cases q1 : 0 ≤ x ∧ x < σ.r.n
  · have h0' := h0 q1
    simp (disch := first | assumption | exact zk_225 | ((repeat (first | exact z1n | refine z1I ?_ | refine z1R ?_)); done) | exact rfl | omega | decide) only [zb_225_0, zb_225_1, r_aload_0, r_iload_1, r_inv_2_0, r_inv_2_1, r_inv_2_2, r_inv_2_3, r_inv_2_4, r_K0, r_K1, r_if_ne, r_iconst, r_iret, r_bret_0, r_bret_1, r_inv_1_0, r_inv_1_1, r_inv_1_2, r_inv_1_3, r_inv_1_4, r_gf_675, r_ial, r_ial30, r_ial32, m_isService (hC := hC), q1, and_self, ↓reduceIte, not_true_eq_false, not_false_eq_true, Int.reduceEq, Int.reduceLE, Int.reduceLT, Int.reduceAdd, Int.reduceNeg, Int.reduceMul, Int.reduceSub, Int.reduceToNat]
    refine m_laysBounds (by omega) hM hC hW (fun V1 f1 e2 => ?_)
    have hM1 := hM.fm f1 (by decide)
    have := h0'.qt hm (f1.mono (by decide) (by decide))
    have v8 : V1 164 35 = .ref 186 := (hM1.2 21 (by decide)).1
    have t8 : s.tg 186 = 20 := (hM1.2 21 (by decide)).2.1
    have l8 : s.ln 186 = 12 := (hM1.2 21 (by decide)).2.2
    have ev := e2 x q1.1 q1.2
    obtain ⟨q3, q4⟩ := q1
    generalize zBnd σ.r x = A at ev this
    simp (disch := first | assumption | exact zk_225 | ((repeat (first | exact z1n | refine z1I ?_ | refine z1R ?_)); done) | exact rfl | omega | decide) only [r_aload_0, r_iload_1, r_inv_2_0, r_inv_2_1, r_inv_2_2, r_inv_2_3, r_inv_2_4, r_K0, r_K1, r_if_ne, r_iconst, r_iret, r_bret_0, r_bret_1, r_inv_1_0, r_inv_1_1, r_inv_1_2, r_inv_1_3, r_inv_1_4, r_gf_675, r_ial, r_ial30, r_ial32, v8, ev, m_tells, ↓reduceIte, not_true_eq_false, not_false_eq_true, Int.reduceEq, Int.reduceLE, Int.reduceLT, Int.reduceAdd, Int.reduceNeg, Int.reduceMul, Int.reduceSub, Int.reduceToNat]
    exact this
  · have := (e1 q1).go hm
    simp (disch := first | assumption | exact zk_225 | ((repeat (first | exact z1n | refine z1I ?_ | refine z1R ?_)); done) | exact rfl | omega | decide) only [zb_225_0, r_aload_0, r_iload_1, r_inv_2_0, r_inv_2_1, r_inv_2_2, r_inv_2_3, r_inv_2_4, r_K0, r_K1, r_if_ne, r_iconst, r_iret, r_bret_0, r_bret_1, r_inv_1_0, r_inv_1_1, r_inv_1_2, r_inv_1_3, r_inv_1_4, r_gf_675, r_ial, r_ial30, r_ial32, m_isService (hC := hC), q1, m_fails, ↓reduceIte, not_true_eq_false, not_false_eq_true, Int.reduceEq, Int.reduceLE, Int.reduceLT, Int.reduceAdd, Int.reduceNeg, Int.reduceMul, Int.reduceSub, Int.reduceToNat]
    exact this
set_option maxRecDepth 20000 in
theorem u_unsound (hd : 20 ≤ d) (hm : zWm σ s V) (ho : zOK σ) (h0 : zMrt Q (zUns σ.r) σ s V) : zcall d 227 [.ref 164] (s, V) Q := by
  obtain ⟨hM, hC, hI, hPa, hX, ⟨hi1, hi2⟩, hR⟩ := id hm
  have hW := ho.1
  obtain ⟨n0, n1, c0, c1⟩ := hW.1
  obtain ⟨p0, p1⟩ := ho.2.1
  have tM := hM.1
  have hH : ∀ k : Nat, (k : Int) < σ.p → (σ.H k).n ≤ 12 ∧ (σ.H k).c ≤ 24 := fun k hk => by
    obtain ⟨b0, b1, b2, b3⟩ := (ho.2.2.1 k hk).1
    exact ⟨b1, b3⟩
  obtain ⟨d, rfl⟩ : ∃ e, d = e + 1 := ⟨d - 1, by omega⟩
  simp (disch := first | assumption | omega) only [zc_227]
  simp (disch := first | assumption | exact zk_227 | ((repeat (first | exact z1n | refine z1I ?_ | refine z1R ?_)); done) | exact rfl | omega | decide) only [zb_227_0, r_aload_0, r_inv_1_0, r_inv_1_1, r_inv_1_2, r_inv_1_3, r_inv_1_4, r_K0, r_K1, r_inv_2_0, r_inv_2_1, r_inv_2_2, r_inv_2_3, r_inv_2_4, r_iret, r_bret_0, r_bret_1, ↓reduceIte, not_true_eq_false, not_false_eq_true, Int.reduceEq, Int.reduceLE, Int.reduceLT, Int.reduceAdd, Int.reduceNeg, Int.reduceMul, Int.reduceSub, Int.reduceToNat]
  refine m_unsoundMany (by omega) hM hC hW (fun V1 f1 e2 => ?_)
  have hM1 := hM.fm f1 (by decide)
  have := h0.qt hm (f1.mono (by decide) (by decide))
  generalize zUns σ.r = A at this
  simp (disch := first | assumption | exact zk_227 | ((repeat (first | exact z1n | refine z1I ?_ | refine z1R ?_)); done) | exact rfl | omega | decide) only [r_aload_0, r_inv_1_0, r_inv_1_1, r_inv_1_2, r_inv_1_3, r_inv_1_4, r_K0, r_K1, r_inv_2_0, r_inv_2_1, r_inv_2_2, r_inv_2_3, r_inv_2_4, r_iret, r_bret_0, r_bret_1, m_tells, ↓reduceIte, not_true_eq_false, not_false_eq_true, Int.reduceEq, Int.reduceLE, Int.reduceLT, Int.reduceAdd, Int.reduceNeg, Int.reduceMul, Int.reduceSub, Int.reduceToNat]
  exact this
/-- behind a step in thought the state stands as before -/
theorem zMrt.sp {x : Int} (hQ : zMrt Q x σ s V) (h : zWm σ s V) (hf : zFm [165, 167] [36] V V') (he : ∀ i, 0 ≤ i → i < 230 → V' 165 i = V 165 i) (ho : zOK σ) : Q (.inl (some (zi x))) (s, zput V' 164 6 (zi 0)) := by
  obtain ⟨hM, hC, hI, hPa, -⟩ := id h
  obtain ⟨n0, n1, c0, c1⟩ := ho.1.1
  have hf2 : zFm [165, 167] [36, 6] V (zput V' 164 6 (zi 0)) := (hf.mono (fun _ h => h) (by simp)).pf (by simp)
  have e : ∀ i, 0 ≤ i → i < 230 → zput V' 164 6 (zi 0) 165 i = V 165 i := fun i a b => by rw [zput_r (by omega)]; exact he i a b
  obtain ⟨m1, m2, m3, m4⟩ := hC
  obtain ⟨y1, y2⟩ := h.up hf2 (by decide) (by decide) (ρ' := σ.r) ⟨(e 0 (by omega) (by omega)).trans m1, (e 1 (by omega) (by omega)).trans m2, fun w x a b c d => (e _ (by omega) (by omega)).trans (m3 w x a b c d), fun w k a b c d => (e _ (by omega) (by omega)).trans (m4 w k a b c d)⟩ (fun i a b => by rw [e i a b]; exact hI i a b) (hPa.fm2 hf2 (by decide) (by decide))
  exact hQ _ y1 y2 zput_at
set_option maxRecDepth 20000 in
theorem u_spread (hd : 20 ≤ d) (hm : zWm σ s V) (ho : zOK σ) {x : Int} (hx : zI32 x) (e1 : ¬ (0 ≤ x ∧ x < σ.r.n) → zMth Q 1 σ s V) (e2 : (0 ≤ x ∧ x < σ.r.n) → ¬ σ.r.S 6 x = 1 → zMth Q 2 σ s V) (h0 : (0 ≤ x ∧ x < σ.r.n) → σ.r.S 6 x = 1 → zMrt Q (zDown (zSteps (zGd σ.r x) 40) : Nat) σ s V) : zcall d 237 [.ref 164, zi x] (s, V) Q := by
  obtain ⟨hM, hC, hI, hPa, hX, ⟨hi1, hi2⟩, hR⟩ := id hm
  have hW := ho.1
  obtain ⟨n0, n1, c0, c1⟩ := hW.1
  obtain ⟨p0, p1⟩ := ho.2.1
  have tM := hM.1
  have hH : ∀ k : Nat, (k : Int) < σ.p → (σ.H k).n ≤ 12 ∧ (σ.H k).c ≤ 24 := fun k hk => by
    obtain ⟨b0, b1, b2, b3⟩ := (ho.2.2.1 k hk).1
    exact ⟨b1, b3⟩
  obtain ⟨d, rfl⟩ : ∃ e, d = e + 1 := ⟨d - 1, by omega⟩
  simp (disch := first | assumption | omega) only [zc_237]
  by_cases q1 : 0 ≤ x ∧ x < σ.r.n
  · obtain ⟨q3, q4⟩ := id q1
    by_cases q2 : σ.r.S 6 x = 1
    · have h0' := h0 q1 q2
      simp (disch := first | assumption | exact zk_237 | ((repeat (first | exact z1n | refine z1I ?_ | refine z1R ?_)); done) | exact rfl | omega | decide) only [zb_237_0, zb_237_1, r_aload_0, r_iload_1, r_inv_2_0, r_inv_2_1, r_inv_2_2, r_inv_2_3, r_inv_2_4, r_K0, r_K1, r_if_ne, r_iconst, r_iret, r_bret_0, r_bret_1, r_if_eq, r_goto, r_goto_w, m_isService (hC := hC), q3, q4, and_self, m_isUp (hC := hC), q2, ↓reduceIte, not_true_eq_false, not_false_eq_true, Int.reduceEq, Int.reduceLE, Int.reduceLT, Int.reduceAdd, Int.reduceNeg, Int.reduceMul, Int.reduceSub, Int.reduceToNat]
      refine m_spreads (by omega) hM hC hI hW q3 q4 (fun V1 f1 a1 _ => ?_)
      have hM1 := hM.fm f1 (by decide)
      have := h0'.sp hm f1 a1 ho
      have hdl := zDown_lt (zSteps_wf (hW.gd (x := x)) 40).2
      generalize zDown (zSteps (zGd σ.r x) 40) = A at this hdl
      simp (disch := first | assumption | exact zk_237 | ((repeat (first | exact z1n | refine z1I ?_ | refine z1R ?_)); done) | exact rfl | omega | decide) only [zb_237_3, r_aload_0, r_iload_1, r_inv_2_0, r_inv_2_1, r_inv_2_2, r_inv_2_3, r_inv_2_4, r_K0, r_K1, r_if_ne, r_iconst, r_iret, r_bret_0, r_bret_1, r_if_eq, r_goto, r_goto_w, m_tells, ↓reduceIte, not_true_eq_false, not_false_eq_true, Int.reduceEq, Int.reduceLE, Int.reduceLT, Int.reduceAdd, Int.reduceNeg, Int.reduceMul, Int.reduceSub, Int.reduceToNat]
      exact this
    · have := (e2 q1 q2).go hm
      simp (disch := first | assumption | exact zk_237 | ((repeat (first | exact z1n | refine z1I ?_ | refine z1R ?_)); done) | exact rfl | omega | decide) only [zb_237_0, zb_237_1, zb_237_2, zb_237_3, r_aload_0, r_iload_1, r_inv_2_0, r_inv_2_1, r_inv_2_2, r_inv_2_3, r_inv_2_4, r_K0, r_K1, r_if_ne, r_iconst, r_iret, r_bret_0, r_bret_1, r_if_eq, r_goto, r_goto_w, m_isService (hC := hC), q3, q4, and_self, m_isUp (hC := hC), q2, m_fails, ↓reduceIte, not_true_eq_false, not_false_eq_true, Int.reduceEq, Int.reduceLE, Int.reduceLT, Int.reduceAdd, Int.reduceNeg, Int.reduceMul, Int.reduceSub, Int.reduceToNat]
      exact this
  · have := (e1 q1).go hm
    simp (disch := first | assumption | exact zk_237 | ((repeat (first | exact z1n | refine z1I ?_ | refine z1R ?_)); done) | exact rfl | omega | decide) only [zb_237_0, r_aload_0, r_iload_1, r_inv_2_0, r_inv_2_1, r_inv_2_2, r_inv_2_3, r_inv_2_4, r_K0, r_K1, r_if_ne, r_iconst, r_iret, r_bret_0, r_bret_1, r_if_eq, r_goto, r_goto_w, m_isService (hC := hC), q1, m_fails, ↓reduceIte, not_true_eq_false, not_false_eq_true, Int.reduceEq, Int.reduceLE, Int.reduceLT, Int.reduceAdd, Int.reduceNeg, Int.reduceMul, Int.reduceSub, Int.reduceToNat]
    exact this
set_option maxRecDepth 20000 in
theorem u_calm (hd : 20 ≤ d) (hm : zWm σ s V) (ho : zOK σ) {x : Int} (hx : zI32 x) (hz : ∀ x, 0 ≤ x → x < σ.r.n → zDown (zSteps (zGd σ.r x) 40) ≠ 0) (e1 : ¬ (0 ≤ x ∧ x < σ.r.n) → zMth Q 1 σ s V) (e2 : (0 ≤ x ∧ x < σ.r.n) → ¬ σ.r.S 6 x = 1 → zMth Q 2 σ s V) (h0 : (0 ≤ x ∧ x < σ.r.n) → σ.r.S 6 x = 1 → zMrt Q (zCalm σ.r x 41) σ s V) : zcall d 238 [.ref 164, zi x] (s, V) Q := by
  obtain ⟨hM, hC, hI, hPa, hX, ⟨hi1, hi2⟩, hR⟩ := id hm
  have hW := ho.1
  obtain ⟨n0, n1, c0, c1⟩ := hW.1
  obtain ⟨p0, p1⟩ := ho.2.1
  have tM := hM.1
  have hH : ∀ k : Nat, (k : Int) < σ.p → (σ.H k).n ≤ 12 ∧ (σ.H k).c ≤ 24 := fun k hk => by
    obtain ⟨b0, b1, b2, b3⟩ := (ho.2.2.1 k hk).1
    exact ⟨b1, b3⟩
  obtain ⟨d, rfl⟩ : ∃ e, d = e + 1 := ⟨d - 1, by omega⟩
  simp (disch := first | assumption | omega) only [zc_238]
  by_cases q1 : 0 ≤ x ∧ x < σ.r.n
  · obtain ⟨q3, q4⟩ := id q1
    by_cases q2 : σ.r.S 6 x = 1
    · have h0' := h0 q1 q2
      simp (disch := first | assumption | exact zk_238 | ((repeat (first | exact z1n | refine z1I ?_ | refine z1R ?_)); done) | exact rfl | omega | decide) only [zb_238_0, zb_238_1, zb_238_2, r_aload_0, r_iload_1, r_inv_2_0, r_inv_2_1, r_inv_2_2, r_inv_2_3, r_inv_2_4, r_K0, r_K1, r_if_ne, r_iconst, r_iret, r_bret_0, r_bret_1, r_istore_2i, r_istore_2r, r_istore_2j, r_iload_2, r_goto, r_gf_676, r_goto_w, m_isService (hC := hC), q3, q4, and_self, m_isUp (hC := hC), q2, ↓reduceIte, not_true_eq_false, not_false_eq_true, Int.reduceEq, Int.reduceLE, Int.reduceLT, Int.reduceAdd, Int.reduceNeg, Int.reduceMul, Int.reduceSub, Int.reduceToNat]
      refine m_spreads (by omega) hM hC hI hW q3 q4 (fun V1 f1 a1 v36 => ?_)
      have hM1 := hM.fm f1 (by decide)
      have tM1 := hM1.1
      have := h0'.sp hm f1 a1 ho
      have hdl := zDown_lt (zSteps_wf (hW.gd (x := x)) 40).2
      have hne := hz x q3 q4
      generalize zDown (zSteps (zGd σ.r x) 40) = A at hdl hne
      have hne' : ¬ ((A : Nat) : Int) = 0 := by omega
      generalize zCalm σ.r x 41 = B at this v36
      simp (disch := first | assumption | exact zk_238 | ((repeat (first | exact z1n | refine z1I ?_ | refine z1R ?_)); done) | exact rfl | omega | decide) only [zb_238_3, zb_238_4, r_aload_0, r_iload_1, r_inv_2_0, r_inv_2_1, r_inv_2_2, r_inv_2_3, r_inv_2_4, r_K0, r_K1, r_if_ne, r_iconst, r_iret, r_bret_0, r_bret_1, r_istore_2i, r_istore_2r, r_istore_2j, r_iload_2, r_goto, r_gf_676, r_goto_w, m_tells, hne', v36, ↓reduceIte, not_true_eq_false, not_false_eq_true, Int.reduceEq, Int.reduceLE, Int.reduceLT, Int.reduceAdd, Int.reduceNeg, Int.reduceMul, Int.reduceSub, Int.reduceToNat]
      exact this
    · have := (e2 q1 q2).go hm
      simp (disch := first | assumption | exact zk_238 | ((repeat (first | exact z1n | refine z1I ?_ | refine z1R ?_)); done) | exact rfl | omega | decide) only [zb_238_0, zb_238_1, r_aload_0, r_iload_1, r_inv_2_0, r_inv_2_1, r_inv_2_2, r_inv_2_3, r_inv_2_4, r_K0, r_K1, r_if_ne, r_iconst, r_iret, r_bret_0, r_bret_1, r_istore_2i, r_istore_2r, r_istore_2j, r_iload_2, r_goto, r_gf_676, r_goto_w, m_isService (hC := hC), q3, q4, and_self, m_isUp (hC := hC), q2, m_fails, ↓reduceIte, not_true_eq_false, not_false_eq_true, Int.reduceEq, Int.reduceLE, Int.reduceLT, Int.reduceAdd, Int.reduceNeg, Int.reduceMul, Int.reduceSub, Int.reduceToNat]
      exact this
  · have := (e1 q1).go hm
    simp (disch := first | assumption | exact zk_238 | ((repeat (first | exact z1n | refine z1I ?_ | refine z1R ?_)); done) | exact rfl | omega | decide) only [zb_238_0, r_aload_0, r_iload_1, r_inv_2_0, r_inv_2_1, r_inv_2_2, r_inv_2_3, r_inv_2_4, r_K0, r_K1, r_if_ne, r_iconst, r_iret, r_bret_0, r_bret_1, r_istore_2i, r_istore_2r, r_istore_2j, r_iload_2, r_goto, r_gf_676, r_goto_w, m_isService (hC := hC), q1, m_fails, ↓reduceIte, not_true_eq_false, not_false_eq_true, Int.reduceEq, Int.reduceLE, Int.reduceLT, Int.reduceAdd, Int.reduceNeg, Int.reduceMul, Int.reduceSub, Int.reduceToNat]
    exact this
set_option maxRecDepth 20000 in
theorem u_recoveryTime (hd : 20 ≤ d) (hm : zWm σ s V) (ho : zOK σ) {x : Int} (hx : zI32 x) (e1 : ¬ (1 ≤ x ∧ x ≤ 4) → zMth Q 1 σ s V) (h0 : 1 ≤ x ∧ x ≤ 4 → zMrt Q (zQR σ.r x).1 σ s V) : zcall d 241 [.ref 164, zi x] (s, V) Q := by
  obtain ⟨hM, hC, hI, hPa, hX, ⟨hi1, hi2⟩, hR⟩ := id hm
  have hW := ho.1
  obtain ⟨n0, n1, c0, c1⟩ := hW.1
  obtain ⟨p0, p1⟩ := ho.2.1
  have tM := hM.1
  have hH : ∀ k : Nat, (k : Int) < σ.p → (σ.H k).n ≤ 12 ∧ (σ.H k).c ≤ 24 := fun k hk => by
    obtain ⟨b0, b1, b2, b3⟩ := (ho.2.2.1 k hk).1
    exact ⟨b1, b3⟩
  have i1 : zI32 1 := ⟨by omega, by omega⟩
  have i2 : zI32 4 := ⟨by omega, by omega⟩
  obtain ⟨d, rfl⟩ : ∃ e, d = e + 1 := ⟨d - 1, by omega⟩
  simp (disch := first | assumption | omega) only [zc_241]
  by_cases q1 : 1 ≤ x ∧ x ≤ 4
  · have h0' := h0 q1
    simp (disch := first | assumption | exact zk_241 | ((repeat (first | exact z1n | refine z1I ?_ | refine z1R ?_)); done) | exact rfl | omega | decide) only [zb_241_0, r_iload_1, r_iconst, r_inv_3_0, r_inv_3_1, r_inv_3_2, r_inv_3_3, r_inv_3_4, r_K0, r_K1, r_if_eq, r_aload_0, r_inv_2_0, r_inv_2_1, r_inv_2_2, r_inv_2_3, r_inv_2_4, r_goto, r_goto_w, r_iret, r_bret_0, r_bret_1, m_in, q1, and_self, ↓reduceIte, not_true_eq_false, not_false_eq_true, Int.reduceEq, Int.reduceLE, Int.reduceLT, Int.reduceAdd, Int.reduceNeg, Int.reduceMul, Int.reduceSub, Int.reduceToNat]
    refine m_recovers (by omega) hM hC hW q1.1 q1.2 (fun V1 f1 _ => ?_)
    have hM1 := hM.fm f1 (by decide)
    have := h0'.qt hm (f1.mono (by decide) (by decide))
    generalize (zQR σ.r x).1 = A at this
    simp (disch := first | assumption | exact zk_241 | ((repeat (first | exact z1n | refine z1I ?_ | refine z1R ?_)); done) | exact rfl | omega | decide) only [zb_241_2, r_iload_1, r_iconst, r_inv_3_0, r_inv_3_1, r_inv_3_2, r_inv_3_3, r_inv_3_4, r_K0, r_K1, r_if_eq, r_aload_0, r_inv_2_0, r_inv_2_1, r_inv_2_2, r_inv_2_3, r_inv_2_4, r_goto, r_goto_w, r_iret, r_bret_0, r_bret_1, m_tells, ↓reduceIte, not_true_eq_false, not_false_eq_true, Int.reduceEq, Int.reduceLE, Int.reduceLT, Int.reduceAdd, Int.reduceNeg, Int.reduceMul, Int.reduceSub, Int.reduceToNat]
    exact this
  · have := (e1 q1).go hm
    simp (disch := first | assumption | exact zk_241 | ((repeat (first | exact z1n | refine z1I ?_ | refine z1R ?_)); done) | exact rfl | omega | decide) only [zb_241_0, zb_241_1, zb_241_2, r_iload_1, r_iconst, r_inv_3_0, r_inv_3_1, r_inv_3_2, r_inv_3_3, r_inv_3_4, r_K0, r_K1, r_if_eq, r_aload_0, r_inv_2_0, r_inv_2_1, r_inv_2_2, r_inv_2_3, r_inv_2_4, r_goto, r_goto_w, r_iret, r_bret_0, r_bret_1, m_in, q1, m_fails, ↓reduceIte, not_true_eq_false, not_false_eq_true, Int.reduceEq, Int.reduceLE, Int.reduceLT, Int.reduceAdd, Int.reduceNeg, Int.reduceMul, Int.reduceSub, Int.reduceToNat]
    exact this
set_option maxRecDepth 20000 in
theorem u_recoveryStart (hd : 20 ≤ d) (hm : zWm σ s V) (ho : zOK σ) {c x : Int} (hc : zI32 c) (hx : zI32 x) (e1 : ¬ (1 ≤ c ∧ c ≤ 4) → zMth Q 1 σ s V) (e2 : 1 ≤ c ∧ c ≤ 4 → ¬ (0 ≤ x ∧ x < σ.r.n) → zMth Q 2 σ s V) (h0 : 1 ≤ c ∧ c ≤ 4 → 0 ≤ x ∧ x < σ.r.n → zMrt Q (zRst σ.r c x) σ s V) : zcall d 242 [.ref 164, zi c, zi x] (s, V) Q := by
  obtain ⟨hM, hC, hI, hPa, hX, ⟨hi1, hi2⟩, hR⟩ := id hm
  have hW := ho.1
  obtain ⟨n0, n1, c0, c1⟩ := hW.1
  obtain ⟨p0, p1⟩ := ho.2.1
  have tM := hM.1
  have hH : ∀ k : Nat, (k : Int) < σ.p → (σ.H k).n ≤ 12 ∧ (σ.H k).c ≤ 24 := fun k hk => by
    obtain ⟨b0, b1, b2, b3⟩ := (ho.2.2.1 k hk).1
    exact ⟨b1, b3⟩
  have i1 : zI32 1 := ⟨by omega, by omega⟩
  have i2 : zI32 4 := ⟨by omega, by omega⟩
  obtain ⟨d, rfl⟩ : ∃ e, d = e + 1 := ⟨d - 1, by omega⟩
  simp (disch := first | assumption | omega) only [zc_242]
  by_cases q1 : 1 ≤ c ∧ c ≤ 4
  · by_cases q2 : 0 ≤ x ∧ x < σ.r.n
    · have h0' := h0 q1 q2
      rw [zRst_all hW q1.1 q2.1 q2.2] at h0'
      obtain ⟨q3, q4⟩ := q2
      have hqr := (zQR_ok hW q1.1).1
      simp (disch := first | assumption | exact zk_242 | ((repeat (first | exact z1n | refine z1I ?_ | refine z1R ?_)); done) | exact rfl | omega | decide) only [zb_242_0, zb_242_1, zb_242_2, r_iload_1, r_iconst, r_inv_3_0, r_inv_3_1, r_inv_3_2, r_inv_3_3, r_inv_3_4, r_K0, r_K1, r_if_ne, r_aload_0, r_inv_2_0, r_inv_2_1, r_inv_2_2, r_inv_2_3, r_inv_2_4, r_iret, r_bret_0, r_bret_1, r_iload_2, r_istore_3i, r_istore_3r, r_istore_3j, r_iload_3, r_if_ge, r_goto, r_gf_677, r_ial, r_ial30, r_ial32, r_goto_w, m_in, q1, q3, q4, and_self, m_isService (hC := hC), ↓reduceIte, not_true_eq_false, not_false_eq_true, Int.reduceEq, Int.reduceLE, Int.reduceLT, Int.reduceAdd, Int.reduceNeg, Int.reduceMul, Int.reduceSub, Int.reduceToNat]
      refine m_recovers (by omega) hM hC hW q1.1 q1.2 (fun V1 f1 hb => ?_)
      have hM1 := hM.fm f1 (by decide)
      have tM1 := hM1.1
      have := h0'.qt hm (f1.mono (by decide) (by decide))
      have v8 : V1 164 37 = .ref 187 := (hM1.2 22 (by decide)).1
      have t8 : s.tg 187 = 20 := (hM1.2 22 (by decide)).2.1
      have l8 : s.ln 187 = 12 := (hM1.2 22 (by decide)).2.2
      have ev := hb x q3 (by omega)
      generalize (zQR σ.r c).2 x = A at this ev
      generalize (zQR σ.r c).1 = B at hqr
      simp (disch := first | assumption | exact zk_242 | ((repeat (first | exact z1n | refine z1I ?_ | refine z1R ?_)); done) | exact rfl | omega | decide) only [zb_242_3, zb_242_4, r_iload_1, r_iconst, r_inv_3_0, r_inv_3_1, r_inv_3_2, r_inv_3_3, r_inv_3_4, r_K0, r_K1, r_if_ne, r_aload_0, r_inv_2_0, r_inv_2_1, r_inv_2_2, r_inv_2_3, r_inv_2_4, r_iret, r_bret_0, r_bret_1, r_iload_2, r_istore_3i, r_istore_3r, r_istore_3j, r_iload_3, r_if_ge, r_goto, r_gf_677, r_ial, r_ial30, r_ial32, r_goto_w, m_tells, v8, ev, ↓reduceIte, not_true_eq_false, not_false_eq_true, Int.reduceEq, Int.reduceLE, Int.reduceLT, Int.reduceAdd, Int.reduceNeg, Int.reduceMul, Int.reduceSub, Int.reduceToNat]
      rw [if_pos (by omega)]
      exact this
    · have := (e2 q1 q2).go hm
      simp (disch := first | assumption | exact zk_242 | ((repeat (first | exact z1n | refine z1I ?_ | refine z1R ?_)); done) | exact rfl | omega | decide) only [zb_242_0, zb_242_1, r_iload_1, r_iconst, r_inv_3_0, r_inv_3_1, r_inv_3_2, r_inv_3_3, r_inv_3_4, r_K0, r_K1, r_if_ne, r_aload_0, r_inv_2_0, r_inv_2_1, r_inv_2_2, r_inv_2_3, r_inv_2_4, r_iret, r_bret_0, r_bret_1, r_iload_2, r_istore_3i, r_istore_3r, r_istore_3j, r_iload_3, r_if_ge, r_goto, r_gf_677, r_ial, r_ial30, r_ial32, r_goto_w, m_in, q1, q2, and_self, m_isService (hC := hC), m_fails, ↓reduceIte, not_true_eq_false, not_false_eq_true, Int.reduceEq, Int.reduceLE, Int.reduceLT, Int.reduceAdd, Int.reduceNeg, Int.reduceMul, Int.reduceSub, Int.reduceToNat]
      exact this
  · have := (e1 q1).go hm
    simp (disch := first | assumption | exact zk_242 | ((repeat (first | exact z1n | refine z1I ?_ | refine z1R ?_)); done) | exact rfl | omega | decide) only [zb_242_0, r_iload_1, r_iconst, r_inv_3_0, r_inv_3_1, r_inv_3_2, r_inv_3_3, r_inv_3_4, r_K0, r_K1, r_if_ne, r_aload_0, r_inv_2_0, r_inv_2_1, r_inv_2_2, r_inv_2_3, r_inv_2_4, r_iret, r_bret_0, r_bret_1, r_iload_2, r_istore_3i, r_istore_3r, r_istore_3j, r_iload_3, r_if_ge, r_goto, r_gf_677, r_ial, r_ial30, r_ial32, r_goto_w, m_in, q1, m_fails, ↓reduceIte, not_true_eq_false, not_false_eq_true, Int.reduceEq, Int.reduceLE, Int.reduceLT, Int.reduceAdd, Int.reduceNeg, Int.reduceMul, Int.reduceSub, Int.reduceToNat]
    exact this
end
