/-! CALLS OF THE MODEL, 4 -/
section
variable {d : Nat} {s : zS} {V V' : zV} {Q K : zO → zH → Prop} {σ : zσ} {h : zH} {l : List Nat} {ks : List Int}
set_option maxRecDepth 20000 in
theorem u_append (hd : 20 ≤ d) (hm : zWm σ s V) (ho : zOK σ) {x : Int} (hx : zI32 x) (e1 : ¬ (0 ≤ x ∧ x ≤ 127) → zMth Q 1 σ s V) (e2 : 0 ≤ x ∧ x ≤ 127 → ¬ σ.m < 120 → zMth Q 2 σ s V) (h0 : 0 ≤ x ∧ x ≤ 127 → σ.m < 120 → zMrt Q (σ.m + 1) (σ.tx (σ.m + 1) (fun k => if k = σ.m then x else σ.T k)) s V) : zcall d 259 [.ref 164, zi x] (s, V) Q := by
  obtain ⟨hM, hC, hI, hPa, hX, ⟨hi1, hi2⟩, hR⟩ := id hm
  have hW := ho.1
  obtain ⟨n0, n1, c0, c1⟩ := hW.1
  obtain ⟨p0, p1⟩ := ho.2.1
  have tM := hM.1
  have hH : ∀ k : Nat, (k : Int) < σ.p → (σ.H k).n ≤ 12 ∧ (σ.H k).c ≤ 24 := fun k hk => by
    obtain ⟨b0, b1, b2, b3⟩ := (ho.2.2.1 k hk).1
    exact ⟨b1, b3⟩
  have i1 : zI32 0 := ⟨by omega, by omega⟩
  have i2 : zI32 127 := ⟨by omega, by omega⟩
  obtain ⟨⟨m0, m1⟩, -⟩ := ho.2.2.2.1
  obtain ⟨x5, x8⟩ := hX
  have tM := hM.1
  have vm_text : V 164 4 = .ref 168 := (hM.2 3 (by decide)).1
  have tm_text : s.tg 168 = 20 := (hM.2 3 (by decide)).2.1
  have lm_text : s.ln 168 = 120 := (hM.2 3 (by decide)).2.2
  obtain ⟨d, rfl⟩ : ∃ e, d = e + 1 := ⟨d - 1, by omega⟩
  simp (disch := first | assumption | omega) only [zc_259]
  by_cases q1 : 0 ≤ x ∧ x ≤ 127
  · by_cases q2 : σ.m < 120
    · have h0' := h0 q1 q2
      have q2' : ¬ σ.m = 120 := by omega
      have e5 : zput V 168 σ.m (zi x) 164 5 = zi σ.m := by rw [zput_r (by omega)]; exact x5
      have hf : zFm [168] [5, 6] V (zput (zput (zput V 168 σ.m (zi x)) 164 5 (zi (σ.m + 1))) 164 6 (zi 0)) := ((zFm.rf.pr (by simp) (by omega)).pf (by simp)).pf (by simp)
      have hf1 : zFm [168] [5] V (zput (zput V 168 σ.m (zi x)) 164 5 (zi (σ.m + 1))) := (zFm.rf.pr (by simp) (by omega)).pf (by simp)
      have hM1 := hM.fm hf1 (by decide)
      have e : ∀ r, r ≠ 164 → r ≠ 168 → zput (zput (zput V 168 σ.m (zi x)) 164 5 (zi (σ.m + 1))) 164 6 (zi 0) r = V r := fun r a b => hf.1 r a (by simpa using b)
      have := h0' (zput (zput (zput V 168 σ.m (zi x)) 164 5 (zi (σ.m + 1))) 164 6 (zi 0)) (hf.f9 (by decide)) ⟨hM.fm hf (by decide), hC.fm hf (by decide), (by unfold zInts; rw [e 165 (by omega) (by omega)]; exact hI), hPa.fm2 hf (by decide) (by decide), ⟨by rw [zput_k (by omega), zput_at]; rfl, fun k k0 k1 => by
        rw [zput_r (by omega), zput_r (by omega)]
        have k1 : k < σ.m + 1 := k1
        show zput V 168 σ.m (zi x) 168 k = zi (if k = σ.m then x else σ.T k)
        by_cases c : k = σ.m
        · rw [c, zput_at, if_pos rfl]
        · rw [zput_i c, if_neg c]; exact x8 k k0 (by omega)⟩, ⟨(by unfold zInts; rw [e 181 (by omega) (by omega)]; exact hi1), (by unfold zInts; rw [e 182 (by omega) (by omega)]; exact hi2)⟩, hR.cg rfl (hf.2 33 (by simp)) (e 183 (by omega) (by omega)) (e 184 (by omega) (by omega)) (e 185 (by omega) (by omega))⟩ zput_at
      simp (disch := first | assumption | exact zk_259 | ((repeat (first | exact z1n | refine z1I ?_ | refine z1R ?_)); done) | exact rfl | omega | decide) only [zb_259_0, zb_259_1, zb_259_2, r_iload_1, r_iconst, r_inv_3_0, r_inv_3_1, r_inv_3_2, r_inv_3_3, r_inv_3_4, r_K0, r_K1, r_if_ne, r_aload_0, r_inv_2_0, r_inv_2_1, r_inv_2_2, r_inv_2_3, r_inv_2_4, r_iret, r_bret_0, r_bret_1, r_gf_645, r_icmp_ne, r_gf_644, r_iastore, r_dup_i, r_dup_r, r_iadd, r_pf_645, vm_text, m_in, q1, and_self, x5, q2', e5, zput_at, m_tells, ↓reduceIte, not_true_eq_false, not_false_eq_true, Int.reduceEq, Int.reduceLE, Int.reduceLT, Int.reduceAdd, Int.reduceNeg, Int.reduceMul, Int.reduceSub, Int.reduceToNat]
      exact this
    · have := (e2 q1 q2).go hm
      have q2' : σ.m = 120 := by omega
      rw [q2'] at x5
      simp (disch := first | assumption | exact zk_259 | ((repeat (first | exact z1n | refine z1I ?_ | refine z1R ?_)); done) | exact rfl | omega | decide) only [zb_259_0, zb_259_1, r_iload_1, r_iconst, r_inv_3_0, r_inv_3_1, r_inv_3_2, r_inv_3_3, r_inv_3_4, r_K0, r_K1, r_if_ne, r_aload_0, r_inv_2_0, r_inv_2_1, r_inv_2_2, r_inv_2_3, r_inv_2_4, r_iret, r_bret_0, r_bret_1, r_gf_645, r_icmp_ne, r_gf_644, r_iastore, r_dup_i, r_dup_r, r_iadd, r_pf_645, vm_text, m_in, q1, and_self, x5, m_fails, ↓reduceIte, not_true_eq_false, not_false_eq_true, Int.reduceEq, Int.reduceLE, Int.reduceLT, Int.reduceAdd, Int.reduceNeg, Int.reduceMul, Int.reduceSub, Int.reduceToNat]
      exact this
  · have := (e1 q1).go hm
    simp (disch := first | assumption | exact zk_259 | ((repeat (first | exact z1n | refine z1I ?_ | refine z1R ?_)); done) | exact rfl | omega | decide) only [zb_259_0, r_iload_1, r_iconst, r_inv_3_0, r_inv_3_1, r_inv_3_2, r_inv_3_3, r_inv_3_4, r_K0, r_K1, r_if_ne, r_aload_0, r_inv_2_0, r_inv_2_1, r_inv_2_2, r_inv_2_3, r_inv_2_4, r_iret, r_bret_0, r_bret_1, r_gf_645, r_icmp_ne, r_gf_644, r_iastore, r_dup_i, r_dup_r, r_iadd, r_pf_645, vm_text, m_in, q1, m_fails, ↓reduceIte, not_true_eq_false, not_false_eq_true, Int.reduceEq, Int.reduceLE, Int.reduceLT, Int.reduceAdd, Int.reduceNeg, Int.reduceMul, Int.reduceSub, Int.reduceToNat]
    exact this
set_option maxRecDepth 20000 in
theorem u_clearText (hd : 20 ≤ d) (hm : zWm σ s V) (ho : zOK σ) (h0 : zMrt Q σ.m (σ.tx 0 σ.T) s V) : zcall d 260 [.ref 164] (s, V) Q := by
  obtain ⟨hM, hC, hI, hPa, hX, ⟨hi1, hi2⟩, hR⟩ := id hm
  have hW := ho.1
  obtain ⟨n0, n1, c0, c1⟩ := hW.1
  obtain ⟨p0, p1⟩ := ho.2.1
  have tM := hM.1
  have hH : ∀ k : Nat, (k : Int) < σ.p → (σ.H k).n ≤ 12 ∧ (σ.H k).c ≤ 24 := fun k hk => by
    obtain ⟨b0, b1, b2, b3⟩ := (ho.2.2.1 k hk).1
    exact ⟨b1, b3⟩
  obtain ⟨x5, x8⟩ := hX
  have hf : zFm [] [5, 6] V (zput (zput V 164 5 (zi 0)) 164 6 (zi 0)) := (zFm.rf.pf (by simp)).pf (by simp)
  have hf1 : zFm [] [5] V (zput V 164 5 (zi 0)) := zFm.rf.pf (by simp)
  have hM1 := hM.fm hf1 (by decide)
  have e : ∀ r, r ≠ 164 → zput (zput V 164 5 (zi 0)) 164 6 (zi 0) r = V r := fun r a => hf.1 r a (by simp)
  have := h0 (zput (zput V 164 5 (zi 0)) 164 6 (zi 0)) (hf.f9 (by simp)) ⟨hM.fm hf (by decide), hC.fm hf (by decide), (by unfold zInts; rw [e 165 (by omega)]; exact hI), hPa.fm2 hf (by decide) (by decide), ⟨by rw [zput_k (by omega), zput_at]; rfl, fun k k0 k1 => by have k1 : k < 0 := k1; omega⟩, ⟨(by unfold zInts; rw [e 181 (by omega)]; exact hi1), (by unfold zInts; rw [e 182 (by omega)]; exact hi2)⟩, hR.cg rfl (hf.2 33 (by simp)) (e 183 (by omega)) (e 184 (by omega)) (e 185 (by omega))⟩ zput_at
  obtain ⟨⟨m0, m1⟩, -⟩ := ho.2.2.2.1
  obtain ⟨d, rfl⟩ : ∃ e, d = e + 1 := ⟨d - 1, by omega⟩
  simp (disch := first | assumption | omega) only [zc_260]
  simp (disch := first | assumption | exact zk_260 | ((repeat (first | exact z1n | refine z1I ?_ | refine z1R ?_)); done) | exact rfl | omega | decide) only [zb_260_0, r_aload_0, r_gf_645, r_istore_1i, r_istore_1r, r_istore_1j, r_iconst, r_pf_645, r_iload_1, r_inv_2_0, r_inv_2_1, r_inv_2_2, r_inv_2_3, r_inv_2_4, r_K0, r_K1, r_iret, r_bret_0, r_bret_1, x5, m_tells, ↓reduceIte, not_true_eq_false, not_false_eq_true, Int.reduceEq, Int.reduceLE, Int.reduceLT, Int.reduceAdd, Int.reduceNeg, Int.reduceMul, Int.reduceSub, Int.reduceToNat]
  exact this
theorem u_leastBudget (hd : 20 ≤ d) (hm : zWm σ s V) (ho : zOK σ) {x : Int} (hx : zI32 x) (e1 : ¬ (0 ≤ x ∧ x < σ.r.n) → zMth Q 1 σ s V) (h0 : 0 ≤ x ∧ x < σ.r.n → zMrt Q (zLb σ.r x) σ s V) : zcall d 222 [.ref 164, zi x] (s, V) Q := by
  obtain ⟨hM, hC, hI, hPa, hX, ⟨hi1, hi2⟩, hR⟩ := id hm
  have hW := ho.1
  obtain ⟨n0, n1, c0, c1⟩ := hW.1
  obtain ⟨p0, p1⟩ := ho.2.1
  have tM := hM.1
  have hH : ∀ k : Nat, (k : Int) < σ.p → (σ.H k).n ≤ 12 ∧ (σ.H k).c ≤ 24 := fun k hk => by
    obtain ⟨b0, b1, b2, b3⟩ := (ho.2.2.1 k hk).1
    exact ⟨b1, b3⟩
  refine m_leastBudget (by omega) hW hM hC hi1 hi2 hx (fun q => (e1 q).go hm) (fun q V1 f1 j1 j2 t1 => ?_)
  have e : ∀ r, r ≠ 164 → (r < 172 ∨ 182 < r) → V1 r = V r := fun r a b => f1.1 r a (fun c => by
    have : ∀ z ∈ zLvF, 172 ≤ z ∧ z ≤ 182 := by decide
    have := this r c
    omega)
  exact h0 q V1 (f1.f9 (by decide)) ⟨hM.fm f1 (by decide), hC.fm f1 (by decide), (by unfold zInts; rw [e 165 (by omega) (by omega)]; exact hI), hPa.fm2 f1 (by decide) (by decide), hX.fm f1 (by decide) (by decide), ⟨j1, j2⟩, hR.cg rfl (f1.2 33 (by decide)) (e 183 (by omega) (by omega)) (e 184 (by omega) (by omega)) (e 185 (by omega) (by omega))⟩ t1
set_option maxRecDepth 20000 in
theorem u_result (hd : 20 ≤ d) (hm : zWm σ s V) (ho : zOK σ) {w : Int} (hw : zI32 w) (e1 : ¬ (0 ≤ w ∧ w ≤ 5) → zMth Q 1 σ s V) (e2 : 0 ≤ w ∧ w ≤ 5 → ¬ σ.q = true → zMth Q 2 σ s V) (h0 : 0 ≤ w ∧ w ≤ 5 → σ.q = true → zMrt Q (zRs9 σ w) σ s V) : zcall d 219 [.ref 164, zi w] (s, V) Q := by
  obtain ⟨hM, hC, hI, hPa, hX, ⟨hi1, hi2⟩, hR⟩ := id hm
  have hW := ho.1
  obtain ⟨n0, n1, c0, c1⟩ := hW.1
  obtain ⟨p0, p1⟩ := ho.2.1
  have tM := hM.1
  have hH : ∀ k : Nat, (k : Int) < σ.p → (σ.H k).n ≤ 12 ∧ (σ.H k).c ≤ 24 := fun k hk => by
    obtain ⟨b0, b1, b2, b3⟩ := (ho.2.2.1 k hk).1
    exact ⟨b1, b3⟩
  have i1 : zI32 0 := ⟨by omega, by omega⟩
  have i2 : zI32 5 := ⟨by omega, by omega⟩
  obtain ⟨r0, r1⟩ := id hR
  have tM := hM.1
  have vm_results : V 164 30 = .ref 183 := (hM.2 18 (by decide)).1
  have tm_results : s.tg 183 = 20 := (hM.2 18 (by decide)).2.1
  have lm_results : s.ln 183 = 6 := (hM.2 18 (by decide)).2.2
  obtain ⟨d, rfl⟩ : ∃ e, d = e + 1 := ⟨d - 1, by omega⟩
  simp (disch := first | assumption | omega) only [zc_219]
  by_cases q1 : 0 ≤ w ∧ w ≤ 5
  · obtain ⟨q3, q4⟩ := id q1
    by_cases q2 : σ.q = true
    · have := (h0 q1 q2).go hm
      obtain ⟨⟨b0, b1, b2, b3, b4, b5⟩, -⟩ := r1 q2
      rw [q2, show zb1 true = 1 from rfl] at r0
      have ev : V 183 w = zi (zRs9 σ w) := by
        rcases (by omega : w = 0 ∨ w = 1 ∨ w = 2 ∨ w = 3 ∨ w = 4 ∨ w = 5) with rfl | rfl | rfl | rfl | rfl | rfl
        · exact b0
        · exact b1
        · exact b2
        · exact b3
        · exact b4
        · exact b5
      generalize zRs9 σ w = A at ev this
      simp (disch := first | assumption | exact zk_219 | ((repeat (first | exact z1n | refine z1I ?_ | refine z1R ?_)); done) | exact rfl | omega | decide) only [zb_219_0, zb_219_1, zb_219_2, zb_219_3, r_iload_1, r_iconst, r_inv_3_0, r_inv_3_1, r_inv_3_2, r_inv_3_3, r_inv_3_4, r_K0, r_K1, r_if_ne, r_aload_0, r_inv_2_0, r_inv_2_1, r_inv_2_2, r_inv_2_3, r_inv_2_4, r_iret, r_bret_0, r_bret_1, r_gf_673, r_if_eq, r_gf_670, r_ial, r_ial30, r_ial32, r_goto, r_goto_w, vm_results, m_in, q3, q4, and_self, r0, ev, m_tells, ↓reduceIte, not_true_eq_false, not_false_eq_true, Int.reduceEq, Int.reduceLE, Int.reduceLT, Int.reduceAdd, Int.reduceNeg, Int.reduceMul, Int.reduceSub, Int.reduceToNat]
      exact this
    · have := (e2 q1 q2).go hm
      have q2 : σ.q = false := by simpa using q2
      rw [q2, show zb1 false = 0 from rfl] at r0
      simp (disch := first | assumption | exact zk_219 | ((repeat (first | exact z1n | refine z1I ?_ | refine z1R ?_)); done) | exact rfl | omega | decide) only [zb_219_0, zb_219_1, zb_219_2, zb_219_3, r_iload_1, r_iconst, r_inv_3_0, r_inv_3_1, r_inv_3_2, r_inv_3_3, r_inv_3_4, r_K0, r_K1, r_if_ne, r_aload_0, r_inv_2_0, r_inv_2_1, r_inv_2_2, r_inv_2_3, r_inv_2_4, r_iret, r_bret_0, r_bret_1, r_gf_673, r_if_eq, r_gf_670, r_ial, r_ial30, r_ial32, r_goto, r_goto_w, vm_results, m_in, q3, q4, and_self, r0, m_fails, ↓reduceIte, not_true_eq_false, not_false_eq_true, Int.reduceEq, Int.reduceLE, Int.reduceLT, Int.reduceAdd, Int.reduceNeg, Int.reduceMul, Int.reduceSub, Int.reduceToNat]
      exact this
  · have := (e1 q1).go hm
    simp (disch := first | assumption | exact zk_219 | ((repeat (first | exact z1n | refine z1I ?_ | refine z1R ?_)); done) | exact rfl | omega | decide) only [zb_219_0, r_iload_1, r_iconst, r_inv_3_0, r_inv_3_1, r_inv_3_2, r_inv_3_3, r_inv_3_4, r_K0, r_K1, r_if_ne, r_aload_0, r_inv_2_0, r_inv_2_1, r_inv_2_2, r_inv_2_3, r_inv_2_4, r_iret, r_bret_0, r_bret_1, r_gf_673, r_if_eq, r_gf_670, r_ial, r_ial30, r_ial32, r_goto, r_goto_w, vm_results, m_in, q1, m_fails, ↓reduceIte, not_true_eq_false, not_false_eq_true, Int.reduceEq, Int.reduceLE, Int.reduceLT, Int.reduceAdd, Int.reduceNeg, Int.reduceMul, Int.reduceSub, Int.reduceToNat]
    exact this
set_option maxRecDepth 20000 in
theorem u_failure (hd : 20 ≤ d) (hm : zWm σ s V) (ho : zOK σ) {k w : Int} (hk' : zI32 k) (hw : zI32 w) (e1 : ¬ (0 ≤ w ∧ w ≤ 3) → zMth Q 1 σ s V) (h0 : 0 ≤ w ∧ w ≤ 3 → zMrt Q (zFlr σ k w) σ s V) : zcall d 220 [.ref 164, zi k, zi w] (s, V) Q := by
  obtain ⟨hM, hC, hI, hPa, hX, ⟨hi1, hi2⟩, hR⟩ := id hm
  have hW := ho.1
  obtain ⟨n0, n1, c0, c1⟩ := hW.1
  obtain ⟨p0, p1⟩ := ho.2.1
  have tM := hM.1
  have hH : ∀ k : Nat, (k : Int) < σ.p → (σ.H k).n ≤ 12 ∧ (σ.H k).c ≤ 24 := fun k hk => by
    obtain ⟨b0, b1, b2, b3⟩ := (ho.2.2.1 k hk).1
    exact ⟨b1, b3⟩
  have i1 : zI32 0 := ⟨by omega, by omega⟩
  have i2 : zI32 3 := ⟨by omega, by omega⟩
  obtain ⟨r0, r1⟩ := id hR
  have tM := hM.1
  have vm_results : V 164 30 = .ref 183 := (hM.2 18 (by decide)).1
  have tm_results : s.tg 183 = 20 := (hM.2 18 (by decide)).2.1
  have lm_results : s.ln 183 = 6 := (hM.2 18 (by decide)).2.2
  have vm_failureNoted : V 164 31 = .ref 184 := (hM.2 19 (by decide)).1
  have tm_failureNoted : s.tg 184 = 20 := (hM.2 19 (by decide)).2.1
  have lm_failureNoted : s.ln 184 = 240 := (hM.2 19 (by decide)).2.2
  obtain ⟨d, rfl⟩ : ∃ e, d = e + 1 := ⟨d - 1, by omega⟩
  simp (disch := first | assumption | omega) only [zc_220]
  by_cases q1 : 0 ≤ w ∧ w ≤ 3
  · obtain ⟨q3, q4⟩ := id q1
    have := (h0 q1).go hm
    unfold zFlr at this
    cases q2 : σ.q
    · rw [q2, if_neg (by simp)] at this
      rw [q2, show zb1 false = 0 from rfl] at r0
      simp (disch := first | assumption | exact zk_220 | ((repeat (first | exact z1n | refine z1I ?_ | refine z1R ?_)); done) | exact rfl | omega | decide) only [zb_220_0, zb_220_1, zb_220_2, zb_220_3, r_iload_2, r_iconst, r_inv_3_0, r_inv_3_1, r_inv_3_2, r_inv_3_3, r_inv_3_4, r_K0, r_K1, r_if_ne, r_aload_0, r_inv_2_0, r_inv_2_1, r_inv_2_2, r_inv_2_3, r_inv_2_4, r_iret, r_bret_0, r_bret_1, r_gf_673, r_if_eq, r_iload_1, r_gf_670, r_ial, r_ial30, r_ial32, r_isub, r_gf_671, r_imul, r_iadd, r_goto, r_goto_w, vm_results, vm_failureNoted, m_in, q3, q4, and_self, r0, m_tells, ↓reduceIte, not_true_eq_false, not_false_eq_true, Int.reduceEq, Int.reduceLE, Int.reduceLT, Int.reduceAdd, Int.reduceNeg, Int.reduceMul, Int.reduceSub, Int.reduceToNat]
      exact this
    · obtain ⟨hk, o0, o1⟩ := ho.2.2.2.2 q2
      obtain ⟨⟨b0, b1, b2, b3, b4, b5⟩, b6, b7⟩ := r1 q2
      rw [q2, show zb1 true = 1 from rfl] at r0
      obtain ⟨f0, f1⟩ := hk.1
      have i3 : zI32 (σ.g.fc - 1) := ⟨by omega, by omega⟩
      by_cases c : 0 ≤ k ∧ k < σ.g.fc
      · rw [q2, if_pos ⟨rfl, c⟩] at this
        obtain ⟨c1', c2'⟩ := c
        have ev := b6 w k q3 (by omega) c1' c2'
        have c3 : k ≤ σ.g.fc - 1 := by omega
        generalize σ.g.F w k = A at ev this
        simp (disch := first | assumption | exact zk_220 | ((repeat (first | exact z1n | refine z1I ?_ | refine z1R ?_)); done) | exact rfl | omega | decide) only [zb_220_0, zb_220_1, zb_220_2, zb_220_3, r_iload_2, r_iconst, r_inv_3_0, r_inv_3_1, r_inv_3_2, r_inv_3_3, r_inv_3_4, r_K0, r_K1, r_if_ne, r_aload_0, r_inv_2_0, r_inv_2_1, r_inv_2_2, r_inv_2_3, r_inv_2_4, r_iret, r_bret_0, r_bret_1, r_gf_673, r_if_eq, r_iload_1, r_gf_670, r_ial, r_ial30, r_ial32, r_isub, r_gf_671, r_imul, r_iadd, r_goto, r_goto_w, vm_results, vm_failureNoted, m_in, q3, q4, c1', c3, and_self, r0, b2, ev, m_tells, ↓reduceIte, not_true_eq_false, not_false_eq_true, Int.reduceEq, Int.reduceLE, Int.reduceLT, Int.reduceAdd, Int.reduceNeg, Int.reduceMul, Int.reduceSub, Int.reduceToNat]
        exact this
      · rw [q2, if_neg (fun z => c z.2)] at this
        have c3 : ¬ (0 ≤ k ∧ k ≤ σ.g.fc - 1) := by omega
        simp (disch := first | assumption | exact zk_220 | ((repeat (first | exact z1n | refine z1I ?_ | refine z1R ?_)); done) | exact rfl | omega | decide) only [zb_220_0, zb_220_1, zb_220_2, zb_220_3, r_iload_2, r_iconst, r_inv_3_0, r_inv_3_1, r_inv_3_2, r_inv_3_3, r_inv_3_4, r_K0, r_K1, r_if_ne, r_aload_0, r_inv_2_0, r_inv_2_1, r_inv_2_2, r_inv_2_3, r_inv_2_4, r_iret, r_bret_0, r_bret_1, r_gf_673, r_if_eq, r_iload_1, r_gf_670, r_ial, r_ial30, r_ial32, r_isub, r_gf_671, r_imul, r_iadd, r_goto, r_goto_w, vm_results, vm_failureNoted, m_in, q3, q4, c3, and_self, r0, b2, m_tells, ↓reduceIte, not_true_eq_false, not_false_eq_true, Int.reduceEq, Int.reduceLE, Int.reduceLT, Int.reduceAdd, Int.reduceNeg, Int.reduceMul, Int.reduceSub, Int.reduceToNat]
        exact this
  · have := (e1 q1).go hm
    simp (disch := first | assumption | exact zk_220 | ((repeat (first | exact z1n | refine z1I ?_ | refine z1R ?_)); done) | exact rfl | omega | decide) only [zb_220_0, r_iload_2, r_iconst, r_inv_3_0, r_inv_3_1, r_inv_3_2, r_inv_3_3, r_inv_3_4, r_K0, r_K1, r_if_ne, r_aload_0, r_inv_2_0, r_inv_2_1, r_inv_2_2, r_inv_2_3, r_inv_2_4, r_iret, r_bret_0, r_bret_1, r_gf_673, r_if_eq, r_iload_1, r_gf_670, r_ial, r_ial30, r_ial32, r_isub, r_gf_671, r_imul, r_iadd, r_goto, r_goto_w, vm_results, vm_failureNoted, m_in, q1, m_fails, ↓reduceIte, not_true_eq_false, not_false_eq_true, Int.reduceEq, Int.reduceLE, Int.reduceLT, Int.reduceAdd, Int.reduceNeg, Int.reduceMul, Int.reduceSub, Int.reduceToNat]
    exact this
set_option maxRecDepth 20000 in
theorem u_attempt (hd : 20 ≤ d) (hm : zWm σ s V) (ho : zOK σ) {k w : Int} (hk' : zI32 k) (hw : zI32 w) (e1 : ¬ (0 ≤ w ∧ w ≤ 3) → zMth Q 1 σ s V) (h0 : 0 ≤ w ∧ w ≤ 3 → zMrt Q (zTry9 σ k w) σ s V) : zcall d 221 [.ref 164, zi k, zi w] (s, V) Q := by
  obtain ⟨hM, hC, hI, hPa, hX, ⟨hi1, hi2⟩, hR⟩ := id hm
  have hW := ho.1
  obtain ⟨n0, n1, c0, c1⟩ := hW.1
  obtain ⟨p0, p1⟩ := ho.2.1
  have tM := hM.1
  have hH : ∀ k : Nat, (k : Int) < σ.p → (σ.H k).n ≤ 12 ∧ (σ.H k).c ≤ 24 := fun k hk => by
    obtain ⟨b0, b1, b2, b3⟩ := (ho.2.2.1 k hk).1
    exact ⟨b1, b3⟩
  have i1 : zI32 0 := ⟨by omega, by omega⟩
  have i2 : zI32 3 := ⟨by omega, by omega⟩
  obtain ⟨r0, r1⟩ := id hR
  have tM := hM.1
  have vm_results : V 164 30 = .ref 183 := (hM.2 18 (by decide)).1
  have tm_results : s.tg 183 = 20 := (hM.2 18 (by decide)).2.1
  have lm_results : s.ln 183 = 6 := (hM.2 18 (by decide)).2.2
  have vm_tryNoted : V 164 32 = .ref 185 := (hM.2 20 (by decide)).1
  have tm_tryNoted : s.tg 185 = 20 := (hM.2 20 (by decide)).2.1
  have lm_tryNoted : s.ln 185 = 800 := (hM.2 20 (by decide)).2.2
  obtain ⟨d, rfl⟩ : ∃ e, d = e + 1 := ⟨d - 1, by omega⟩
  simp (disch := first | assumption | omega) only [zc_221]
  by_cases q1 : 0 ≤ w ∧ w ≤ 3
  · obtain ⟨q3, q4⟩ := id q1
    have := (h0 q1).go hm
    unfold zTry9 at this
    cases q2 : σ.q
    · rw [q2, if_neg (by simp)] at this
      rw [q2, show zb1 false = 0 from rfl] at r0
      simp (disch := first | assumption | exact zk_221 | ((repeat (first | exact z1n | refine z1I ?_ | refine z1R ?_)); done) | exact rfl | omega | decide) only [zb_221_0, zb_221_1, zb_221_2, zb_221_3, r_iload_2, r_iconst, r_inv_3_0, r_inv_3_1, r_inv_3_2, r_inv_3_3, r_inv_3_4, r_K0, r_K1, r_if_ne, r_aload_0, r_inv_2_0, r_inv_2_1, r_inv_2_2, r_inv_2_3, r_inv_2_4, r_iret, r_bret_0, r_bret_1, r_gf_673, r_if_eq, r_iload_1, r_gf_670, r_ial, r_ial30, r_ial32, r_isub, r_gf_672, r_imul, r_iadd, r_goto, r_goto_w, vm_results, vm_tryNoted, m_in, q3, q4, and_self, r0, m_tells, ↓reduceIte, not_true_eq_false, not_false_eq_true, Int.reduceEq, Int.reduceLE, Int.reduceLT, Int.reduceAdd, Int.reduceNeg, Int.reduceMul, Int.reduceSub, Int.reduceToNat]
      exact this
    · obtain ⟨hk, o0, o1⟩ := ho.2.2.2.2 q2
      obtain ⟨⟨b0, b1, b2, b3, b4, b5⟩, b6, b7⟩ := r1 q2
      rw [q2, show zb1 true = 1 from rfl] at r0
      obtain ⟨f0, f1⟩ := hk.2.1
      have i3 : zI32 (σ.g.tc - 1) := ⟨by omega, by omega⟩
      by_cases c : 0 ≤ k ∧ k < σ.g.tc
      · rw [q2, if_pos ⟨rfl, c⟩] at this
        obtain ⟨c1', c2'⟩ := c
        have ev := b7 w k q3 (by omega) c1' c2'
        have c3 : k ≤ σ.g.tc - 1 := by omega
        generalize σ.g.T w k = A at ev this
        simp (disch := first | assumption | exact zk_221 | ((repeat (first | exact z1n | refine z1I ?_ | refine z1R ?_)); done) | exact rfl | omega | decide) only [zb_221_0, zb_221_1, zb_221_2, zb_221_3, r_iload_2, r_iconst, r_inv_3_0, r_inv_3_1, r_inv_3_2, r_inv_3_3, r_inv_3_4, r_K0, r_K1, r_if_ne, r_aload_0, r_inv_2_0, r_inv_2_1, r_inv_2_2, r_inv_2_3, r_inv_2_4, r_iret, r_bret_0, r_bret_1, r_gf_673, r_if_eq, r_iload_1, r_gf_670, r_ial, r_ial30, r_ial32, r_isub, r_gf_672, r_imul, r_iadd, r_goto, r_goto_w, vm_results, vm_tryNoted, m_in, q3, q4, c1', c3, and_self, r0, b3, ev, m_tells, ↓reduceIte, not_true_eq_false, not_false_eq_true, Int.reduceEq, Int.reduceLE, Int.reduceLT, Int.reduceAdd, Int.reduceNeg, Int.reduceMul, Int.reduceSub, Int.reduceToNat]
        exact this
      · rw [q2, if_neg (fun z => c z.2)] at this
        have c3 : ¬ (0 ≤ k ∧ k ≤ σ.g.tc - 1) := by omega
        simp (disch := first | assumption | exact zk_221 | ((repeat (first | exact z1n | refine z1I ?_ | refine z1R ?_)); done) | exact rfl | omega | decide) only [zb_221_0, zb_221_1, zb_221_2, zb_221_3, r_iload_2, r_iconst, r_inv_3_0, r_inv_3_1, r_inv_3_2, r_inv_3_3, r_inv_3_4, r_K0, r_K1, r_if_ne, r_aload_0, r_inv_2_0, r_inv_2_1, r_inv_2_2, r_inv_2_3, r_inv_2_4, r_iret, r_bret_0, r_bret_1, r_gf_673, r_if_eq, r_iload_1, r_gf_670, r_ial, r_ial30, r_ial32, r_isub, r_gf_672, r_imul, r_iadd, r_goto, r_goto_w, vm_results, vm_tryNoted, m_in, q3, q4, c3, and_self, r0, b3, m_tells, ↓reduceIte, not_true_eq_false, not_false_eq_true, Int.reduceEq, Int.reduceLE, Int.reduceLT, Int.reduceAdd, Int.reduceNeg, Int.reduceMul, Int.reduceSub, Int.reduceToNat]
        exact this
  · have := (e1 q1).go hm
    simp (disch := first | assumption | exact zk_221 | ((repeat (first | exact z1n | refine z1I ?_ | refine z1R ?_)); done) | exact rfl | omega | decide) only [zb_221_0, r_iload_2, r_iconst, r_inv_3_0, r_inv_3_1, r_inv_3_2, r_inv_3_3, r_inv_3_4, r_K0, r_K1, r_if_ne, r_aload_0, r_inv_2_0, r_inv_2_1, r_inv_2_2, r_inv_2_3, r_inv_2_4, r_iret, r_bret_0, r_bret_1, r_gf_673, r_if_eq, r_iload_1, r_gf_670, r_ial, r_ial30, r_ial32, r_isub, r_gf_672, r_imul, r_iadd, r_goto, r_goto_w, vm_results, vm_tryNoted, m_in, q1, m_fails, ↓reduceIte, not_true_eq_false, not_false_eq_true, Int.reduceEq, Int.reduceLE, Int.reduceLT, Int.reduceAdd, Int.reduceNeg, Int.reduceMul, Int.reduceSub, Int.reduceToNat]
    exact this
end
