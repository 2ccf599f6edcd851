/-! CALLS OF THE MODEL, 2 -/
section
variable {d : Nat} {s : zS} {V V' : zV} {Q K : zO → zH → Prop} {σ : zσ} {h : zH} {l : List Nat} {ks : List Int}
theorem zMrt.go {x : Int} (hQ : zMrt Q x σ s V) (h : zWm σ s V) : Q (.inl (some (zi x))) (s, zput V 164 6 (zi 0)) := by
  obtain ⟨y1, y2⟩ := h.q (V' := zput V 164 6 (zi 0)) (l := []) (ks := [6]) (zFm.rf.pf (by simp)) (by simp) (by decide)
  exact hQ _ y1 y2 zput_at
/-- a look that wrote only rows that are laid anew each time -/
theorem zMrt.qo {x : Int} (hQ : zMrt Q x σ s V) (h : zWm σ s V) (hf : zFm [167, 169, 170, 171, 186, 187, 188, 189] [6, 36] V V') (h6 : V' 164 6 = zi 0) : Q (.inl (some (zi x))) (s, V') := by
  obtain ⟨y1, y2⟩ := h.q hf (by decide) (by decide)
  exact hQ _ y1 y2 h6
theorem u_removeCall (hd : 20 ≤ d) (hm : zWm σ s V) (ho : zOK σ) {k : Int} (hk : zI32 k) (e1 : ¬ (0 ≤ k ∧ k < σ.r.c) → zMth Q 1 σ s V) (e2 : (0 ≤ k ∧ k < σ.r.c) → (zany (fun j => decide (zLead σ.r j = k)) 0 σ.r.c = true) → zMth Q 2 σ s V) (h0 : (0 ≤ k ∧ k < σ.r.c) → ¬ (zany (fun j => decide (zLead σ.r j = k)) 0 σ.r.c = true) → zMrt Q (σ.r.c - 1) (σ.sv (σ.r.delK k)) s V) : zcall d 196 [.ref 164, zi k] (s, V) Q := by
  obtain ⟨hM, hC, hI, hPa, hX, ⟨hi1, hi2⟩, hR⟩ := id hm
  have hW := ho.1
  obtain ⟨n0, n1, c0, c1⟩ := hW.1
  obtain ⟨p0, p1⟩ := ho.2.1
  have tM := hM.1
  have hH : ∀ k : Nat, (k : Int) < σ.p → (σ.H k).n ≤ 12 ∧ (σ.H k).c ≤ 24 := fun k hk => by
    obtain ⟨b0, b1, b2, b3⟩ := (ho.2.2.1 k hk).1
    exact ⟨b1, b3⟩
  refine m_removeCall (by omega) hM hC hI hW hPa p0 p1 hH hk (fun q => (e1 q).go hm) (fun q1 q2 => (e2 q1 q2).go hm) (fun q1 q2 V1 f1 hC1 hI1 hP1 t1 => ?_)
  obtain ⟨y1, y2⟩ := hm.up f1 (by decide) (by decide) hC1 hI1 hP1
  exact h0 q1 (by rw [q2]; decide) V1 y1 y2 t1
theorem u_setLimit (hd : 20 ≤ d) (hm : zWm σ s V) (ho : zOK σ) {k v : Int} (hk : zI32 k) (hv : zI32 v) (e1 : ¬ (0 ≤ k ∧ k < σ.r.c) → zMth Q 1 σ s V) (e2 : (0 ≤ k ∧ k < σ.r.c) → ¬ (1 ≤ v ∧ v ≤ 500) → zMth Q 2 σ s V) (h0 : (0 ≤ k ∧ k < σ.r.c) → (1 ≤ v ∧ v ≤ 500) → zMrt Q (σ.r.K 2 k) (σ.sv (σ.r.sK 2 k v)) s V) : zcall d 198 [.ref 164, zi k, zi v] (s, V) Q := by
  obtain ⟨hM, hC, hI, hPa, hX, ⟨hi1, hi2⟩, hR⟩ := id hm
  have hW := ho.1
  obtain ⟨n0, n1, c0, c1⟩ := hW.1
  obtain ⟨p0, p1⟩ := ho.2.1
  have tM := hM.1
  have hH : ∀ k : Nat, (k : Int) < σ.p → (σ.H k).n ≤ 12 ∧ (σ.H k).c ≤ 24 := fun k hk => by
    obtain ⟨b0, b1, b2, b3⟩ := (ho.2.2.1 k hk).1
    exact ⟨b1, b3⟩
  refine m_setLimit (by omega) hM hC hI hW hPa p0 p1 hH hk hv (fun q => (e1 q).go hm) (fun q1 q2 => (e2 q1 q2).go hm) (fun q1 q2 V1 f1 hC1 hI1 hP1 t1 => ?_)
  obtain ⟨y1, y2⟩ := hm.up f1 (by decide) (by decide) hC1 hI1 hP1
  exact h0 q1 q2 V1 y1 y2 t1
theorem u_tighten (hd : 20 ≤ d) (hm : zWm σ s V) (ho : zOK σ) (h0 : zMrt Q (zTgC σ.r σ.r.n.toNat) (σ.sv (zTight σ.r)) s V) : zcall d 228 [.ref 164] (s, V) Q := by
  obtain ⟨hM, hC, hI, hPa, hX, ⟨hi1, hi2⟩, hR⟩ := id hm
  have hW := ho.1
  obtain ⟨n0, n1, c0, c1⟩ := hW.1
  obtain ⟨p0, p1⟩ := ho.2.1
  have tM := hM.1
  have hH : ∀ k : Nat, (k : Int) < σ.p → (σ.H k).n ≤ 12 ∧ (σ.H k).c ≤ 24 := fun k hk => by
    obtain ⟨b0, b1, b2, b3⟩ := (ho.2.2.1 k hk).1
    exact ⟨b1, b3⟩
  refine m_tighten (by omega) hM hC hI hW hPa p0 p1 hH (fun V1 f1 hC1 hI1 hP1 t1 => ?_)
  obtain ⟨y1, y2⟩ := hm.up f1 (by decide) (by decide) hC1 hI1 hP1
  exact h0 V1 y1 y2 t1
set_option maxRecDepth 20000 in
theorem u_undo (hd : 20 ≤ d) (hm : zWm σ s V) (ho : zOK σ) (e1 : σ.p = 0 → zMth Q 1 σ s V) (h0 : ¬ σ.p = 0 → zMrt Q (σ.p - 1) (σ.H (σ.p.toNat - 1), (σ.p - 1, σ.H), σ.2.2) s V) : zcall d 267 [.ref 164] (s, V) Q := by
  obtain ⟨hM, hC, hI, hPa, hX, ⟨hi1, hi2⟩, hR⟩ := id hm
  have hW := ho.1
  obtain ⟨n0, n1, c0, c1⟩ := hW.1
  obtain ⟨p0, p1⟩ := ho.2.1
  have tM := hM.1
  have hH : ∀ k : Nat, (k : Int) < σ.p → (σ.H k).n ≤ 12 ∧ (σ.H k).c ≤ 24 := fun k hk => by
    obtain ⟨b0, b1, b2, b3⟩ := (ho.2.2.1 k hk).1
    exact ⟨b1, b3⟩
  by_cases q : σ.p = 0
  · have := (e1 q).go hm
    have v3 := hPa.1
    rw [q] at v3
    obtain ⟨d, rfl⟩ : ∃ e, d = e + 1 := ⟨d - 1, by omega⟩
    simp (disch := first | assumption | omega) only [zc_267]
    simp (disch := first | assumption | exact zk_267 | ((repeat (first | exact z1n | refine z1I ?_ | refine z1R ?_)); done) | exact rfl | omega | decide) only [zb_267_0, r_aload_0, r_gf_643, r_if_ne, r_iconst, r_inv_2_0, r_inv_2_1, r_inv_2_2, r_inv_2_3, r_inv_2_4, r_K0, r_K1, r_iret, r_bret_0, r_bret_1, r_dup_i, r_dup_r, r_isub, r_pf_643, r_istore_1i, r_istore_1r, r_istore_1j, r_goto_w, r_iload_1, r_icmp_ge, r_gf_640, r_gf_641, r_imul, r_iadd, r_ial, r_ial30, r_ial32, r_iastore, r_iinc_1i, r_iinc_1r, r_iinc_1j, r_goto, v3, m_fails, ↓reduceIte, not_true_eq_false, not_false_eq_true, Int.reduceEq, Int.reduceLE, Int.reduceLT, Int.reduceAdd, Int.reduceNeg, Int.reduceMul, Int.reduceSub, Int.reduceToNat]
    exact this
  · refine m_undo (by omega) hM hPa (by omega) p1 (hH _ (by omega)) (fun V1 f1 v3 hC1 hI1 t1 => ?_)
    have hP1 : zPaC (σ.p - 1) σ.H V1 := by
      obtain ⟨a, b, c⟩ := hPa
      have e := f1.1 166 (by omega) (by simp)
      exact ⟨v3, by unfold zInts; rw [e]; exact b, fun k hk => by unfold zMCr; rw [e]; exact c k (by omega)⟩
    obtain ⟨y1, y2⟩ := hm.up f1 (by decide) (by decide) hC1 hI1 hP1
    exact h0 q V1 y1 y2 t1
theorem u_execute (hd : 20 ≤ d) (hm : zWm σ s V) (ho : zOK σ) {X : Int} (hx : zXis σ.T σ.m σ.r X) (h0 : ∀ V', zFr9 V V' → zWm (zXst σ.T σ.m X σ.r, (zXp σ.T σ.m X σ.p, zXh σ.T σ.m X σ.p σ.H σ.r), σ.2.2) s V' → Q (.inl (some (zi (zXr σ.T σ.m X)))) (s, V')) : zcall d 266 [.ref 164] (s, V) Q := by
  obtain ⟨hM, hC, hI, hPa, hX, ⟨hi1, hi2⟩, hR⟩ := id hm
  have hW := ho.1
  obtain ⟨n0, n1, c0, c1⟩ := hW.1
  obtain ⟨p0, p1⟩ := ho.2.1
  have tM := hM.1
  have hH : ∀ k : Nat, (k : Int) < σ.p → (σ.H k).n ≤ 12 ∧ (σ.H k).c ≤ 24 := fun k hk => by
    obtain ⟨b0, b1, b2, b3⟩ := (ho.2.2.1 k hk).1
    exact ⟨b1, b3⟩
  refine m_execute (by omega) hM hC hI hW hPa p0 p1 hH hX ho.2.2.2.1 hx (fun V1 f1 hC1 hI1 hP1 => ?_)
  obtain ⟨y1, y2⟩ := hm.up f1 (by decide) (by decide) hC1 hI1 hP1
  exact h0 V1 y1 y2
theorem u_bestCost (hd : 20 ≤ d) (hm : zWm σ s V) (ho : zOK σ) (h0 : ∀ V', zFr9 V V' → zWm σ s V' → Q (.inl (some (zi (zYr σ.r 0)))) (s, V')) : zcall d 246 [.ref 164] (s, V) Q := by
  obtain ⟨hM, hC, hI, hPa, hX, ⟨hi1, hi2⟩, hR⟩ := id hm
  have hW := ho.1
  obtain ⟨n0, n1, c0, c1⟩ := hW.1
  obtain ⟨p0, p1⟩ := ho.2.1
  have tM := hM.1
  have hH : ∀ k : Nat, (k : Int) < σ.p → (σ.H k).n ≤ 12 ∧ (σ.H k).c ≤ 24 := fun k hk => by
    obtain ⟨b0, b1, b2, b3⟩ := (ho.2.2.1 k hk).1
    exact ⟨b1, b3⟩
  refine m_bestCost (by omega) hM hC hW (fun V1 f1 => ?_)
  obtain ⟨y1, y2⟩ := hm.q f1 (by decide) (by decide)
  exact h0 V1 y1 y2
theorem u_bestOrder (hd : 20 ≤ d) (hm : zWm σ s V) (ho : zOK σ) {x : Int} (hx : zI32 x) (h0 : ∀ V', zFr9 V V' → zWm σ s V' → Q (.inl (some (zi (zYz σ.r x)))) (s, V')) : zcall d 247 [.ref 164, zi x] (s, V) Q := by
  obtain ⟨hM, hC, hI, hPa, hX, ⟨hi1, hi2⟩, hR⟩ := id hm
  have hW := ho.1
  obtain ⟨n0, n1, c0, c1⟩ := hW.1
  obtain ⟨p0, p1⟩ := ho.2.1
  have tM := hM.1
  have hH : ∀ k : Nat, (k : Int) < σ.p → (σ.H k).n ≤ 12 ∧ (σ.H k).c ≤ 24 := fun k hk => by
    obtain ⟨b0, b1, b2, b3⟩ := (ho.2.2.1 k hk).1
    exact ⟨b1, b3⟩
  refine m_bestOrder (by omega) hM hC hW hx (fun V1 f1 => ?_)
  obtain ⟨y1, y2⟩ := hm.q f1 (by decide) (by decide)
  exact h0 V1 y1 y2
theorem u_failsBy (hd : 20 ≤ d) (hm : zWm σ s V) (ho : zOK σ) {x v : Int} (hx : zI32 x) (hv : zI32 v) (e1 : ¬ (0 ≤ x ∧ x < σ.r.n) → zMth Q 1 σ s V) (e2 : 0 ≤ x ∧ x < σ.r.n → ¬ (0 ≤ v ∧ v < zTwo σ.r.n) → zMth Q 2 σ s V) (h0 : 0 ≤ x ∧ x < σ.r.n → 0 ≤ v ∧ v < zTwo σ.r.n → zMrt Q (zb1 (zin (zFail σ.r v.toNat) x)) σ s V) : zcall d 249 [.ref 164, zi x, zi v] (s, V) Q := by
  obtain ⟨hM, hC, hI, hPa, hX, ⟨hi1, hi2⟩, hR⟩ := id hm
  have hW := ho.1
  obtain ⟨n0, n1, c0, c1⟩ := hW.1
  obtain ⟨p0, p1⟩ := ho.2.1
  have tM := hM.1
  have hH : ∀ k : Nat, (k : Int) < σ.p → (σ.H k).n ≤ 12 ∧ (σ.H k).c ≤ 24 := fun k hk => by
    obtain ⟨b0, b1, b2, b3⟩ := (ho.2.2.1 k hk).1
    exact ⟨b1, b3⟩
  exact m_failsBy (by omega) hM hC hW hx hv (fun q => (e1 q).go hm) (fun q1 q2 => (e2 q1 q2).go hm) (fun q1 q2 V1 f1 t1 => (h0 q1 q2).qo hm (f1.mono (by decide) (by decide)) t1)
theorem u_cuts (hd : 20 ≤ d) (hm : zWm σ s V) (ho : zOK σ) {x b : Int} (hx : zI32 x) (hb : zI32 b) (e1 : ¬ (0 ≤ x ∧ x < σ.r.n) → zMth Q 1 σ s V) (e2 : 0 ≤ x ∧ x < σ.r.n → ¬ (1 ≤ b ∧ b ≤ 12) → zMth Q 2 σ s V) (h0 : 0 ≤ x ∧ x < σ.r.n → (1 ≤ b ∧ b ≤ 12) → zMrt Q (zCuts σ.r x b) σ s V) : zcall d 254 [.ref 164, zi x, zi b] (s, V) Q := by
  obtain ⟨hM, hC, hI, hPa, hX, ⟨hi1, hi2⟩, hR⟩ := id hm
  have hW := ho.1
  obtain ⟨n0, n1, c0, c1⟩ := hW.1
  obtain ⟨p0, p1⟩ := ho.2.1
  have tM := hM.1
  have hH : ∀ k : Nat, (k : Int) < σ.p → (σ.H k).n ≤ 12 ∧ (σ.H k).c ≤ 24 := fun k hk => by
    obtain ⟨b0, b1, b2, b3⟩ := (ho.2.2.1 k hk).1
    exact ⟨b1, b3⟩
  exact m_cuts (by omega) hM hC hW hx hb (fun q => (e1 q).go hm) (fun q1 q2 => (e2 q1 q2).go hm) (fun q1 q2 V1 f1 t1 => (h0 q1 q2).qo hm (f1.mono (by decide) (by decide)) t1)
theorem u_cut (hd : 20 ≤ d) (hm : zWm σ s V) (ho : zOK σ) {x b j : Int} (hx : zI32 x) (hb : zI32 b) (hj : zI32 j) (e1 : ¬ (0 ≤ x ∧ x < σ.r.n) → zMth Q 1 σ s V) (e2 : 0 ≤ x ∧ x < σ.r.n → ¬ (1 ≤ b ∧ b ≤ 12) → zMth Q 2 σ s V) (h0 : 0 ≤ x ∧ x < σ.r.n → (1 ≤ b ∧ b ≤ 12) → zMrt Q (zCutj σ.r x b j) σ s V) : zcall d 255 [.ref 164, zi x, zi b, zi j] (s, V) Q := by
  obtain ⟨hM, hC, hI, hPa, hX, ⟨hi1, hi2⟩, hR⟩ := id hm
  have hW := ho.1
  obtain ⟨n0, n1, c0, c1⟩ := hW.1
  obtain ⟨p0, p1⟩ := ho.2.1
  have tM := hM.1
  have hH : ∀ k : Nat, (k : Int) < σ.p → (σ.H k).n ≤ 12 ∧ (σ.H k).c ≤ 24 := fun k hk => by
    obtain ⟨b0, b1, b2, b3⟩ := (ho.2.2.1 k hk).1
    exact ⟨b1, b3⟩
  exact m_cut (by omega) hM hC hW hx hb hj (fun q => (e1 q).go hm) (fun q1 q2 => (e2 q1 q2).go hm) (fun q1 q2 V1 f1 t1 => (h0 q1 q2).qo hm (f1.mono (by decide) (by decide)) t1)
theorem u_availability (hd : 20 ≤ d) (hm : zWm σ s V) (ho : zOK σ) {x : Int} (hx : zI32 x) (e1 : ¬ (0 ≤ x ∧ x < σ.r.n) → zMth Q 1 σ s V) (h0 : 0 ≤ x ∧ x < σ.r.n → zMrt Q (zavA σ.r x) σ s V) : zcall d 257 [.ref 164, zi x] (s, V) Q := by
  obtain ⟨hM, hC, hI, hPa, hX, ⟨hi1, hi2⟩, hR⟩ := id hm
  have hW := ho.1
  obtain ⟨n0, n1, c0, c1⟩ := hW.1
  obtain ⟨p0, p1⟩ := ho.2.1
  have tM := hM.1
  have hH : ∀ k : Nat, (k : Int) < σ.p → (σ.H k).n ≤ 12 ∧ (σ.H k).c ≤ 24 := fun k hk => by
    obtain ⟨b0, b1, b2, b3⟩ := (ho.2.2.1 k hk).1
    exact ⟨b1, b3⟩
  exact m_availability (by omega) hM hC hW hx (fun q => (e1 q).go hm) (fun q1 V1 f1 t1 => (h0 q1).qo hm (f1.mono (by decide) (by decide)) t1)
theorem u_weakest (hd : 20 ≤ d) (hm : zWm σ s V) (ho : zOK σ) {x : Int} (hx : zI32 x) (e1 : ¬ (0 ≤ x ∧ x < σ.r.n) → zMth Q 1 σ s V) (h0 : 0 ≤ x ∧ x < σ.r.n → zMrt Q (zavW σ.r x σ.r.n).1 σ s V) : zcall d 258 [.ref 164, zi x] (s, V) Q := by
  obtain ⟨hM, hC, hI, hPa, hX, ⟨hi1, hi2⟩, hR⟩ := id hm
  have hW := ho.1
  obtain ⟨n0, n1, c0, c1⟩ := hW.1
  obtain ⟨p0, p1⟩ := ho.2.1
  have tM := hM.1
  have hH : ∀ k : Nat, (k : Int) < σ.p → (σ.H k).n ≤ 12 ∧ (σ.H k).c ≤ 24 := fun k hk => by
    obtain ⟨b0, b1, b2, b3⟩ := (ho.2.2.1 k hk).1
    exact ⟨b1, b3⟩
  exact m_weakest (by omega) hM hC hW hx (fun q => (e1 q).go hm) (fun q1 V1 f1 t1 => (h0 q1).qo hm (f1.mono (by decide) (by decide)) t1)
set_option maxRecDepth 20000 in
theorem u_services (hd : 20 ≤ d) (hm : zWm σ s V) (ho : zOK σ) (h0 : zMrt Q σ.r.n σ s V) : zcall d 199 [.ref 164] (s, V) Q := by
  obtain ⟨hM, hC, hI, hPa, hX, ⟨hi1, hi2⟩, hR⟩ := id hm
  have hW := ho.1
  obtain ⟨n0, n1, c0, c1⟩ := hW.1
  obtain ⟨p0, p1⟩ := ho.2.1
  have tM := hM.1
  have hH : ∀ k : Nat, (k : Int) < σ.p → (σ.H k).n ≤ 12 ∧ (σ.H k).c ≤ 24 := fun k hk => by
    obtain ⟨b0, b1, b2, b3⟩ := (ho.2.2.1 k hk).1
    exact ⟨b1, b3⟩
  have tM := hM.1
  have vm_s : V 164 0 = .ref 165 := (hM.2 0 (by decide)).1
  have tm_s : s.tg 165 = 20 := (hM.2 0 (by decide)).2.1
  have lm_s : s.ln 165 = 230 := (hM.2 0 (by decide)).2.2
  have gn := hC.1
  have := h0.go hm
  obtain ⟨d, rfl⟩ : ∃ e, d = e + 1 := ⟨d - 1, by omega⟩
  simp (disch := first | assumption | omega) only [zc_199]
  simp (disch := first | assumption | exact zk_199 | ((repeat (first | exact z1n | refine z1I ?_ | refine z1R ?_)); done) | exact rfl | omega | decide) only [zb_199_0, r_aload_0, r_gf_640, r_iconst, r_ial, r_ial30, r_ial32, r_inv_2_0, r_inv_2_1, r_inv_2_2, r_inv_2_3, r_inv_2_4, r_K0, r_K1, r_iret, r_bret_0, r_bret_1, vm_s, gn, m_tells, ↓reduceIte, not_true_eq_false, not_false_eq_true, Int.reduceEq, Int.reduceLE, Int.reduceLT, Int.reduceAdd, Int.reduceNeg, Int.reduceMul, Int.reduceSub, Int.reduceToNat]
  exact this
set_option maxRecDepth 20000 in
theorem u_calls (hd : 20 ≤ d) (hm : zWm σ s V) (ho : zOK σ) (h0 : zMrt Q σ.r.c σ s V) : zcall d 200 [.ref 164] (s, V) Q := by
  obtain ⟨hM, hC, hI, hPa, hX, ⟨hi1, hi2⟩, hR⟩ := id hm
  have hW := ho.1
  obtain ⟨n0, n1, c0, c1⟩ := hW.1
  obtain ⟨p0, p1⟩ := ho.2.1
  have tM := hM.1
  have hH : ∀ k : Nat, (k : Int) < σ.p → (σ.H k).n ≤ 12 ∧ (σ.H k).c ≤ 24 := fun k hk => by
    obtain ⟨b0, b1, b2, b3⟩ := (ho.2.2.1 k hk).1
    exact ⟨b1, b3⟩
  have tM := hM.1
  have vm_s : V 164 0 = .ref 165 := (hM.2 0 (by decide)).1
  have tm_s : s.tg 165 = 20 := (hM.2 0 (by decide)).2.1
  have lm_s : s.ln 165 = 230 := (hM.2 0 (by decide)).2.2
  have gn := hC.2.1
  have := h0.go hm
  obtain ⟨d, rfl⟩ : ∃ e, d = e + 1 := ⟨d - 1, by omega⟩
  simp (disch := first | assumption | omega) only [zc_200]
  simp (disch := first | assumption | exact zk_200 | ((repeat (first | exact z1n | refine z1I ?_ | refine z1R ?_)); done) | exact rfl | omega | decide) only [zb_200_0, r_aload_0, r_gf_640, r_iconst, r_ial, r_ial30, r_ial32, r_inv_2_0, r_inv_2_1, r_inv_2_2, r_inv_2_3, r_inv_2_4, r_K0, r_K1, r_iret, r_bret_0, r_bret_1, vm_s, gn, m_tells, ↓reduceIte, not_true_eq_false, not_false_eq_true, Int.reduceEq, Int.reduceLE, Int.reduceLT, Int.reduceAdd, Int.reduceNeg, Int.reduceMul, Int.reduceSub, Int.reduceToNat]
  exact this
set_option maxRecDepth 20000 in
theorem u_down (hd : 20 ≤ d) (hm : zWm σ s V) (ho : zOK σ) (h0 : zMrt Q (zDown σ.r : Nat) σ s V) : zcall d 235 [.ref 164] (s, V) Q := by
  obtain ⟨hM, hC, hI, hPa, hX, ⟨hi1, hi2⟩, hR⟩ := id hm
  have hW := ho.1
  obtain ⟨n0, n1, c0, c1⟩ := hW.1
  obtain ⟨p0, p1⟩ := ho.2.1
  have tM := hM.1
  have hH : ∀ k : Nat, (k : Int) < σ.p → (σ.H k).n ≤ 12 ∧ (σ.H k).c ≤ 24 := fun k hk => by
    obtain ⟨b0, b1, b2, b3⟩ := (ho.2.2.1 k hk).1
    exact ⟨b1, b3⟩
  have := h0.go hm
  obtain ⟨d, rfl⟩ : ∃ e, d = e + 1 := ⟨d - 1, by omega⟩
  simp (disch := first | assumption | omega) only [zc_235]
  simp (disch := first | assumption | exact zk_235 | ((repeat (first | exact z1n | refine z1I ?_ | refine z1R ?_)); done) | exact rfl | omega | decide) only [zb_235_0, r_aload_0, r_inv_1_0, r_inv_1_1, r_inv_1_2, r_inv_1_3, r_inv_1_4, r_K0, r_K1, r_inv_2_0, r_inv_2_1, r_inv_2_2, r_inv_2_3, r_inv_2_4, r_iret, r_bret_0, r_bret_1, m_downs (hC := hC), m_tells, ↓reduceIte, not_true_eq_false, not_false_eq_true, Int.reduceEq, Int.reduceLE, Int.reduceLT, Int.reduceAdd, Int.reduceNeg, Int.reduceMul, Int.reduceSub, Int.reduceToNat]
  exact this
set_option maxRecDepth 20000 in
theorem m_value (hd : 4 ≤ d) (hM : zMP s V) {ρ : zR} (hC : zMC ρ V) (hW : zWF ρ) {x w : Int} (x0 : 0 ≤ x) (x1 : x < ρ.n) (w0 : 0 ≤ w) (w1 : w ≤ 10) : zcall d 201 [.ref 164, zi x, zi w] (s, V) Q = Q (.inl (some (zi (zTell ρ x w)))) (s, V) := by
  have tM := hM.1
  obtain ⟨n0, n1, c0, c1⟩ := hW.1
  have htr := zTell_rng hW x0 x1 w0 w1
  unfold zTell at htr ⊢
  obtain ⟨d, rfl⟩ : ∃ e, d = e + 1 := ⟨d - 1, by omega⟩
  simp (disch := first | assumption | omega) only [zc_201]
  by_cases h8 : w ≤ 8
  · rw [if_pos h8] at htr ⊢
    have w9 : w < 9 := by omega
    simp (disch := first | assumption | exact zk_201 | ((repeat (first | exact z1n | refine z1I ?_ | refine z1R ?_)); done) | exact rfl | omega | decide) only [zb_201_0, zb_201_1, zb_201_2, zb_201_3, r_iload_2, r_iconst, r_icmp_ge, r_aload_0, r_iload_1, r_inv_3_0, r_inv_3_1, r_inv_3_2, r_inv_3_3, r_inv_3_4, r_K0, r_K1, r_goto, r_icmp_ne, r_inv_2_0, r_inv_2_1, r_inv_2_2, r_inv_2_3, r_inv_2_4, r_goto_w, r_iret, r_bret_0, r_bret_1, m_of (hC := hC), ↓reduceIte, not_true_eq_false, not_false_eq_true, Int.reduceEq, Int.reduceLE, Int.reduceLT, Int.reduceAdd, Int.reduceNeg, Int.reduceMul, Int.reduceSub, Int.reduceToNat]
    rw [if_neg (by omega)]
  · rw [if_neg h8] at htr ⊢
    by_cases h9 : w = 9
    · subst h9
      rw [if_pos rfl]
      simp (disch := first | assumption | exact zk_201 | ((repeat (first | exact z1n | refine z1I ?_ | refine z1R ?_)); done) | exact rfl | omega | decide) only [zb_201_0, zb_201_1, zb_201_2, zb_201_3, r_iload_2, r_iconst, r_icmp_ge, r_aload_0, r_iload_1, r_inv_3_0, r_inv_3_1, r_inv_3_2, r_inv_3_3, r_inv_3_4, r_K0, r_K1, r_goto, r_icmp_ne, r_inv_2_0, r_inv_2_1, r_inv_2_2, r_inv_2_3, r_inv_2_4, r_goto_w, r_iret, r_bret_0, r_bret_1, m_own (hC := hC), ↓reduceIte, not_true_eq_false, not_false_eq_true, Int.reduceEq, Int.reduceLE, Int.reduceLT, Int.reduceAdd, Int.reduceNeg, Int.reduceMul, Int.reduceSub, Int.reduceToNat]
    · rw [if_neg h9] at htr ⊢
      simp (disch := first | assumption | exact zk_201 | ((repeat (first | exact z1n | refine z1I ?_ | refine z1R ?_)); done) | exact rfl | omega | decide) only [zb_201_0, zb_201_1, zb_201_2, zb_201_3, r_iload_2, r_iconst, r_icmp_ge, r_aload_0, r_iload_1, r_inv_3_0, r_inv_3_1, r_inv_3_2, r_inv_3_3, r_inv_3_4, r_K0, r_K1, r_goto, r_icmp_ne, r_inv_2_0, r_inv_2_1, r_inv_2_2, r_inv_2_3, r_inv_2_4, r_goto_w, r_iret, r_bret_0, r_bret_1, m_callsOf (hC := hC), h9, ↓reduceIte, not_true_eq_false, not_false_eq_true, Int.reduceEq, Int.reduceLE, Int.reduceLT, Int.reduceAdd, Int.reduceNeg, Int.reduceMul, Int.reduceSub, Int.reduceToNat]
      rw [if_pos (by omega)]
set_option maxRecDepth 20000 in
theorem m_callValue (hd : 4 ≤ d) (hM : zMP s V) {ρ : zR} (hC : zMC ρ V) (hW : zWF ρ) {x w : Int} (x0 : 0 ≤ x) (x1 : x < ρ.c) (w0 : 0 ≤ w) (w1 : w ≤ 5) : zcall d 203 [.ref 164, zi x, zi w] (s, V) Q = Q (.inl (some (zi (zTelK ρ x w)))) (s, V) := by
  have tM := hM.1
  obtain ⟨n0, n1, c0, c1⟩ := hW.1
  have htr := zTelK_rng hW x0 x1 w0 w1
  unfold zTelK at htr ⊢
  obtain ⟨d, rfl⟩ : ∃ e, d = e + 1 := ⟨d - 1, by omega⟩
  simp (disch := first | assumption | omega) only [zc_203]
  by_cases h8 : w < 5
  · rw [if_pos h8] at htr ⊢
    simp (disch := first | assumption | exact zk_203 | ((repeat (first | exact z1n | refine z1I ?_ | refine z1R ?_)); done) | exact rfl | omega | decide) only [zb_203_0, zb_203_1, zb_203_2, r_iload_2, r_iconst, r_icmp_ge, r_aload_0, r_iload_1, r_inv_3_0, r_inv_3_1, r_inv_3_2, r_inv_3_3, r_inv_3_4, r_K0, r_K1, r_goto, r_inv_2_0, r_inv_2_1, r_inv_2_2, r_inv_2_3, r_inv_2_4, r_goto_w, r_iret, r_bret_0, r_bret_1, m_callOf (hC := hC), ↓reduceIte, not_true_eq_false, not_false_eq_true, Int.reduceEq, Int.reduceLE, Int.reduceLT, Int.reduceAdd, Int.reduceNeg, Int.reduceMul, Int.reduceSub, Int.reduceToNat]
    rw [if_neg (by omega)]
  · rw [if_neg h8] at htr ⊢
    simp (disch := first | assumption | exact zk_203 | ((repeat (first | exact z1n | refine z1I ?_ | refine z1R ?_)); done) | exact rfl | omega | decide) only [zb_203_0, zb_203_1, zb_203_2, r_iload_2, r_iconst, r_icmp_ge, r_aload_0, r_iload_1, r_inv_3_0, r_inv_3_1, r_inv_3_2, r_inv_3_3, r_inv_3_4, r_K0, r_K1, r_goto, r_inv_2_0, r_inv_2_1, r_inv_2_2, r_inv_2_3, r_inv_2_4, r_goto_w, r_iret, r_bret_0, r_bret_1, m_leader (hC := hC), ↓reduceIte, not_true_eq_false, not_false_eq_true, Int.reduceEq, Int.reduceLE, Int.reduceLT, Int.reduceAdd, Int.reduceNeg, Int.reduceMul, Int.reduceSub, Int.reduceToNat]
    rw [if_pos (by omega)]
set_option maxRecDepth 20000 in
theorem u_service (hd : 20 ≤ d) (hm : zWm σ s V) (ho : zOK σ) {x w : Int} (hx : zI32 x) (hw : zI32 w) (e1 : ¬ (0 ≤ x ∧ x < σ.r.n) → zMth Q 1 σ s V) (e2 : (0 ≤ x ∧ x < σ.r.n) → ¬ (0 ≤ w ∧ w ≤ 10) → zMth Q 2 σ s V) (h0 : (0 ≤ x ∧ x < σ.r.n) → (0 ≤ w ∧ w ≤ 10) → zMrt Q (zTell σ.r x w) σ s V) : zcall d 202 [.ref 164, zi x, zi w] (s, V) Q := by
  obtain ⟨hM, hC, hI, hPa, hX, ⟨hi1, hi2⟩, hR⟩ := id hm
  have hW := ho.1
  obtain ⟨n0, n1, c0, c1⟩ := hW.1
  obtain ⟨p0, p1⟩ := ho.2.1
  have tM := hM.1
  have hH : ∀ k : Nat, (k : Int) < σ.p → (σ.H k).n ≤ 12 ∧ (σ.H k).c ≤ 24 := fun k hk => by
    obtain ⟨b0, b1, b2, b3⟩ := (ho.2.2.1 k hk).1
    exact ⟨b1, b3⟩
  have i1 : zI32 0 := ⟨by omega, by omega⟩
  have i2 : zI32 10 := ⟨by omega, by omega⟩
  obtain ⟨d, rfl⟩ : ∃ e, d = e + 1 := ⟨d - 1, by omega⟩
  simp (disch := first | assumption | omega) only [zc_202]
  by_cases q1 : 0 ≤ x ∧ x < σ.r.n
  · by_cases q2 : 0 ≤ w ∧ w ≤ 10
    · have := (h0 q1 q2).go hm
      obtain ⟨q3, q4⟩ := q1
      obtain ⟨q5, q6⟩ := q2
      simp (disch := first | assumption | exact zk_202 | ((repeat (first | exact z1n | refine z1I ?_ | refine z1R ?_)); done) | exact rfl | omega | decide) only [zb_202_0, zb_202_1, zb_202_2, zb_202_3, r_aload_0, r_iload_1, r_inv_2_0, r_inv_2_1, r_inv_2_2, r_inv_2_3, r_inv_2_4, r_K0, r_K1, r_if_ne, r_iconst, r_iret, r_bret_0, r_bret_1, r_iload_2, r_inv_3_0, r_inv_3_1, r_inv_3_2, r_inv_3_3, r_inv_3_4, r_if_eq, r_goto, r_goto_w, m_isService (hC := hC), q3, q4, q5, q6, and_self, m_in, m_value (hC := hC), m_tells, ↓reduceIte, not_true_eq_false, not_false_eq_true, Int.reduceEq, Int.reduceLE, Int.reduceLT, Int.reduceAdd, Int.reduceNeg, Int.reduceMul, Int.reduceSub, Int.reduceToNat]
      exact this
    · have := (e2 q1 q2).go hm
      simp (disch := first | assumption | exact zk_202 | ((repeat (first | exact z1n | refine z1I ?_ | refine z1R ?_)); done) | exact rfl | omega | decide) only [zb_202_0, zb_202_1, zb_202_2, zb_202_3, r_aload_0, r_iload_1, r_inv_2_0, r_inv_2_1, r_inv_2_2, r_inv_2_3, r_inv_2_4, r_K0, r_K1, r_if_ne, r_iconst, r_iret, r_bret_0, r_bret_1, r_iload_2, r_inv_3_0, r_inv_3_1, r_inv_3_2, r_inv_3_3, r_inv_3_4, r_if_eq, r_goto, r_goto_w, m_isService (hC := hC), q1, and_self, m_in, q2, m_fails, ↓reduceIte, not_true_eq_false, not_false_eq_true, Int.reduceEq, Int.reduceLE, Int.reduceLT, Int.reduceAdd, Int.reduceNeg, Int.reduceMul, Int.reduceSub, Int.reduceToNat]
      exact this
  · have := (e1 q1).go hm
    simp (disch := first | assumption | exact zk_202 | ((repeat (first | exact z1n | refine z1I ?_ | refine z1R ?_)); done) | exact rfl | omega | decide) only [zb_202_0, zb_202_1, zb_202_2, zb_202_3, r_aload_0, r_iload_1, r_inv_2_0, r_inv_2_1, r_inv_2_2, r_inv_2_3, r_inv_2_4, r_K0, r_K1, r_if_ne, r_iconst, r_iret, r_bret_0, r_bret_1, r_iload_2, r_inv_3_0, r_inv_3_1, r_inv_3_2, r_inv_3_3, r_inv_3_4, r_if_eq, r_goto, r_goto_w, m_isService (hC := hC), q1, m_fails, ↓reduceIte, not_true_eq_false, not_false_eq_true, Int.reduceEq, Int.reduceLE, Int.reduceLT, Int.reduceAdd, Int.reduceNeg, Int.reduceMul, Int.reduceSub, Int.reduceToNat]
    exact this
set_option maxRecDepth 20000 in
theorem u_call (hd : 20 ≤ d) (hm : zWm σ s V) (ho : zOK σ) {x w : Int} (hx : zI32 x) (hw : zI32 w) (e1 : ¬ (0 ≤ x ∧ x < σ.r.c) → zMth Q 1 σ s V) (e2 : (0 ≤ x ∧ x < σ.r.c) → ¬ (0 ≤ w ∧ w ≤ 5) → zMth Q 2 σ s V) (h0 : (0 ≤ x ∧ x < σ.r.c) → (0 ≤ w ∧ w ≤ 5) → zMrt Q (zTelK σ.r x w) σ s V) : zcall d 204 [.ref 164, zi x, zi w] (s, V) Q := by
  obtain ⟨hM, hC, hI, hPa, hX, ⟨hi1, hi2⟩, hR⟩ := id hm
  have hW := ho.1
  obtain ⟨n0, n1, c0, c1⟩ := hW.1
  obtain ⟨p0, p1⟩ := ho.2.1
  have tM := hM.1
  have hH : ∀ k : Nat, (k : Int) < σ.p → (σ.H k).n ≤ 12 ∧ (σ.H k).c ≤ 24 := fun k hk => by
    obtain ⟨b0, b1, b2, b3⟩ := (ho.2.2.1 k hk).1
    exact ⟨b1, b3⟩
  have i1 : zI32 0 := ⟨by omega, by omega⟩
  have i2 : zI32 5 := ⟨by omega, by omega⟩
  obtain ⟨d, rfl⟩ : ∃ e, d = e + 1 := ⟨d - 1, by omega⟩
  simp (disch := first | assumption | omega) only [zc_204]
  by_cases q1 : 0 ≤ x ∧ x < σ.r.c
  · by_cases q2 : 0 ≤ w ∧ w ≤ 5
    · have := (h0 q1 q2).go hm
      obtain ⟨q3, q4⟩ := q1
      obtain ⟨q5, q6⟩ := q2
      simp (disch := first | assumption | exact zk_204 | ((repeat (first | exact z1n | refine z1I ?_ | refine z1R ?_)); done) | exact rfl | omega | decide) only [zb_204_0, zb_204_1, zb_204_2, zb_204_3, r_aload_0, r_iload_1, r_inv_2_0, r_inv_2_1, r_inv_2_2, r_inv_2_3, r_inv_2_4, r_K0, r_K1, r_if_ne, r_iconst, r_iret, r_bret_0, r_bret_1, r_iload_2, r_inv_3_0, r_inv_3_1, r_inv_3_2, r_inv_3_3, r_inv_3_4, r_if_eq, r_goto, r_goto_w, m_isCall (hC := hC), q3, q4, q5, q6, and_self, m_in, m_callValue (hC := hC), m_tells, ↓reduceIte, not_true_eq_false, not_false_eq_true, Int.reduceEq, Int.reduceLE, Int.reduceLT, Int.reduceAdd, Int.reduceNeg, Int.reduceMul, Int.reduceSub, Int.reduceToNat]
      exact this
    · have := (e2 q1 q2).go hm
      simp (disch := first | assumption | exact zk_204 | ((repeat (first | exact z1n | refine z1I ?_ | refine z1R ?_)); done) | exact rfl | omega | decide) only [zb_204_0, zb_204_1, zb_204_2, zb_204_3, r_aload_0, r_iload_1, r_inv_2_0, r_inv_2_1, r_inv_2_2, r_inv_2_3, r_inv_2_4, r_K0, r_K1, r_if_ne, r_iconst, r_iret, r_bret_0, r_bret_1, r_iload_2, r_inv_3_0, r_inv_3_1, r_inv_3_2, r_inv_3_3, r_inv_3_4, r_if_eq, r_goto, r_goto_w, m_isCall (hC := hC), q1, and_self, m_in, q2, m_fails, ↓reduceIte, not_true_eq_false, not_false_eq_true, Int.reduceEq, Int.reduceLE, Int.reduceLT, Int.reduceAdd, Int.reduceNeg, Int.reduceMul, Int.reduceSub, Int.reduceToNat]
      exact this
  · have := (e1 q1).go hm
    simp (disch := first | assumption | exact zk_204 | ((repeat (first | exact z1n | refine z1I ?_ | refine z1R ?_)); done) | exact rfl | omega | decide) only [zb_204_0, zb_204_1, zb_204_2, zb_204_3, r_aload_0, r_iload_1, r_inv_2_0, r_inv_2_1, r_inv_2_2, r_inv_2_3, r_inv_2_4, r_K0, r_K1, r_if_ne, r_iconst, r_iret, r_bret_0, r_bret_1, r_iload_2, r_inv_3_0, r_inv_3_1, r_inv_3_2, r_inv_3_3, r_inv_3_4, r_if_eq, r_goto, r_goto_w, m_isCall (hC := hC), q1, m_fails, ↓reduceIte, not_true_eq_false, not_false_eq_true, Int.reduceEq, Int.reduceLE, Int.reduceLT, Int.reduceAdd, Int.reduceNeg, Int.reduceMul, Int.reduceSub, Int.reduceToNat]
    exact this
end
