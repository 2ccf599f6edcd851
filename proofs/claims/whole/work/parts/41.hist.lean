/-! HISTORY, 2: the model's rows -/
section
variable {d : Nat} {s : zS} {V : zV} {Q : zO → zH → Prop} {ρ : zR} {h : zH} {p : Int} {H : Nat → zR}
set_option maxRecDepth 20000 in
theorem m_hold (hd : 1 ≤ d) (hM : zMP s V) (hI : zInts V 165 230) (hQ : ∀ V', zFm [167] [] V V' → (∀ i, 0 ≤ i → i < 230 → V' 167 i = V 165 i) → Q (.inl none) (s, V')) : zcall d 165 [.ref 164] (s, V) Q := by
  obtain ⟨m, hm⟩ := hI.fn
  have tM := hM.1
  have vm_s : V 164 0 = .ref 165 := (hM.2 0 (by decide)).1
  have tm_s : s.tg 165 = 20 := (hM.2 0 (by decide)).2.1
  have lm_s : s.ln 165 = 230 := (hM.2 0 (by decide)).2.2
  have vm_aside : V 164 2 = .ref 167 := (hM.2 2 (by decide)).1
  have tm_aside : s.tg 167 = 20 := (hM.2 2 (by decide)).2.1
  have lm_aside : s.ln 167 = 230 := (hM.2 2 (by decide)).2.2
  obtain ⟨d, rfl⟩ : ∃ e, d = e + 1 := ⟨d - 1, by omega⟩
  simp (disch := first | assumption | omega) only [zc_165]
  simp (disch := first | assumption | exact zk_165 | ((repeat (first | exact z1n | refine z1I ?_ | refine z1R ?_)); done) | exact rfl | omega | decide) only [zb_165_0, r_iconst, r_istore_1i, r_istore_1r, r_istore_1j, r_goto_w, r_iload_1, r_icmp_ge, r_aload_0, r_gf_642, r_gf_640, r_ial, r_ial30, r_ial32, r_iastore, r_iinc_1i, r_iinc_1r, r_iinc_1j, r_goto, r_ret, vm_s, vm_aside, ↓reduceIte, not_true_eq_false, not_false_eq_true, Int.reduceEq, Int.reduceLE, Int.reduceLT, Int.reduceAdd, Int.reduceNeg, Int.reduceMul, Int.reduceSub, Int.reduceToNat]
  have hx := z_iter (i := 0) (n := 230) (I := fun k (q : zV) => zFm [167] [] V q ∧ ∀ i, 0 ≤ i → i < k → q 167 i = V 165 i) (P := fun k q => zwp (zcall d) 165 Q (zB 165 1) [.ref 164, zi k] [] (s, q)) (by omega)
  refine hx ?_ ?_ V ⟨zFm.rf, fun i _ _ => by omega⟩
  · rintro k V1 k0 k1 ⟨f1, e1⟩ ih
    have g0 : V1 164 0 = .ref 165 := (f1.2 0 (by simp)).trans vm_s
    have g2 : V1 164 2 = .ref 167 := (f1.2 2 (by simp)).trans vm_aside
    have e5 : V1 165 k = zi (m k) := by rw [f1.1 165 (by omega) (by simp)]; exact hm k k0 k1
    conv => rw [zb_165_1]
    simp (disch := first | assumption | exact zk_165 | ((repeat (first | exact z1n | refine z1I ?_ | refine z1R ?_)); done) | exact rfl | omega | decide) only [r_iconst, r_istore_1i, r_istore_1r, r_istore_1j, r_goto_w, r_iload_1, r_icmp_ge, r_aload_0, r_gf_642, r_gf_640, r_ial, r_ial30, r_ial32, r_iastore, r_iinc_1i, r_iinc_1r, r_iinc_1j, r_goto, r_ret, vm_s, vm_aside, g0, g2, e5, ↓reduceIte, not_true_eq_false, not_false_eq_true, Int.reduceEq, Int.reduceLE, Int.reduceLT, Int.reduceAdd, Int.reduceNeg, Int.reduceMul, Int.reduceSub, Int.reduceToNat]
    rw [if_neg (by omega)]
    refine ih _ ⟨f1.pr (by simp) (by omega), fun i i0 i1 => ?_⟩
    by_cases q : i = k
    · rw [q, zput_at, hm k k0 k1]
    · rw [zput_i q]; exact e1 i i0 (by omega)
  · rintro V1 ⟨f1, e1⟩
    simp (disch := first | assumption | exact zk_165 | ((repeat (first | exact z1n | refine z1I ?_ | refine z1R ?_)); done) | exact rfl | omega | decide) only [zb_165_1, zb_165_2, r_iconst, r_istore_1i, r_istore_1r, r_istore_1j, r_goto_w, r_iload_1, r_icmp_ge, r_aload_0, r_gf_642, r_gf_640, r_ial, r_ial30, r_ial32, r_iastore, r_iinc_1i, r_iinc_1r, r_iinc_1j, r_goto, r_ret, vm_s, vm_aside, ↓reduceIte, not_true_eq_false, not_false_eq_true, Int.reduceEq, Int.reduceLE, Int.reduceLT, Int.reduceAdd, Int.reduceNeg, Int.reduceMul, Int.reduceSub, Int.reduceToNat]
    exact hQ V1 f1 e1
set_option maxRecDepth 20000 in
theorem m_restore (hd : 1 ≤ d) (hM : zMP s V) (hI : zInts V 167 230) (hQ : ∀ V', zFm [165] [] V V' → (∀ i, 0 ≤ i → i < 230 → V' 165 i = V 167 i) → Q (.inl none) (s, V')) : zcall d 166 [.ref 164] (s, V) Q := by
  obtain ⟨m, hm⟩ := hI.fn
  have tM := hM.1
  have vm_s : V 164 0 = .ref 165 := (hM.2 0 (by decide)).1
  have tm_s : s.tg 165 = 20 := (hM.2 0 (by decide)).2.1
  have lm_s : s.ln 165 = 230 := (hM.2 0 (by decide)).2.2
  have vm_aside : V 164 2 = .ref 167 := (hM.2 2 (by decide)).1
  have tm_aside : s.tg 167 = 20 := (hM.2 2 (by decide)).2.1
  have lm_aside : s.ln 167 = 230 := (hM.2 2 (by decide)).2.2
  obtain ⟨d, rfl⟩ : ∃ e, d = e + 1 := ⟨d - 1, by omega⟩
  simp (disch := first | assumption | omega) only [zc_166]
  simp (disch := first | assumption | exact zk_166 | ((repeat (first | exact z1n | refine z1I ?_ | refine z1R ?_)); done) | exact rfl | omega | decide) only [zb_166_0, r_iconst, r_istore_1i, r_istore_1r, r_istore_1j, r_goto_w, r_iload_1, r_icmp_ge, r_aload_0, r_gf_640, r_gf_642, r_ial, r_ial30, r_ial32, r_iastore, r_iinc_1i, r_iinc_1r, r_iinc_1j, r_goto, r_ret, vm_s, vm_aside, ↓reduceIte, not_true_eq_false, not_false_eq_true, Int.reduceEq, Int.reduceLE, Int.reduceLT, Int.reduceAdd, Int.reduceNeg, Int.reduceMul, Int.reduceSub, Int.reduceToNat]
  have hx := z_iter (i := 0) (n := 230) (I := fun k (q : zV) => zFm [165] [] V q ∧ ∀ i, 0 ≤ i → i < k → q 165 i = V 167 i) (P := fun k q => zwp (zcall d) 166 Q (zB 166 1) [.ref 164, zi k] [] (s, q)) (by omega)
  refine hx ?_ ?_ V ⟨zFm.rf, fun i _ _ => by omega⟩
  · rintro k V1 k0 k1 ⟨f1, e1⟩ ih
    have g0 : V1 164 0 = .ref 165 := (f1.2 0 (by simp)).trans vm_s
    have g2 : V1 164 2 = .ref 167 := (f1.2 2 (by simp)).trans vm_aside
    have e5 : V1 167 k = zi (m k) := by rw [f1.1 167 (by omega) (by simp)]; exact hm k k0 k1
    conv => rw [zb_166_1]
    simp (disch := first | assumption | exact zk_166 | ((repeat (first | exact z1n | refine z1I ?_ | refine z1R ?_)); done) | exact rfl | omega | decide) only [r_iconst, r_istore_1i, r_istore_1r, r_istore_1j, r_goto_w, r_iload_1, r_icmp_ge, r_aload_0, r_gf_640, r_gf_642, r_ial, r_ial30, r_ial32, r_iastore, r_iinc_1i, r_iinc_1r, r_iinc_1j, r_goto, r_ret, vm_s, vm_aside, g0, g2, e5, ↓reduceIte, not_true_eq_false, not_false_eq_true, Int.reduceEq, Int.reduceLE, Int.reduceLT, Int.reduceAdd, Int.reduceNeg, Int.reduceMul, Int.reduceSub, Int.reduceToNat]
    rw [if_neg (by omega)]
    refine ih _ ⟨f1.pr (by simp) (by omega), fun i i0 i1 => ?_⟩
    by_cases q : i = k
    · rw [q, zput_at, hm k k0 k1]
    · rw [zput_i q]; exact e1 i i0 (by omega)
  · rintro V1 ⟨f1, e1⟩
    simp (disch := first | assumption | exact zk_166 | ((repeat (first | exact z1n | refine z1I ?_ | refine z1R ?_)); done) | exact rfl | omega | decide) only [zb_166_1, zb_166_2, r_iconst, r_istore_1i, r_istore_1r, r_istore_1j, r_goto_w, r_iload_1, r_icmp_ge, r_aload_0, r_gf_640, r_gf_642, r_ial, r_ial30, r_ial32, r_iastore, r_iinc_1i, r_iinc_1r, r_iinc_1j, r_goto, r_ret, vm_s, vm_aside, ↓reduceIte, not_true_eq_false, not_false_eq_true, Int.reduceEq, Int.reduceLE, Int.reduceLT, Int.reduceAdd, Int.reduceNeg, Int.reduceMul, Int.reduceSub, Int.reduceToNat]
    exact hQ V1 f1 e1
/-- the model's past -/
def zPaC (p : Int) (H : Nat → zR) (V : zV) : Prop := V 164 3 = zi p ∧ zInts V 166 920 ∧ ∀ k : Nat, (k : Int) < p → zMCr (H k) V 166 (230 * k)
theorem zMCr.of {ρ : zR} {V V' : zV} {r r' : Nat} {o o' : Int} (hC : zMCr ρ V r o) (hB : ρ.n ≤ 12 ∧ ρ.c ≤ 24) (h : ∀ i, 0 ≤ i → i < 230 → V' r' (o' + i) = V r (o + i)) : zMCr ρ V' r' o' := by
  obtain ⟨c1, c2, c3, c4⟩ := hC
  refine ⟨(h 0 (by omega) (by omega)).trans c1, (h 1 (by omega) (by omega)).trans c2, fun w x a b c e => ?_, fun w k a b c e => ?_⟩
  · rw [h (2 + 9 * x + w) (by omega) (by omega)]; exact c3 w x a b c e
  · rw [h (110 + 5 * k + w) (by omega) (by omega)]; exact c4 w k a b c e
set_option maxRecDepth 20000 in
theorem m_ends (hd : 2 ≤ d) (hM : zMP s V) (hP : zPaC p H V) (p0 : 0 ≤ p) (p1 : p ≤ 4) (hI : zInts V 167 230) (hC : zMCr ρ V 167 0) (hB : ρ.n ≤ 12 ∧ ρ.c ≤ 24) (hH : ∀ k : Nat, (k : Int) < p → (H k).n ≤ 12 ∧ (H k).c ≤ 24) {x : Int} (hQ : ∀ V', zFm [166] [3, 6] V V' → zPaC (zHiQ p + 1 : Nat) (zHiN p H ρ) V' → V' 164 6 = zi 0 → Q (.inl (some (zi x))) (s, V')) : zcall d 167 [.ref 164, zi x] (s, V) Q := by
  obtain ⟨m, hm⟩ := hI.fn
  obtain ⟨hp3, hI6, hH6⟩ := hP
  obtain ⟨m6, hm6⟩ := hI6.fn
  have tM := hM.1
  have vm_past : V 164 1 = .ref 166 := (hM.2 1 (by decide)).1
  have tm_past : s.tg 166 = 20 := (hM.2 1 (by decide)).2.1
  have lm_past : s.ln 166 = 920 := (hM.2 1 (by decide)).2.2
  have vm_aside : V 164 2 = .ref 167 := (hM.2 2 (by decide)).1
  have tm_aside : s.tg 167 = 20 := (hM.2 2 (by decide)).2.1
  have lm_aside : s.ln 167 = 230 := (hM.2 2 (by decide)).2.2
  obtain ⟨d, rfl⟩ : ∃ e, d = e + 1 := ⟨d - 1, by omega⟩
  simp (disch := first | assumption | omega) only [zc_167]
  have rest : ∀ (q : Nat) (V1 : zV) (H1 : Nat → zR) (w : Value), q < 4 → zFm [166] [3, 6] V V1 → zPaC q H1 V1 → (∀ k : Nat, k < q → (H1 k).n ≤ 12 ∧ (H1 k).c ≤ 24) → (∀ V', zFm [166] [3, 6] V V' → zPaC (q + 1 : Nat) (fun k => if k < q then H1 k else ρ) V' → V' 164 6 = zi 0 → Q (.inl (some (zi x))) (s, V')) → zwp (zcall d) 167 Q (zB 167 3) [.ref 164, zi x, w] [] (s, V1) := by
    intro q V1 H1 w hq f1 hP1 hH1 hQ1
    obtain ⟨u3, uI, uH⟩ := hP1
    simp (disch := first | assumption | exact zk_167 | ((repeat (first | exact z1n | refine z1I ?_ | refine z1R ?_)); done) | exact rfl | omega | decide) only [zb_167_3, r_aload_0, r_gf_643, r_iconst, r_icmp_ne, r_istore_2i, r_istore_2r, r_istore_2j, r_goto_w, r_iload_2, r_icmp_ge, r_gf_641, r_iadd, r_ial, r_ial30, r_ial32, r_iastore, r_iinc_2i, r_iinc_2r, r_iinc_2j, r_goto, r_dup_i, r_dup_r, r_isub, r_pf_643, r_imul, r_gf_642, r_iload_1, r_inv_2_0, r_inv_2_1, r_inv_2_2, r_inv_2_3, r_inv_2_4, r_K0, r_K1, r_iret, r_bret_0, r_bret_1, vm_past, vm_aside, ↓reduceIte, not_true_eq_false, not_false_eq_true, Int.reduceEq, Int.reduceLE, Int.reduceLT, Int.reduceAdd, Int.reduceNeg, Int.reduceMul, Int.reduceSub, Int.reduceToNat]
    have hx := z_iter (i := 0) (n := 230) (I := fun k (y : zV) => zFm [166] [] V1 y ∧ (∀ i, 0 ≤ i → i < k → y 166 (230 * q + i) = V 167 i) ∧ ∀ i : Int, (i < 230 * q ∨ 230 * q + 230 ≤ i) → y 166 i = V1 166 i) (P := fun k y => zwp (zcall d) 167 Q (zB 167 4) [.ref 164, zi x, zi k] [] (s, y)) (by omega)
    refine hx ?_ ?_ V1 ⟨zFm.rf, fun i _ _ => by omega, fun _ _ => rfl⟩
    · rintro k V2 k0 k1 ⟨f2, e2, e3⟩ ih
      have g1 : V2 164 1 = .ref 166 := (f2.2 1 (by simp)).trans ((f1.2 1 (by simp)).trans vm_past)
      have g2 : V2 164 2 = .ref 167 := (f2.2 2 (by simp)).trans ((f1.2 2 (by simp)).trans vm_aside)
      have g3 : V2 164 3 = zi q := (f2.2 3 (by simp)).trans u3
      have e5 : V2 167 k = zi (m k) := by rw [f2.1 167 (by omega) (by simp), f1.1 167 (by omega) (by simp)]; exact hm k k0 k1
      conv => rw [zb_167_4]
      simp (disch := first | assumption | exact zk_167 | ((repeat (first | exact z1n | refine z1I ?_ | refine z1R ?_)); done) | exact rfl | omega | decide) only [r_aload_0, r_gf_643, r_iconst, r_icmp_ne, r_istore_2i, r_istore_2r, r_istore_2j, r_goto_w, r_iload_2, r_icmp_ge, r_gf_641, r_iadd, r_ial, r_ial30, r_ial32, r_iastore, r_iinc_2i, r_iinc_2r, r_iinc_2j, r_goto, r_dup_i, r_dup_r, r_isub, r_pf_643, r_imul, r_gf_642, r_iload_1, r_inv_2_0, r_inv_2_1, r_inv_2_2, r_inv_2_3, r_inv_2_4, r_K0, r_K1, r_iret, r_bret_0, r_bret_1, vm_past, vm_aside, g1, g2, g3, e5, ↓reduceIte, not_true_eq_false, not_false_eq_true, Int.reduceEq, Int.reduceLE, Int.reduceLT, Int.reduceAdd, Int.reduceNeg, Int.reduceMul, Int.reduceSub, Int.reduceToNat]
      rw [if_neg (by omega)]
      refine ih _ ⟨f2.pr (by simp) (by omega), fun i i0 i1 => ?_, fun i hi => ?_⟩
      · by_cases y : i = k
        · rw [y, zput_at, hm k k0 k1]
        · rw [zput_i (by omega)]; exact e2 i i0 (by omega)
      · rw [zput_i (by omega)]; exact e3 i hi
    · rintro V2 ⟨f2, e2, e3⟩
      have g3 : V2 164 3 = zi q := (f2.2 3 (by simp)).trans u3
      have f3 : zFm [166] [3, 6] V (zput V2 164 3 (zi ((q : Int) + 1))) := (f1.tr (f2.mono (fun _ h => h) (fun _ h => by simp at h))).pf (by simp)
      have hM3 : zMP s (zput V2 164 3 (zi ((q : Int) + 1))) := hM.fm f3 (by decide)
      simp (disch := first | assumption | exact zk_167 | ((repeat (first | exact z1n | refine z1I ?_ | refine z1R ?_)); done) | exact rfl | omega | decide) only [zb_167_4, zb_167_5, r_aload_0, r_gf_643, r_iconst, r_icmp_ne, r_istore_2i, r_istore_2r, r_istore_2j, r_goto_w, r_iload_2, r_icmp_ge, r_gf_641, r_iadd, r_ial, r_ial30, r_ial32, r_iastore, r_iinc_2i, r_iinc_2r, r_iinc_2j, r_goto, r_dup_i, r_dup_r, r_isub, r_pf_643, r_imul, r_gf_642, r_iload_1, r_inv_2_0, r_inv_2_1, r_inv_2_2, r_inv_2_3, r_inv_2_4, r_K0, r_K1, r_iret, r_bret_0, r_bret_1, vm_past, vm_aside, g3, m_tells, ↓reduceIte, not_true_eq_false, not_false_eq_true, Int.reduceEq, Int.reduceLE, Int.reduceLT, Int.reduceAdd, Int.reduceNeg, Int.reduceMul, Int.reduceSub, Int.reduceToNat]
      refine hQ1 _ (f3.pf (by simp)) ⟨?_, fun i i0 i1 => ?_, fun k hk => ?_⟩ zput_at
      · rw [zput_k (by omega), zput_at]; rfl
      · rw [zput_r (by omega), zput_r (by omega)]
        by_cases c : i < 230 * q ∨ 230 * q + 230 ≤ i
        · rw [e3 i c]; exact uI i i0 i1
        · have := e2 (i - 230 * q) (by omega) (by omega)
          rw [show 230 * (q : Int) + (i - 230 * q) = i by omega] at this
          rw [this]
          exact hI _ (by omega) (by omega)
      · dsimp only
        by_cases c : k < q
        · rw [if_pos c]
          refine (uH k (by omega)).of (hH1 k c) (fun i i0 i1 => ?_)
          rw [zput_r (by omega), zput_r (by omega)]
          exact e3 _ (by omega)
        · have : k = q := by omega
          subst this
          rw [if_neg c]
          refine hC.of hB (fun i i0 i1 => ?_)
          rw [zput_r (by omega), zput_r (by omega), e2 i i0 i1, Int.zero_add]
  by_cases e : p = 4
  · subst e
    simp (disch := first | assumption | exact zk_167 | ((repeat (first | exact z1n | refine z1I ?_ | refine z1R ?_)); done) | exact rfl | omega | decide) only [zb_167_0, r_aload_0, r_gf_643, r_iconst, r_icmp_ne, r_istore_2i, r_istore_2r, r_istore_2j, r_goto_w, r_iload_2, r_icmp_ge, r_gf_641, r_iadd, r_ial, r_ial30, r_ial32, r_iastore, r_iinc_2i, r_iinc_2r, r_iinc_2j, r_goto, r_dup_i, r_dup_r, r_isub, r_pf_643, r_imul, r_gf_642, r_iload_1, r_inv_2_0, r_inv_2_1, r_inv_2_2, r_inv_2_3, r_inv_2_4, r_K0, r_K1, r_iret, r_bret_0, r_bret_1, vm_past, vm_aside, hp3, ↓reduceIte, not_true_eq_false, not_false_eq_true, Int.reduceEq, Int.reduceLE, Int.reduceLT, Int.reduceAdd, Int.reduceNeg, Int.reduceMul, Int.reduceSub, Int.reduceToNat]
    have hx := z_iter (i := 0) (n := 690) (I := fun k (y : zV) => zFm [166] [] V y ∧ (∀ i, 0 ≤ i → i < k → y 166 i = V 166 (i + 230)) ∧ ∀ i, k ≤ i → y 166 i = V 166 i) (P := fun k y => zwp (zcall d) 167 Q (zB 167 1) [.ref 164, zi x, zi k] [] (s, y)) (by omega)
    refine hx ?_ ?_ V ⟨zFm.rf, fun i _ _ => by omega, fun _ _ => rfl⟩
    · rintro k V2 k0 k1 ⟨f2, e2, e3⟩ ih
      have g1 : V2 164 1 = .ref 166 := (f2.2 1 (by simp)).trans vm_past
      have e5 : V2 166 (k + 230) = zi (m6 (k + 230)) := by rw [e3 _ (by omega)]; exact hm6 _ (by omega) (by omega)
      conv => rw [zb_167_1]
      simp (disch := first | assumption | exact zk_167 | ((repeat (first | exact z1n | refine z1I ?_ | refine z1R ?_)); done) | exact rfl | omega | decide) only [r_aload_0, r_gf_643, r_iconst, r_icmp_ne, r_istore_2i, r_istore_2r, r_istore_2j, r_goto_w, r_iload_2, r_icmp_ge, r_gf_641, r_iadd, r_ial, r_ial30, r_ial32, r_iastore, r_iinc_2i, r_iinc_2r, r_iinc_2j, r_goto, r_dup_i, r_dup_r, r_isub, r_pf_643, r_imul, r_gf_642, r_iload_1, r_inv_2_0, r_inv_2_1, r_inv_2_2, r_inv_2_3, r_inv_2_4, r_K0, r_K1, r_iret, r_bret_0, r_bret_1, vm_past, vm_aside, g1, e5, ↓reduceIte, not_true_eq_false, not_false_eq_true, Int.reduceEq, Int.reduceLE, Int.reduceLT, Int.reduceAdd, Int.reduceNeg, Int.reduceMul, Int.reduceSub, Int.reduceToNat]
      rw [if_neg (by omega)]
      refine ih _ ⟨f2.pr (by simp) (by omega), fun i i0 i1 => ?_, fun i hi => ?_⟩
      · by_cases y : i = k
        · rw [y, zput_at, hm6 _ (by omega) (by omega)]
        · rw [zput_i y]; exact e2 i i0 (by omega)
      · rw [zput_i (by omega)]; exact e3 i (by omega)
    · rintro V2 ⟨f2, e2, e3⟩
      have g3 : V2 164 3 = zi 4 := (f2.2 3 (by simp)).trans hp3
      simp (disch := first | assumption | exact zk_167 | ((repeat (first | exact z1n | refine z1I ?_ | refine z1R ?_)); done) | exact rfl | omega | decide) only [zb_167_1, zb_167_2, r_aload_0, r_gf_643, r_iconst, r_icmp_ne, r_istore_2i, r_istore_2r, r_istore_2j, r_goto_w, r_iload_2, r_icmp_ge, r_gf_641, r_iadd, r_ial, r_ial30, r_ial32, r_iastore, r_iinc_2i, r_iinc_2r, r_iinc_2j, r_goto, r_dup_i, r_dup_r, r_isub, r_pf_643, r_imul, r_gf_642, r_iload_1, r_inv_2_0, r_inv_2_1, r_inv_2_2, r_inv_2_3, r_inv_2_4, r_K0, r_K1, r_iret, r_bret_0, r_bret_1, vm_past, vm_aside, g3, ↓reduceIte, not_true_eq_false, not_false_eq_true, Int.reduceEq, Int.reduceLE, Int.reduceLT, Int.reduceAdd, Int.reduceNeg, Int.reduceMul, Int.reduceSub, Int.reduceToNat]
      refine rest 3 _ (fun k => H (k + 1)) _ (by omega) ((f2.mono (fun _ h => h) (fun _ h => by simp at h)).pf (by simp)) ⟨zput_at, fun i i0 i1 => ?_, fun k hk => ?_⟩ (fun k hk => hH (k + 1) (by omega)) (fun V' g1 g2 g3 => hQ V' g1 g2 g3)
      · rw [zput_r (by omega)]
        by_cases c : i < 690
        · rw [e2 i i0 c]; exact hI6 _ (by omega) (by omega)
        · rw [e3 i (by omega)]; exact hI6 _ (by omega) (by omega)
      · refine (hH6 (k + 1) (by omega)).of (hH (k + 1) (by omega)) (fun i i0 i1 => ?_)
        rw [zput_r (by omega), e2 _ (by omega) (by omega)]
        congr 1
        omega
  · simp (disch := first | assumption | exact zk_167 | ((repeat (first | exact z1n | refine z1I ?_ | refine z1R ?_)); done) | exact rfl | omega | decide) only [zb_167_0, r_aload_0, r_gf_643, r_iconst, r_icmp_ne, r_istore_2i, r_istore_2r, r_istore_2j, r_goto_w, r_iload_2, r_icmp_ge, r_gf_641, r_iadd, r_ial, r_ial30, r_ial32, r_iastore, r_iinc_2i, r_iinc_2r, r_iinc_2j, r_goto, r_dup_i, r_dup_r, r_isub, r_pf_643, r_imul, r_gf_642, r_iload_1, r_inv_2_0, r_inv_2_1, r_inv_2_2, r_inv_2_3, r_inv_2_4, r_K0, r_K1, r_iret, r_bret_0, r_bret_1, vm_past, vm_aside, hp3, e, ↓reduceIte, not_true_eq_false, not_false_eq_true, Int.reduceEq, Int.reduceLE, Int.reduceLT, Int.reduceAdd, Int.reduceNeg, Int.reduceMul, Int.reduceSub, Int.reduceToNat]
    have hq : (p.toNat : Int) = p := by omega
    have e3 : zHiQ p = p.toNat := by unfold zHiQ; rw [if_neg e]
    have e4 : zHiN p H ρ = fun k => if k < p.toNat then H k else ρ := by
      funext k
      unfold zHiN
      rw [e3, if_neg e]
    rw [e3, e4] at hQ
    exact rest p.toNat V H zJ (by omega) zFm.rf (by rw [hq]; exact ⟨hp3, hI6, hH6⟩) (fun k hk => hH k (by omega)) (fun V' g1 g2 g3 => hQ V' g1 g2 g3)
set_option maxRecDepth 20000 in
theorem m_undo (hd : 2 ≤ d) (hM : zMP s V) (hP : zPaC p H V) (p0 : 1 ≤ p) (p1 : p ≤ 4) (hB : (H (p.toNat - 1)).n ≤ 12 ∧ (H (p.toNat - 1)).c ≤ 24) (hQ : ∀ V', zFm [165] [3, 6] V V' → V' 164 3 = zi (p - 1) → zMC (H (p.toNat - 1)) V' → zInts V' 165 230 → V' 164 6 = zi 0 → Q (.inl (some (zi (p - 1)))) (s, V')) : zcall d 267 [.ref 164] (s, V) Q := by
  obtain ⟨hp3, hI6, hH6⟩ := hP
  obtain ⟨m6, hm6⟩ := hI6.fn
  obtain ⟨q, hq⟩ : ∃ q : Nat, p = q + 1 := ⟨p.toNat - 1, by omega⟩
  have hqn : p.toNat - 1 = q := by omega
  have e1 : p - 1 = q := by omega
  rw [hqn, e1] at hQ
  rw [hqn] at hB
  have tM := hM.1
  have vm_s : V 164 0 = .ref 165 := (hM.2 0 (by decide)).1
  have tm_s : s.tg 165 = 20 := (hM.2 0 (by decide)).2.1
  have lm_s : s.ln 165 = 230 := (hM.2 0 (by decide)).2.2
  have vm_past : V 164 1 = .ref 166 := (hM.2 1 (by decide)).1
  have tm_past : s.tg 166 = 20 := (hM.2 1 (by decide)).2.1
  have lm_past : s.ln 166 = 920 := (hM.2 1 (by decide)).2.2
  obtain ⟨d, rfl⟩ : ∃ e, d = e + 1 := ⟨d - 1, by omega⟩
  simp (disch := first | assumption | omega) only [zc_267]
  simp (disch := first | assumption | exact zk_267 | ((repeat (first | exact z1n | refine z1I ?_ | refine z1R ?_)); done) | exact rfl | omega | decide) only [zb_267_0, zb_267_1, r_aload_0, r_gf_643, r_if_ne, r_iconst, r_inv_2_0, r_inv_2_1, r_inv_2_2, r_inv_2_3, r_inv_2_4, r_K0, r_K1, r_iret, r_bret_0, r_bret_1, r_dup_i, r_dup_r, r_isub, r_pf_643, r_istore_1i, r_istore_1r, r_istore_1j, r_goto_w, r_iload_1, r_icmp_ge, r_gf_640, r_gf_641, r_imul, r_iadd, r_ial, r_ial30, r_ial32, r_iastore, r_iinc_1i, r_iinc_1r, r_iinc_1j, r_goto, vm_s, vm_past, hp3, e1, ↓reduceIte, not_true_eq_false, not_false_eq_true, Int.reduceEq, Int.reduceLE, Int.reduceLT, Int.reduceAdd, Int.reduceNeg, Int.reduceMul, Int.reduceSub, Int.reduceToNat]
  rw [if_pos (by omega)]
  have hx := z_iter (i := 0) (n := 230) (I := fun k (y : zV) => zFm [165] [3] V y ∧ y 164 3 = zi q ∧ ∀ i, 0 ≤ i → i < k → y 165 i = V 166 (230 * q + i)) (P := fun k y => zwp (zcall d) 267 Q (zB 267 2) [.ref 164, zi k] [] (s, y)) (by omega)
  refine hx ?_ ?_ _ ⟨zFm.rf.pf (by simp), zput_at, fun i _ _ => by omega⟩
  · rintro k V2 k0 k1 ⟨f2, g3, e2⟩ ih
    have g0 : V2 164 0 = .ref 165 := (f2.2 0 (by simp)).trans vm_s
    have g1 : V2 164 1 = .ref 166 := (f2.2 1 (by simp)).trans vm_past
    have e5 : V2 166 (230 * q + k) = zi (m6 (230 * q + k)) := by rw [f2.1 166 (by omega) (by simp)]; exact hm6 _ (by omega) (by omega)
    conv => rw [zb_267_2]
    simp (disch := first | assumption | exact zk_267 | ((repeat (first | exact z1n | refine z1I ?_ | refine z1R ?_)); done) | exact rfl | omega | decide) only [r_aload_0, r_gf_643, r_if_ne, r_iconst, r_inv_2_0, r_inv_2_1, r_inv_2_2, r_inv_2_3, r_inv_2_4, r_K0, r_K1, r_iret, r_bret_0, r_bret_1, r_dup_i, r_dup_r, r_isub, r_pf_643, r_istore_1i, r_istore_1r, r_istore_1j, r_goto_w, r_iload_1, r_icmp_ge, r_gf_640, r_gf_641, r_imul, r_iadd, r_ial, r_ial30, r_ial32, r_iastore, r_iinc_1i, r_iinc_1r, r_iinc_1j, r_goto, vm_s, vm_past, g0, g1, g3, e5, ↓reduceIte, not_true_eq_false, not_false_eq_true, Int.reduceEq, Int.reduceLE, Int.reduceLT, Int.reduceAdd, Int.reduceNeg, Int.reduceMul, Int.reduceSub, Int.reduceToNat]
    rw [if_neg (by omega)]
    refine ih _ ⟨f2.pr (by simp) (by omega), (zput_r (by omega)).trans g3, fun i i0 i1 => ?_⟩
    by_cases y : i = k
    · rw [y, zput_at, hm6 _ (by omega) (by omega)]
    · rw [zput_i y]; exact e2 i i0 (by omega)
  · rintro V2 ⟨f2, g3, e2⟩
    have hM2 : zMP s V2 := hM.fm f2 (by decide)
    simp (disch := first | assumption | exact zk_267 | ((repeat (first | exact z1n | refine z1I ?_ | refine z1R ?_)); done) | exact rfl | omega | decide) only [zb_267_2, zb_267_3, r_aload_0, r_gf_643, r_if_ne, r_iconst, r_inv_2_0, r_inv_2_1, r_inv_2_2, r_inv_2_3, r_inv_2_4, r_K0, r_K1, r_iret, r_bret_0, r_bret_1, r_dup_i, r_dup_r, r_isub, r_pf_643, r_istore_1i, r_istore_1r, r_istore_1j, r_goto_w, r_iload_1, r_icmp_ge, r_gf_640, r_gf_641, r_imul, r_iadd, r_ial, r_ial30, r_ial32, r_iastore, r_iinc_1i, r_iinc_1r, r_iinc_1j, r_goto, vm_s, vm_past, g3, m_tells, ↓reduceIte, not_true_eq_false, not_false_eq_true, Int.reduceEq, Int.reduceLE, Int.reduceLT, Int.reduceAdd, Int.reduceNeg, Int.reduceMul, Int.reduceSub, Int.reduceToNat]
    refine hQ _ ((f2.mono (fun _ h => h) (fun _ h => by simp at h; simp [h])).pf (by simp)) ?_ ?_ ?_ zput_at
    · rw [zput_k (by omega)]; exact g3
    · rw [zMC_r]
      refine (hH6 q (by omega)).of hB (fun i i0 i1 => ?_)
      rw [zput_r (by omega), Int.zero_add]
      exact e2 i i0 i1
    · intro i i0 i1
      rw [zput_r (by omega), e2 i i0 i1]
      exact hI6 _ (by omega) (by omega)
end
