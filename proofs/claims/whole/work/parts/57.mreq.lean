/-! REQUEST, 5: the model's begins, acts, tries, returns -/
section
variable {d : Nat} {s : zS} {V V0 : zV} {Q : zO → zH → Prop} {ρ : zR} {ν ν' : zN} {L x mo bu : Int}
set_option maxRecDepth 20000 in
theorem m_begins (hd : 4 ≤ d) (hW : zWF ρ) (h : zMS s V0 ρ L x mo bu ν V) (l0 : 0 ≤ L) (l1 : L < 13) (x0 : 0 ≤ x) (x1 : x < ρ.n) (eu : V 175 L = zi 0) (b0 : 0 ≤ bu) (b1 : bu ≤ 1000)
    (hdown : ρ.S 6 x ≠ 1 → ∀ V', zMS s V0 ρ L x mo bu (zNfl ν x 1 mo bu) V' → V' 175 L = zi 0 → V' 164 34 = zi 0 → Q (.inl (some (zi 0))) (s, V'))
    (hslow : ρ.S 6 x = 1 → bu < zOwn ρ x → ∀ V', zMS s V0 ρ L x mo bu (zNfl ν x 2 (mo + bu) bu) V' → V' 175 L = zi bu → V' 164 34 = zi 0 → Q (.inl (some (zi 0))) (s, V'))
    (hok : ρ.S 6 x = 1 → zOwn ρ x ≤ bu → ∀ V', zMS s V0 ρ L x mo bu ν V' → zPos V' L (zOwn ρ x) (zNext ρ x (-1)) (zNext ρ x (-1)) 0 false → Q (.inl (some (zi 1))) (s, V')) : zcall d 211 [.ref 164] (s, V) Q := by
  obtain ⟨n0, n1, cc0, cc1⟩ := hW.1
  have hs := h.suc (v := zi 0)
  obtain ⟨hM, hC, a3, a4, ⟨b1', b2, b3, b4⟩, b5, b6⟩ := hs
  have tM := h.1.1
  have vm_who : V 164 11 = .ref 172 := (h.1.2 7 (by decide)).1
  have tm_who : s.tg 172 = 20 := (h.1.2 7 (by decide)).2.1
  have lm_who : s.ln 172 = 13 := (h.1.2 7 (by decide)).2.2
  have vm_budget : V 164 13 = .ref 174 := (h.1.2 9 (by decide)).1
  have tm_budget : s.tg 174 = 20 := (h.1.2 9 (by decide)).2.1
  have lm_budget : s.ln 174 = 13 := (h.1.2 9 (by decide)).2.2
  have vm_passed : V 164 14 = .ref 175 := (h.1.2 10 (by decide)).1
  have tm_passed : s.tg 175 = 20 := (h.1.2 10 (by decide)).2.1
  have lm_passed : s.ln 175 = 13 := (h.1.2 10 (by decide)).2.2
  have e20 := h.2.2.2.2.1.1
  have ex := h.2.2.2.2.1.2.1
  have eu' : zput V 164 34 (zi 0) 175 L = zi 0 := (zput_r (by omega)).trans eu
  have w13 : zput V 164 34 (zi 0) 164 13 = .ref 174 := (zput_k (by omega)).trans vm_budget
  have w14 : zput V 164 34 (zi 0) 164 14 = .ref 175 := (zput_k (by omega)).trans vm_passed
  have hor := zOwn_rng hW x0 x1
  have hown : zdiv (ρ.S 0 x * ρ.S 1 x + 99) 100 = zOwn ρ x := rfl
  have hs := h.suc (v := zi 0)
  obtain ⟨d, rfl⟩ : ∃ e, d = e + 1 := ⟨d - 1, by omega⟩
  simp (disch := first | assumption | omega) only [zc_211]
  by_cases q : ρ.S 6 x = 1
  · by_cases q2 : bu < zOwn ρ x
    · have hp := hs.put (r := 175) (v := zi bu) (by omega) (by omega)
      simp (disch := first | assumption | exact zk_211 | ((repeat (first | exact z1n | refine z1I ?_ | refine z1R ?_)); done) | exact rfl | omega | decide) only [zb_211_0, zb_211_1, r_aload_0, r_gf_651, r_gf_660, r_ial, r_ial30, r_ial32, r_istore_1i, r_istore_1r, r_istore_1j, r_iconst, r_pf_674_0, r_pf_674_1, r_pf_674, r_iload_1, r_inv_2_0, r_inv_2_1, r_inv_2_2, r_inv_2_3, r_inv_2_4, r_K0, r_K1, r_if_ne, r_iret, r_bret_0, r_bret_1, r_gf_653, r_icmp_le, r_gf_654, r_iastore, r_inv_3_0, r_inv_3_1, r_inv_3_2, r_inv_3_3, r_inv_3_4, vm_who, vm_budget, vm_passed, e20, ex, m_isUp (hC := hC), q, m_own (hC := hC), hown, b4, b1', w13, w14, ↓reduceIte, not_true_eq_false, not_false_eq_true, Int.reduceEq, Int.reduceLE, Int.reduceLT, Int.reduceAdd, Int.reduceNeg, Int.reduceMul, Int.reduceSub, Int.reduceToNat]
      rw [if_neg (by omega)]
      refine m_note (by omega) hp l0 l1 x0 (by omega) zput_at (by omega) (by omega) (fun V' g1 g2 g3 => ?_)
      have := hslow q q2 V' g1 (by rw [g2 175 (by omega) (by omega)]; exact zput_at) (by rw [g3, zput_r (by omega)]; exact zput_at)
      simp (disch := first | assumption | exact zk_211 | ((repeat (first | exact z1n | refine z1I ?_ | refine z1R ?_)); done) | exact rfl | omega | decide) only [r_aload_0, r_gf_651, r_gf_660, r_ial, r_ial30, r_ial32, r_istore_1i, r_istore_1r, r_istore_1j, r_iconst, r_pf_674_0, r_pf_674_1, r_pf_674, r_iload_1, r_inv_2_0, r_inv_2_1, r_inv_2_2, r_inv_2_3, r_inv_2_4, r_K0, r_K1, r_if_ne, r_iret, r_bret_0, r_bret_1, r_gf_653, r_icmp_le, r_gf_654, r_iastore, r_inv_3_0, r_inv_3_1, r_inv_3_2, r_inv_3_3, r_inv_3_4, vm_who, vm_budget, vm_passed, ↓reduceIte, not_true_eq_false, not_false_eq_true, Int.reduceEq, Int.reduceLE, Int.reduceLT, Int.reduceAdd, Int.reduceNeg, Int.reduceMul, Int.reduceSub, Int.reduceToNat]
      exact this
    · have hp := hs.put (r := 175) (v := zi (zOwn ρ x)) (by omega) (by omega)
      have hCp := hp.2.1
      have hMp := hp.1
      simp (disch := first | assumption | exact zk_211 | ((repeat (first | exact z1n | refine z1I ?_ | refine z1R ?_)); done) | exact rfl | omega | decide) only [zb_211_0, zb_211_1, zb_211_2, r_aload_0, r_gf_651, r_gf_660, r_ial, r_ial30, r_ial32, r_istore_1i, r_istore_1r, r_istore_1j, r_iconst, r_pf_674_0, r_pf_674_1, r_pf_674, r_iload_1, r_inv_2_0, r_inv_2_1, r_inv_2_2, r_inv_2_3, r_inv_2_4, r_K0, r_K1, r_if_ne, r_iret, r_bret_0, r_bret_1, r_gf_653, r_icmp_le, r_gf_654, r_iastore, r_inv_3_0, r_inv_3_1, r_inv_3_2, r_inv_3_3, r_inv_3_4, vm_who, vm_budget, vm_passed, e20, ex, m_isUp (hC := hC), q, m_own (hC := hC), hown, b4, b1', w13, w14, m_nextCall (hC := hCp), ↓reduceIte, not_true_eq_false, not_false_eq_true, Int.reduceEq, Int.reduceLE, Int.reduceLT, Int.reduceAdd, Int.reduceNeg, Int.reduceMul, Int.reduceSub, Int.reduceToNat]
      rw [if_pos (by omega)]
      refine m_open (by omega) hp l0 l1 zput_at (fun V' g1 g2 g3 => ?_)
      have := hok q (by omega) V' g1 g2
      simp (disch := first | assumption | exact zk_211 | ((repeat (first | exact z1n | refine z1I ?_ | refine z1R ?_)); done) | exact rfl | omega | decide) only [r_aload_0, r_gf_651, r_gf_660, r_ial, r_ial30, r_ial32, r_istore_1i, r_istore_1r, r_istore_1j, r_iconst, r_pf_674_0, r_pf_674_1, r_pf_674, r_iload_1, r_inv_2_0, r_inv_2_1, r_inv_2_2, r_inv_2_3, r_inv_2_4, r_K0, r_K1, r_if_ne, r_iret, r_bret_0, r_bret_1, r_gf_653, r_icmp_le, r_gf_654, r_iastore, r_inv_3_0, r_inv_3_1, r_inv_3_2, r_inv_3_3, r_inv_3_4, vm_who, vm_budget, vm_passed, ↓reduceIte, not_true_eq_false, not_false_eq_true, Int.reduceEq, Int.reduceLE, Int.reduceLT, Int.reduceAdd, Int.reduceNeg, Int.reduceMul, Int.reduceSub, Int.reduceToNat]
      exact this
  · simp (disch := first | assumption | exact zk_211 | ((repeat (first | exact z1n | refine z1I ?_ | refine z1R ?_)); done) | exact rfl | omega | decide) only [zb_211_0, r_aload_0, r_gf_651, r_gf_660, r_ial, r_ial30, r_ial32, r_istore_1i, r_istore_1r, r_istore_1j, r_iconst, r_pf_674_0, r_pf_674_1, r_pf_674, r_iload_1, r_inv_2_0, r_inv_2_1, r_inv_2_2, r_inv_2_3, r_inv_2_4, r_K0, r_K1, r_if_ne, r_iret, r_bret_0, r_bret_1, r_gf_653, r_icmp_le, r_gf_654, r_iastore, r_inv_3_0, r_inv_3_1, r_inv_3_2, r_inv_3_3, r_inv_3_4, vm_who, vm_budget, vm_passed, e20, ex, m_isUp (hC := hC), q, ↓reduceIte, not_true_eq_false, not_false_eq_true, Int.reduceEq, Int.reduceLE, Int.reduceLT, Int.reduceAdd, Int.reduceNeg, Int.reduceMul, Int.reduceSub, Int.reduceToNat]
    refine m_note (by omega) hs l0 l1 x0 (by omega) eu' (by omega) (by omega) (fun V' g1 g2 g3 => ?_)
    rw [Int.add_zero] at g1
    have := hdown q V' g1 (by rw [g2 175 (by omega) (by omega)]; exact eu') (by rw [g3]; exact zput_at)
    simp (disch := first | assumption | exact zk_211 | ((repeat (first | exact z1n | refine z1I ?_ | refine z1R ?_)); done) | exact rfl | omega | decide) only [r_aload_0, r_gf_651, r_gf_660, r_ial, r_ial30, r_ial32, r_istore_1i, r_istore_1r, r_istore_1j, r_iconst, r_pf_674_0, r_pf_674_1, r_pf_674, r_iload_1, r_inv_2_0, r_inv_2_1, r_inv_2_2, r_inv_2_3, r_inv_2_4, r_K0, r_K1, r_if_ne, r_iret, r_bret_0, r_bret_1, r_gf_653, r_icmp_le, r_gf_654, r_iastore, r_inv_3_0, r_inv_3_1, r_inv_3_2, r_inv_3_3, r_inv_3_4, vm_who, vm_budget, vm_passed, ↓reduceIte, not_true_eq_false, not_false_eq_true, Int.reduceEq, Int.reduceLE, Int.reduceLT, Int.reduceAdd, Int.reduceNeg, Int.reduceMul, Int.reduceSub, Int.reduceToNat]
    exact this
set_option maxRecDepth 20000 in
theorem m_acts (hd : 5 ≤ d) (hW : zWF ρ) (h : zMS s V0 ρ L x mo bu ν V) (l0 : 0 ≤ L) (l1 : L < 13) (x0 : 0 ≤ x) (x1 : x < ρ.n) {u c hh k : Int} {w : Bool} (hp : zPos V L u c hh k w) (c0 : 0 ≤ c) (c1 : c ≤ ρ.c) (h0 : 0 ≤ hh) (h1 : c < ρ.c → hh < ρ.c) (k0 : 0 ≤ k) (k1 : c < ρ.c → k ≤ ρ.K 3 c) (u0 : 0 ≤ u) (u1 : u ≤ bu) (b1 : bu ≤ 1000)
    (hstop : c = ρ.c → ∀ V', zMS s V0 ρ L x mo bu ν V' → V' 175 L = zi u → V' 164 34 = zi 1 → Q (.inl (some (zi 2))) (s, V'))
    (hwon : c < ρ.c → w = true → ∀ V', zMS s V0 ρ L x mo bu ν V' → zPos V' L u (zNH ρ x (c + 1)) (zNH ρ x (c + 1)) 0 false → Q (.inl (some (zi 0))) (s, V'))
    (hrep : c < ρ.c → w = false → k = ρ.K 3 c → zNext ρ x c < ρ.c → ρ.K 4 (zNext ρ x c) = 2 → ∀ V', zMS s V0 ρ L x mo bu ν V' → zPos V' L u (zNext ρ x c) hh 0 false → Q (.inl (some (zi 0))) (s, V'))
    (hend : c < ρ.c → w = false → k = ρ.K 3 c → ¬ (zNext ρ x c < ρ.c ∧ ρ.K 4 (zNext ρ x c) = 2) → ρ.K 4 hh = 0 → ∀ V', zMS s V0 ρ L x mo bu (zNfl ν x 4 (mo + u) bu) V' → V' 175 L = zi u → V' 164 34 = zi 0 → Q (.inl (some (zi 2))) (s, V'))
    (hmis : c < ρ.c → w = false → k = ρ.K 3 c → ¬ (zNext ρ x c < ρ.c ∧ ρ.K 4 (zNext ρ x c) = 2) → ρ.K 4 hh ≠ 0 → ∀ V', zMS s V0 ρ L x mo bu (zNm ν) V' → zPos V' L u (zNext ρ x c) (zNext ρ x c) 0 false → Q (.inl (some (zi 0))) (s, V'))
    (hslow : c < ρ.c → w = false → k < ρ.K 3 c → bu ≤ u → ∀ V', zMS s V0 ρ L x mo bu (zNfl ν x 3 (mo + u) bu) V' → zPos V' L u c hh (ρ.K 3 c) false → Q (.inl (some (zi 0))) (s, V'))
    (hgo : c < ρ.c → w = false → k < ρ.K 3 c → u < bu → Q (.inl (some (zi 1))) (s, V)) : zcall d 213 [.ref 164] (s, V) Q := by
  obtain ⟨n0, n1, cc0, cc1⟩ := hW.1
  have h' := h
  obtain ⟨hM, hC, a3, a4, ⟨b1', b2, b3, b4⟩, b5, b6⟩ := h'
  have hp' := hp
  obtain ⟨p1, p2, p3, p4, p5⟩ := hp'
  have tM := hM.1
  have vm_s : V 164 0 = .ref 165 := (hM.2 0 (by decide)).1
  have tm_s : s.tg 165 = 20 := (hM.2 0 (by decide)).2.1
  have lm_s : s.ln 165 = 230 := (hM.2 0 (by decide)).2.2
  have vm_who : V 164 11 = .ref 172 := (hM.2 7 (by decide)).1
  have tm_who : s.tg 172 = 20 := (hM.2 7 (by decide)).2.1
  have lm_who : s.ln 172 = 13 := (hM.2 7 (by decide)).2.2
  have vm_budget : V 164 13 = .ref 174 := (hM.2 9 (by decide)).1
  have tm_budget : s.tg 174 = 20 := (hM.2 9 (by decide)).2.1
  have lm_budget : s.ln 174 = 13 := (hM.2 9 (by decide)).2.2
  have vm_passed : V 164 14 = .ref 175 := (hM.2 10 (by decide)).1
  have tm_passed : s.tg 175 = 20 := (hM.2 10 (by decide)).2.1
  have lm_passed : s.ln 175 = 13 := (hM.2 10 (by decide)).2.2
  have vm_present : V 164 15 = .ref 176 := (hM.2 11 (by decide)).1
  have tm_present : s.tg 176 = 20 := (hM.2 11 (by decide)).2.1
  have lm_present : s.ln 176 = 13 := (hM.2 11 (by decide)).2.2
  have vm_made : V 164 17 = .ref 178 := (hM.2 13 (by decide)).1
  have tm_made : s.tg 178 = 20 := (hM.2 13 (by decide)).2.1
  have lm_made : s.ln 178 = 13 := (hM.2 13 (by decide)).2.2
  have vm_won : V 164 18 = .ref 179 := (hM.2 14 (by decide)).1
  have tm_won : s.tg 179 = 23 := (hM.2 14 (by decide)).2.1
  have lm_won : s.ln 179 = 13 := (hM.2 14 (by decide)).2.2
  have gc := hC.2.1
  obtain ⟨d, rfl⟩ : ∃ e, d = e + 1 := ⟨d - 1, by omega⟩
  simp (disch := first | assumption | omega) only [zc_213]
  by_cases e : c = ρ.c
  · have := hstop e (zput V 164 34 (zi 1)) h.suc ((zput_r (by omega)).trans p1) zput_at
    subst e
    simp (disch := first | assumption | exact zk_213 | ((repeat (first | exact z1n | refine z1I ?_ | refine z1R ?_)); done) | exact rfl | omega | decide) only [zb_213_0, r_aload_0, r_gf_651, r_gf_660, r_ial, r_ial30, r_ial32, r_istore_1i, r_istore_1r, r_istore_1j, r_gf_655, r_istore_2i, r_istore_2r, r_istore_2j, r_iload_2, r_gf_640, r_iconst, r_icmp_ne, r_pf_674_0, r_pf_674_1, r_pf_674, r_iret, r_bret_0, r_bret_1, r_gf_658, r_baload, r_if_ne, r_gf_657, r_inv_3_0, r_inv_3_1, r_inv_3_2, r_inv_3_3, r_inv_3_4, r_K0, r_K1, r_goto_w, r_iload_1, r_gf_653, r_gf_654, r_isub, r_if_gt, r_inv_2_0, r_inv_2_1, r_inv_2_2, r_inv_2_3, r_inv_2_4, r_iastore, vm_s, vm_who, vm_budget, vm_passed, vm_present, vm_made, vm_won, b1', b2, p2, gc, ↓reduceIte, not_true_eq_false, not_false_eq_true, Int.reduceEq, Int.reduceLE, Int.reduceLT, Int.reduceAdd, Int.reduceNeg, Int.reduceMul, Int.reduceSub, Int.reduceToNat]
    exact this
  · have hc : c < ρ.c := by omega
    have w3 := (hW.2.2.1 c c0 hc).2.2.2.1
    have hk1 := k1 hc
    have close : (w = true ∨ k = ρ.K 3 c) → zwp (zcall d) 213 Q (zB 213 2) [.ref 164, zi x, zi c] [] (s, V) := by
      intro hor
      simp (disch := first | assumption | exact zk_213 | ((repeat (first | exact z1n | refine z1I ?_ | refine z1R ?_)); done) | exact rfl | omega | decide) only [zb_213_2, r_aload_0, r_gf_651, r_gf_660, r_ial, r_ial30, r_ial32, r_istore_1i, r_istore_1r, r_istore_1j, r_gf_655, r_istore_2i, r_istore_2r, r_istore_2j, r_iload_2, r_gf_640, r_iconst, r_icmp_ne, r_pf_674_0, r_pf_674_1, r_pf_674, r_iret, r_bret_0, r_bret_1, r_gf_658, r_baload, r_if_ne, r_gf_657, r_inv_3_0, r_inv_3_1, r_inv_3_2, r_inv_3_3, r_inv_3_4, r_K0, r_K1, r_goto_w, r_iload_1, r_gf_653, r_gf_654, r_isub, r_if_gt, r_inv_2_0, r_inv_2_1, r_inv_2_2, r_inv_2_3, r_inv_2_4, r_iastore, vm_s, vm_who, vm_budget, vm_passed, vm_present, vm_made, vm_won, ↓reduceIte, not_true_eq_false, not_false_eq_true, Int.reduceEq, Int.reduceLE, Int.reduceLT, Int.reduceAdd, Int.reduceNeg, Int.reduceMul, Int.reduceSub, Int.reduceToNat]
      refine m_closes (by omega) hW h l0 l1 x0 x1 hp c0 hc h0 (h1 hc) (fun hw V' g1 g2 => ?_) (fun hw q1 q2 V' g1 g2 => ?_) (fun hw q1 q2 V' g1 g2 g3 => ?_) (fun hw q1 q2 V' g1 g2 => ?_)
      · simp (disch := first | assumption | exact zk_213 | ((repeat (first | exact z1n | refine z1I ?_ | refine z1R ?_)); done) | exact rfl | omega | decide) only [r_aload_0, r_gf_651, r_gf_660, r_ial, r_ial30, r_ial32, r_istore_1i, r_istore_1r, r_istore_1j, r_gf_655, r_istore_2i, r_istore_2r, r_istore_2j, r_iload_2, r_gf_640, r_iconst, r_icmp_ne, r_pf_674_0, r_pf_674_1, r_pf_674, r_iret, r_bret_0, r_bret_1, r_gf_658, r_baload, r_if_ne, r_gf_657, r_inv_3_0, r_inv_3_1, r_inv_3_2, r_inv_3_3, r_inv_3_4, r_K0, r_K1, r_goto_w, r_iload_1, r_gf_653, r_gf_654, r_isub, r_if_gt, r_inv_2_0, r_inv_2_1, r_inv_2_2, r_inv_2_3, r_inv_2_4, r_iastore, vm_s, vm_who, vm_budget, vm_passed, vm_present, vm_made, vm_won, ↓reduceIte, not_true_eq_false, not_false_eq_true, Int.reduceEq, Int.reduceLE, Int.reduceLT, Int.reduceAdd, Int.reduceNeg, Int.reduceMul, Int.reduceSub, Int.reduceToNat]
        exact hwon hc hw V' g1 g2
      · simp (disch := first | assumption | exact zk_213 | ((repeat (first | exact z1n | refine z1I ?_ | refine z1R ?_)); done) | exact rfl | omega | decide) only [r_aload_0, r_gf_651, r_gf_660, r_ial, r_ial30, r_ial32, r_istore_1i, r_istore_1r, r_istore_1j, r_gf_655, r_istore_2i, r_istore_2r, r_istore_2j, r_iload_2, r_gf_640, r_iconst, r_icmp_ne, r_pf_674_0, r_pf_674_1, r_pf_674, r_iret, r_bret_0, r_bret_1, r_gf_658, r_baload, r_if_ne, r_gf_657, r_inv_3_0, r_inv_3_1, r_inv_3_2, r_inv_3_3, r_inv_3_4, r_K0, r_K1, r_goto_w, r_iload_1, r_gf_653, r_gf_654, r_isub, r_if_gt, r_inv_2_0, r_inv_2_1, r_inv_2_2, r_inv_2_3, r_inv_2_4, r_iastore, vm_s, vm_who, vm_budget, vm_passed, vm_present, vm_made, vm_won, ↓reduceIte, not_true_eq_false, not_false_eq_true, Int.reduceEq, Int.reduceLE, Int.reduceLT, Int.reduceAdd, Int.reduceNeg, Int.reduceMul, Int.reduceSub, Int.reduceToNat]
        exact hrep hc hw (by rcases hor with z | z; (rw [hw] at z; cases z); exact z) q1 q2 V' g1 g2
      · simp (disch := first | assumption | exact zk_213 | ((repeat (first | exact z1n | refine z1I ?_ | refine z1R ?_)); done) | exact rfl | omega | decide) only [r_aload_0, r_gf_651, r_gf_660, r_ial, r_ial30, r_ial32, r_istore_1i, r_istore_1r, r_istore_1j, r_gf_655, r_istore_2i, r_istore_2r, r_istore_2j, r_iload_2, r_gf_640, r_iconst, r_icmp_ne, r_pf_674_0, r_pf_674_1, r_pf_674, r_iret, r_bret_0, r_bret_1, r_gf_658, r_baload, r_if_ne, r_gf_657, r_inv_3_0, r_inv_3_1, r_inv_3_2, r_inv_3_3, r_inv_3_4, r_K0, r_K1, r_goto_w, r_iload_1, r_gf_653, r_gf_654, r_isub, r_if_gt, r_inv_2_0, r_inv_2_1, r_inv_2_2, r_inv_2_3, r_inv_2_4, r_iastore, vm_s, vm_who, vm_budget, vm_passed, vm_present, vm_made, vm_won, ↓reduceIte, not_true_eq_false, not_false_eq_true, Int.reduceEq, Int.reduceLE, Int.reduceLT, Int.reduceAdd, Int.reduceNeg, Int.reduceMul, Int.reduceSub, Int.reduceToNat]
        exact hend hc hw (by rcases hor with z | z; (rw [hw] at z; cases z); exact z) q1 q2 V' g1 g2 g3
      · simp (disch := first | assumption | exact zk_213 | ((repeat (first | exact z1n | refine z1I ?_ | refine z1R ?_)); done) | exact rfl | omega | decide) only [r_aload_0, r_gf_651, r_gf_660, r_ial, r_ial30, r_ial32, r_istore_1i, r_istore_1r, r_istore_1j, r_gf_655, r_istore_2i, r_istore_2r, r_istore_2j, r_iload_2, r_gf_640, r_iconst, r_icmp_ne, r_pf_674_0, r_pf_674_1, r_pf_674, r_iret, r_bret_0, r_bret_1, r_gf_658, r_baload, r_if_ne, r_gf_657, r_inv_3_0, r_inv_3_1, r_inv_3_2, r_inv_3_3, r_inv_3_4, r_K0, r_K1, r_goto_w, r_iload_1, r_gf_653, r_gf_654, r_isub, r_if_gt, r_inv_2_0, r_inv_2_1, r_inv_2_2, r_inv_2_3, r_inv_2_4, r_iastore, vm_s, vm_who, vm_budget, vm_passed, vm_present, vm_made, vm_won, ↓reduceIte, not_true_eq_false, not_false_eq_true, Int.reduceEq, Int.reduceLE, Int.reduceLT, Int.reduceAdd, Int.reduceNeg, Int.reduceMul, Int.reduceSub, Int.reduceToNat]
        exact hmis hc hw (by rcases hor with z | z; (rw [hw] at z; cases z); exact z) q1 q2 V' g1 g2
    cases w with
    | true =>
      have e5 : zb1 true = 1 := rfl
      rw [e5] at p5
      have := close (Or.inl rfl)
      simp (disch := first | assumption | exact zk_213 | ((repeat (first | exact z1n | refine z1I ?_ | refine z1R ?_)); done) | exact rfl | omega | decide) only [zb_213_0, zb_213_1, r_aload_0, r_gf_651, r_gf_660, r_ial, r_ial30, r_ial32, r_istore_1i, r_istore_1r, r_istore_1j, r_gf_655, r_istore_2i, r_istore_2r, r_istore_2j, r_iload_2, r_gf_640, r_iconst, r_icmp_ne, r_pf_674_0, r_pf_674_1, r_pf_674, r_iret, r_bret_0, r_bret_1, r_gf_658, r_baload, r_if_ne, r_gf_657, r_inv_3_0, r_inv_3_1, r_inv_3_2, r_inv_3_3, r_inv_3_4, r_K0, r_K1, r_goto_w, r_iload_1, r_gf_653, r_gf_654, r_isub, r_if_gt, r_inv_2_0, r_inv_2_1, r_inv_2_2, r_inv_2_3, r_inv_2_4, r_iastore, vm_s, vm_who, vm_budget, vm_passed, vm_present, vm_made, vm_won, b1', b2, p2, gc, e, p5, ↓reduceIte, not_true_eq_false, not_false_eq_true, Int.reduceEq, Int.reduceLE, Int.reduceLT, Int.reduceAdd, Int.reduceNeg, Int.reduceMul, Int.reduceSub, Int.reduceToNat]
      exact this
    | false =>
      have e5 : zb1 false = 0 := rfl
      rw [e5] at p5
      by_cases ek : k = ρ.K 3 c
      · have := close (Or.inr ek)
        simp (disch := first | assumption | exact zk_213 | ((repeat (first | exact z1n | refine z1I ?_ | refine z1R ?_)); done) | exact rfl | omega | decide) only [zb_213_0, zb_213_1, r_aload_0, r_gf_651, r_gf_660, r_ial, r_ial30, r_ial32, r_istore_1i, r_istore_1r, r_istore_1j, r_gf_655, r_istore_2i, r_istore_2r, r_istore_2j, r_iload_2, r_gf_640, r_iconst, r_icmp_ne, r_pf_674_0, r_pf_674_1, r_pf_674, r_iret, r_bret_0, r_bret_1, r_gf_658, r_baload, r_if_ne, r_gf_657, r_inv_3_0, r_inv_3_1, r_inv_3_2, r_inv_3_3, r_inv_3_4, r_K0, r_K1, r_goto_w, r_iload_1, r_gf_653, r_gf_654, r_isub, r_if_gt, r_inv_2_0, r_inv_2_1, r_inv_2_2, r_inv_2_3, r_inv_2_4, r_iastore, vm_s, vm_who, vm_budget, vm_passed, vm_present, vm_made, vm_won, b1', b2, p2, gc, e, p5, p4, m_callOf (hC := hC), ↓reduceIte, not_true_eq_false, not_false_eq_true, Int.reduceEq, Int.reduceLE, Int.reduceLT, Int.reduceAdd, Int.reduceNeg, Int.reduceMul, Int.reduceSub, Int.reduceToNat]
        rw [if_neg (by omega)]
        exact this
      · by_cases eb : bu ≤ u
        · simp (disch := first | assumption | exact zk_213 | ((repeat (first | exact z1n | refine z1I ?_ | refine z1R ?_)); done) | exact rfl | omega | decide) only [zb_213_0, zb_213_1, zb_213_3, r_aload_0, r_gf_651, r_gf_660, r_ial, r_ial30, r_ial32, r_istore_1i, r_istore_1r, r_istore_1j, r_gf_655, r_istore_2i, r_istore_2r, r_istore_2j, r_iload_2, r_gf_640, r_iconst, r_icmp_ne, r_pf_674_0, r_pf_674_1, r_pf_674, r_iret, r_bret_0, r_bret_1, r_gf_658, r_baload, r_if_ne, r_gf_657, r_inv_3_0, r_inv_3_1, r_inv_3_2, r_inv_3_3, r_inv_3_4, r_K0, r_K1, r_goto_w, r_iload_1, r_gf_653, r_gf_654, r_isub, r_if_gt, r_inv_2_0, r_inv_2_1, r_inv_2_2, r_inv_2_3, r_inv_2_4, r_iastore, vm_s, vm_who, vm_budget, vm_passed, vm_present, vm_made, vm_won, b1', b2, p2, gc, e, p5, p4, m_callOf (hC := hC), b4, p1, ↓reduceIte, not_true_eq_false, not_false_eq_true, Int.reduceEq, Int.reduceLE, Int.reduceLT, Int.reduceAdd, Int.reduceNeg, Int.reduceMul, Int.reduceSub, Int.reduceToNat]
          rw [if_pos (by omega), if_neg (by omega)]
          refine m_note (by omega) h l0 l1 x0 (by omega) p1 (by omega) (by omega) (fun V' g1 g2 g3 => ?_)
          have gp := hp.rows g2
          have := hslow hc rfl (by omega) eb (zput V' 178 L (zi (ρ.K 3 c))) (g1.put (by omega) (by omega)) ⟨(zput_r (by omega)).trans gp.1, (zput_r (by omega)).trans gp.2.1, (zput_r (by omega)).trans gp.2.2.1, zput_at, (zput_r (by omega)).trans gp.2.2.2.2⟩
          have hM' := g1.1
          have hC' := g1.2.1
          have l' := g1.2.2.2.2.1.1
          have v17 : V' 164 17 = .ref 178 := (hM'.2 13 (by decide)).1
          simp (disch := first | assumption | exact zk_213 | ((repeat (first | exact z1n | refine z1I ?_ | refine z1R ?_)); done) | exact rfl | omega | decide) only [r_aload_0, r_gf_651, r_gf_660, r_ial, r_ial30, r_ial32, r_istore_1i, r_istore_1r, r_istore_1j, r_gf_655, r_istore_2i, r_istore_2r, r_istore_2j, r_iload_2, r_gf_640, r_iconst, r_icmp_ne, r_pf_674_0, r_pf_674_1, r_pf_674, r_iret, r_bret_0, r_bret_1, r_gf_658, r_baload, r_if_ne, r_gf_657, r_inv_3_0, r_inv_3_1, r_inv_3_2, r_inv_3_3, r_inv_3_4, r_K0, r_K1, r_goto_w, r_iload_1, r_gf_653, r_gf_654, r_isub, r_if_gt, r_inv_2_0, r_inv_2_1, r_inv_2_2, r_inv_2_3, r_inv_2_4, r_iastore, vm_s, vm_who, vm_budget, vm_passed, vm_present, vm_made, vm_won, v17, l', m_callOf (hC := hC'), ↓reduceIte, not_true_eq_false, not_false_eq_true, Int.reduceEq, Int.reduceLE, Int.reduceLT, Int.reduceAdd, Int.reduceNeg, Int.reduceMul, Int.reduceSub, Int.reduceToNat]
          exact this
        · have := hgo hc rfl (by omega) (by omega)
          simp (disch := first | assumption | exact zk_213 | ((repeat (first | exact z1n | refine z1I ?_ | refine z1R ?_)); done) | exact rfl | omega | decide) only [zb_213_0, zb_213_1, zb_213_3, zb_213_4, r_aload_0, r_gf_651, r_gf_660, r_ial, r_ial30, r_ial32, r_istore_1i, r_istore_1r, r_istore_1j, r_gf_655, r_istore_2i, r_istore_2r, r_istore_2j, r_iload_2, r_gf_640, r_iconst, r_icmp_ne, r_pf_674_0, r_pf_674_1, r_pf_674, r_iret, r_bret_0, r_bret_1, r_gf_658, r_baload, r_if_ne, r_gf_657, r_inv_3_0, r_inv_3_1, r_inv_3_2, r_inv_3_3, r_inv_3_4, r_K0, r_K1, r_goto_w, r_iload_1, r_gf_653, r_gf_654, r_isub, r_if_gt, r_inv_2_0, r_inv_2_1, r_inv_2_2, r_inv_2_3, r_inv_2_4, r_iastore, vm_s, vm_who, vm_budget, vm_passed, vm_present, vm_made, vm_won, b1', b2, p2, gc, e, p5, p4, m_callOf (hC := hC), b4, p1, ↓reduceIte, not_true_eq_false, not_false_eq_true, Int.reduceEq, Int.reduceLE, Int.reduceLT, Int.reduceAdd, Int.reduceNeg, Int.reduceMul, Int.reduceSub, Int.reduceToNat]
          rw [if_pos (by omega), if_pos (by omega)]
          exact this
set_option maxRecDepth 20000 in
theorem m_begunTry (hd : 3 ≤ d) (hW : zWF ρ) (h : zMS s V0 ρ L x mo bu ν V) (l0 : 0 ≤ L) (l1 : L < 12) {u c hh k : Int} {w : Bool} (hp : zPos V L u c hh k w) (c0 : 0 ≤ c) (c1 : c < ρ.c) (u0 : 0 ≤ u) (u1 : u < bu) (b1 : bu ≤ 1000)
    (hQ : ∀ V', zMS s V' ρ (L + 1) (ρ.K 1 c) (mo + u) (zMnI (ρ.K 2 c) (bu - u)) (zNt ν c (mo + u) (zMnI (ρ.K 2 c) (bu - u))) V' → zFm zLvF zLvK V V' → (∀ r : Nat, 172 ≤ r → r ≤ 180 → ∀ i : Int, i ≠ L + 1 → ¬ (r = 180 ∧ i = L) → V' r i = V r i) → V' 180 L = zi (zNo ν) → V' 175 (L + 1) = zi 0 → Q (.inl none) (s, V')) : zcall d 215 [.ref 164] (s, V) Q := by
  obtain ⟨n0, n1, cc0, cc1⟩ := hW.1
  have h' := h
  obtain ⟨hM, hC, a3, a4, ⟨b1', b2, b3, b4⟩, b5, b6⟩ := h'
  obtain ⟨p1, p2, p3, p4, p5⟩ := hp
  obtain ⟨⟨m1, m2, m3, m4, m5, m6⟩, mF, mT, mi1, mi2⟩ := b5
  have wc := hW.2.2.1 c c0 c1
  have tcr := b6.2.1
  have tM := hM.1
  have vm_s : V 164 0 = .ref 165 := (hM.2 0 (by decide)).1
  have tm_s : s.tg 165 = 20 := (hM.2 0 (by decide)).2.1
  have lm_s : s.ln 165 = 230 := (hM.2 0 (by decide)).2.2
  have vm_who : V 164 11 = .ref 172 := (hM.2 7 (by decide)).1
  have tm_who : s.tg 172 = 20 := (hM.2 7 (by decide)).2.1
  have lm_who : s.ln 172 = 13 := (hM.2 7 (by decide)).2.2
  have vm_moment : V 164 12 = .ref 173 := (hM.2 8 (by decide)).1
  have tm_moment : s.tg 173 = 20 := (hM.2 8 (by decide)).2.1
  have lm_moment : s.ln 173 = 13 := (hM.2 8 (by decide)).2.2
  have vm_budget : V 164 13 = .ref 174 := (hM.2 9 (by decide)).1
  have tm_budget : s.tg 174 = 20 := (hM.2 9 (by decide)).2.1
  have lm_budget : s.ln 174 = 13 := (hM.2 9 (by decide)).2.2
  have vm_passed : V 164 14 = .ref 175 := (hM.2 10 (by decide)).1
  have tm_passed : s.tg 175 = 20 := (hM.2 10 (by decide)).2.1
  have lm_passed : s.ln 175 = 13 := (hM.2 10 (by decide)).2.2
  have vm_present : V 164 15 = .ref 176 := (hM.2 11 (by decide)).1
  have tm_present : s.tg 176 = 20 := (hM.2 11 (by decide)).2.1
  have lm_present : s.ln 176 = 13 := (hM.2 11 (by decide)).2.2
  have vm_tryOf : V 164 19 = .ref 180 := (hM.2 15 (by decide)).1
  have tm_tryOf : s.tg 180 = 20 := (hM.2 15 (by decide)).2.1
  have lm_tryOf : s.ln 180 = 13 := (hM.2 15 (by decide)).2.2
  have vm_tryRow : V 164 29 = .ref 182 := (hM.2 17 (by decide)).1
  have tm_tryRow : s.tg 182 = 20 := (hM.2 17 (by decide)).2.1
  have lm_tryRow : s.ln 182 = 800 := (hM.2 17 (by decide)).2.2
  obtain ⟨d, rfl⟩ : ∃ e, d = e + 1 := ⟨d - 1, by omega⟩
  simp (disch := first | assumption | omega) only [zc_215]
  -- the part behind the choice of the share
  have key : ∀ sh, sh = zMnI (ρ.K 2 c) (bu - u) → zwp (zcall d) 215 Q (zB 215 2) [.ref 164, zi c, zi (bu - u), zJ, zJ] [zi sh] (s, V) := by
    intro sh hsh
    rw [← hsh] at hQ
    have fin : ∀ V1, zFm [180, 182] [24] V V1 → V1 180 L = zi (zNo ν) → (∀ i : Int, i ≠ L → V1 180 i = V 180 i) → V1 164 24 = zi (zNt ν c (mo + u) sh).tc → (∀ w k : Int, 0 ≤ w → w < 4 → 0 ≤ k → k < (zNt ν c (mo + u) sh).tc → V1 182 (4 * k + w) = zi ((zNt ν c (mo + u) sh).T w k)) → zInts V1 182 800 → zwp (zcall d) 215 Q (zB 215 3) [.ref 164, zi c, zi (bu - u), zi sh, zi (mo + u)] [] (s, V1) := by
      intro V1 g1 g2 g3 g4 g5 g6
      have w20 : V1 164 20 = zi L := (g1.2 20 (by simp)).trans b1'
      have f1 : zFm [180, 182] [24, 20] V (zput V1 164 20 (zi (L + 1))) := (g1.mono (fun _ h => h) (fun k hk => by simp at hk; simp [hk])).pf (by simp)
      have hM1 := hM.fm f1 (by decide)
      have hC1 := hC.fm f1 (by decide)
      have e20 : zput V1 164 20 (zi (L + 1)) 164 20 = zi (L + 1) := zput_at
      have e27 : zput V1 164 20 (zi (L + 1)) 164 27 = zi ν.sv := (zput_k (by omega)).trans ((g1.2 27 (by simp)).trans m2)
      simp (disch := first | assumption | exact zk_215 | ((repeat (first | exact z1n | refine z1I ?_ | refine z1R ?_)); done) | exact rfl | omega | decide) only [zb_215_3, r_aload_0, r_gf_655, r_gf_660, r_ial, r_ial30, r_ial32, r_istore_1i, r_istore_1r, r_istore_1j, r_gf_653, r_gf_654, r_isub, r_istore_2i, r_istore_2r, r_istore_2j, r_iload_1, r_iconst, r_inv_3_0, r_inv_3_1, r_inv_3_2, r_inv_3_3, r_inv_3_4, r_K0, r_K1, r_iload_2, r_icmp_ge, r_goto, r_goto_w, r_istore_3i, r_istore_3r, r_istore_3j, r_gf_652, r_iadd, r_istore_4i, r_istore_4r, r_istore_4j, r_gf_659, r_iastore, r_gf_664, r_gf_669, r_imul, r_iload_4, r_iload_3, r_dup_i, r_dup_r, r_pf_664, r_pf_660, r_inv_2_0, r_inv_2_1, r_inv_2_2, r_inv_2_3, r_inv_2_4, r_inv_4_0, r_inv_4_1, r_inv_4_2, r_inv_4_3, r_inv_4_4, r_ret, vm_s, vm_who, vm_moment, vm_budget, vm_passed, vm_present, vm_tryOf, vm_tryRow, w20, m_callee (hC := hC1), ↓reduceIte, not_true_eq_false, not_false_eq_true, Int.reduceEq, Int.reduceLE, Int.reduceLT, Int.reduceAdd, Int.reduceNeg, Int.reduceMul, Int.reduceSub, Int.reduceToNat]
      rw [m_enters (d := d) (L := L + 1) (by omega) hM1 (by omega) (by omega) e20 e27]
      generalize hV2 : zput (zput (zput (zput (zput (zput V1 164 20 (zi (L + 1))) 172 (L + 1) (zi (ρ.K 1 c))) 173 (L + 1) (zi (mo + u))) 174 (L + 1) (zi sh)) 175 (L + 1) (zi 0)) 164 27 (zi (ν.sv + 1)) = V2
      have f2 : zFm zLvF zLvK V V2 := by
        rw [← hV2]
        have f1' : zFm zLvF zLvK V (zput V1 164 20 (zi (L + 1))) := f1.mono (by decide) (by decide)
        exact ((((f1'.pr (by decide) (by omega)).pr (by decide) (by omega)).pr (by decide) (by omega)).pr (by decide) (by omega)).pf (by decide)
      have r181 : V2 181 = V 181 := by rw [← hV2]; simp (disch := omega) only [zput_row]; exact g1.1 181 (by omega) (by simp)
      have r182 : V2 182 = V1 182 := by rw [← hV2]; simp (disch := omega) only [zput_row]
      have fl : ∀ k : Int, k ≠ 20 → k ≠ 27 → V2 164 k = V1 164 k := fun k q1 q2 => by rw [← hV2, zput_k q2]; simp (disch := omega) only [zput_r]; exact zput_k q1
      have := hQ V2 ⟨hM.fm f2 (by decide), hC.fm f2 (by decide), zFm.rf, fun _ _ _ _ _ _ => rfl, ⟨?_, ?_, ?_, ?_⟩, ⟨⟨?_, ?_, ?_, ?_, ?_, ?_⟩, ?_, ?_, ?_, ?_⟩, b6.nt⟩ f2 (fun r r0 r1 i i1 i2 => ?_) ?_ ?_
      · simp (disch := first | assumption | exact zk_215 | ((repeat (first | exact z1n | refine z1I ?_ | refine z1R ?_)); done) | exact rfl | omega | decide) only [r_aload_0, r_gf_655, r_gf_660, r_ial, r_ial30, r_ial32, r_istore_1i, r_istore_1r, r_istore_1j, r_gf_653, r_gf_654, r_isub, r_istore_2i, r_istore_2r, r_istore_2j, r_iload_1, r_iconst, r_inv_3_0, r_inv_3_1, r_inv_3_2, r_inv_3_3, r_inv_3_4, r_K0, r_K1, r_iload_2, r_icmp_ge, r_goto, r_goto_w, r_istore_3i, r_istore_3r, r_istore_3j, r_gf_652, r_iadd, r_istore_4i, r_istore_4r, r_istore_4j, r_gf_659, r_iastore, r_gf_664, r_gf_669, r_imul, r_iload_4, r_iload_3, r_dup_i, r_dup_r, r_pf_664, r_pf_660, r_inv_2_0, r_inv_2_1, r_inv_2_2, r_inv_2_3, r_inv_2_4, r_inv_4_0, r_inv_4_1, r_inv_4_2, r_inv_4_3, r_inv_4_4, r_ret, vm_s, vm_who, vm_moment, vm_budget, vm_passed, vm_present, vm_tryOf, vm_tryRow, ↓reduceIte, not_true_eq_false, not_false_eq_true, Int.reduceEq, Int.reduceLE, Int.reduceLT, Int.reduceAdd, Int.reduceNeg, Int.reduceMul, Int.reduceSub, Int.reduceToNat]
        exact this
      · rw [← hV2]; simp (disch := omega) only [zput_k, zput_r, zput_at]
      · rw [← hV2]; simp (disch := omega) only [zput_r, zput_at]
      · rw [← hV2]; simp (disch := omega) only [zput_r, zput_at]
      · rw [← hV2]; simp (disch := omega) only [zput_r, zput_at]
      · rw [fl 22 (by omega) (by omega), g1.2 22 (by simp)]; exact m1
      · rw [← hV2]; exact zput_at
      · rw [fl 26 (by omega) (by omega), g1.2 26 (by simp)]; exact m3
      · rw [fl 25 (by omega) (by omega), g1.2 25 (by simp)]; exact m4
      · rw [fl 23 (by omega) (by omega), g1.2 23 (by simp)]; exact m5
      · rw [fl 24 (by omega) (by omega)]; exact g4
      · rw [r181]; exact mF
      · rw [r182]; exact g5
      · unfold zInts; rw [r181]; exact mi1
      · unfold zInts; rw [r182]; exact g6
      · rw [← hV2]
        simp (disch := omega) only [zput_i, zput_r]
        by_cases q : r = 180
        · rw [q] at i2 ⊢
          exact g3 i (fun z => i2 ⟨rfl, z⟩)
        · rw [g1.1 r (by omega) (by simp; omega)]
      · rw [← hV2]; simp (disch := omega) only [zput_r]; exact g2
      · rw [← hV2]; simp (disch := omega) only [zput_r, zput_at]
    by_cases q : ν.tc < 200
    · have etc : (zNt ν c (mo + u) sh).tc = ν.tc + 1 := by
        show (if ν.tc < 200 then (ν.tc + 1, fun w k => if k = ν.tc then zRow4 c (mo + u) sh 0 w else ν.T w k) else ν.2.1).1 = _
        rw [if_pos q]
      have eT : ∀ w k, (zNt ν c (mo + u) sh).T w k = if k = ν.tc then zRow4 c (mo + u) sh 0 w else ν.T w k := fun w k => by
        show (if ν.tc < 200 then (ν.tc + 1, fun w k => if k = ν.tc then zRow4 c (mo + u) sh 0 w else ν.T w k) else ν.2.1).2 w k = _
        rw [if_pos q]
      have eno : zNo ν = ν.tc := by unfold zNo; rw [if_pos q]
      rw [etc, eno] at fin
      simp (disch := first | assumption | exact zk_215 | ((repeat (first | exact z1n | refine z1I ?_ | refine z1R ?_)); done) | exact rfl | omega | decide) only [zb_215_2, r_aload_0, r_gf_655, r_gf_660, r_ial, r_ial30, r_ial32, r_istore_1i, r_istore_1r, r_istore_1j, r_gf_653, r_gf_654, r_isub, r_istore_2i, r_istore_2r, r_istore_2j, r_iload_1, r_iconst, r_inv_3_0, r_inv_3_1, r_inv_3_2, r_inv_3_3, r_inv_3_4, r_K0, r_K1, r_iload_2, r_icmp_ge, r_goto, r_goto_w, r_istore_3i, r_istore_3r, r_istore_3j, r_gf_652, r_iadd, r_istore_4i, r_istore_4r, r_istore_4j, r_gf_659, r_iastore, r_gf_664, r_gf_669, r_imul, r_iload_4, r_iload_3, r_dup_i, r_dup_r, r_pf_664, r_pf_660, r_inv_2_0, r_inv_2_1, r_inv_2_2, r_inv_2_3, r_inv_2_4, r_inv_4_0, r_inv_4_1, r_inv_4_2, r_inv_4_3, r_inv_4_4, r_ret, vm_s, vm_who, vm_moment, vm_budget, vm_passed, vm_present, vm_tryOf, vm_tryRow, b1', b3, p1, m6, zput_r, ↓reduceIte, not_true_eq_false, not_false_eq_true, Int.reduceEq, Int.reduceLE, Int.reduceLT, Int.reduceAdd, Int.reduceNeg, Int.reduceMul, Int.reduceSub, Int.reduceToNat]
      rw [if_neg (by omega)]
      refine fin _ ?_ ?_ (fun i hi => ?_) zput_at (fun w k w0 w1 k0 k1 => ?_) ?_
      · repeat (first | exact zFm.rf | refine zFm.pf ?_ (by simp) | refine zFm.pr ?_ (by simp) (by omega))
      · simp (disch := omega) only [zput_r, zput_at]
      · rw [zput_r (by omega), zput_i hi]; simp (disch := omega) only [zput_r]; exact zput_i hi
      · rw [eT]
        simp (disch := omega) only [zput_r]
        by_cases e : k = ν.tc
        · rw [if_pos e, e]
          rcases (by omega : w = 0 ∨ w = 1 ∨ w = 2 ∨ w = 3) with rfl | rfl | rfl | rfl <;> simp (disch := omega) only [zput_i, zput_at, zput_r, Int.add_zero] <;> rfl
        · rw [if_neg e]
          simp (disch := omega) only [zput_i, zput_r]
          exact mT w k w0 w1 k0 (by omega)
      · intro i q0 q1
        exact ((((((mi2.put).put).put).put).put).put).put i q0 q1
    · have e1 : (zNt ν c (mo + u) sh).2.1 = ν.2.1 := by
        show (if ν.tc < 200 then (ν.tc + 1, fun w k => if k = ν.tc then zRow4 c (mo + u) sh 0 w else ν.T w k) else ν.2.1) = _
        rw [if_neg q]
      have eno : zNo ν = -1 := by unfold zNo; rw [if_neg q]
      rw [eno] at fin
      simp (disch := first | assumption | exact zk_215 | ((repeat (first | exact z1n | refine z1I ?_ | refine z1R ?_)); done) | exact rfl | omega | decide) only [zb_215_2, r_aload_0, r_gf_655, r_gf_660, r_ial, r_ial30, r_ial32, r_istore_1i, r_istore_1r, r_istore_1j, r_gf_653, r_gf_654, r_isub, r_istore_2i, r_istore_2r, r_istore_2j, r_iload_1, r_iconst, r_inv_3_0, r_inv_3_1, r_inv_3_2, r_inv_3_3, r_inv_3_4, r_K0, r_K1, r_iload_2, r_icmp_ge, r_goto, r_goto_w, r_istore_3i, r_istore_3r, r_istore_3j, r_gf_652, r_iadd, r_istore_4i, r_istore_4r, r_istore_4j, r_gf_659, r_iastore, r_gf_664, r_gf_669, r_imul, r_iload_4, r_iload_3, r_dup_i, r_dup_r, r_pf_664, r_pf_660, r_inv_2_0, r_inv_2_1, r_inv_2_2, r_inv_2_3, r_inv_2_4, r_inv_4_0, r_inv_4_1, r_inv_4_2, r_inv_4_3, r_inv_4_4, r_ret, vm_s, vm_who, vm_moment, vm_budget, vm_passed, vm_present, vm_tryOf, vm_tryRow, b1', b3, p1, m6, zput_r, ↓reduceIte, not_true_eq_false, not_false_eq_true, Int.reduceEq, Int.reduceLE, Int.reduceLT, Int.reduceAdd, Int.reduceNeg, Int.reduceMul, Int.reduceSub, Int.reduceToNat]
      rw [if_pos (by omega)]
      refine fin _ (zFm.rf.pr (by simp) (by omega)) zput_at (fun i hi => zput_i hi) ?_ (fun w k w0 w1 k0 k1 => ?_) (mi2.put)
      · rw [zput_r (by omega), m6]
        show _ = zi (zNt ν c (mo + u) sh).2.1.1
        rw [e1]
        rfl
      · have k1 : k < (zNt ν c (mo + u) sh).2.1.1 := k1
        rw [e1] at k1
        rw [zput_r (by omega)]
        show _ = zi ((zNt ν c (mo + u) sh).2.1.2 w k)
        rw [e1]
        exact mT w k w0 w1 k0 k1
  have hmn : zMnI (ρ.K 2 c) (bu - u) = if ρ.K 2 c < bu - u then ρ.K 2 c else bu - u := rfl
  rw [hmn] at key
  by_cases q : ρ.K 2 c < bu - u
  · rw [if_pos q] at key
    have := key _ rfl
    simp (disch := first | assumption | exact zk_215 | ((repeat (first | exact z1n | refine z1I ?_ | refine z1R ?_)); done) | exact rfl | omega | decide) only [zb_215_0, r_aload_0, r_gf_655, r_gf_660, r_ial, r_ial30, r_ial32, r_istore_1i, r_istore_1r, r_istore_1j, r_gf_653, r_gf_654, r_isub, r_istore_2i, r_istore_2r, r_istore_2j, r_iload_1, r_iconst, r_inv_3_0, r_inv_3_1, r_inv_3_2, r_inv_3_3, r_inv_3_4, r_K0, r_K1, r_iload_2, r_icmp_ge, r_goto, r_goto_w, r_istore_3i, r_istore_3r, r_istore_3j, r_gf_652, r_iadd, r_istore_4i, r_istore_4r, r_istore_4j, r_gf_659, r_iastore, r_gf_664, r_gf_669, r_imul, r_iload_4, r_iload_3, r_dup_i, r_dup_r, r_pf_664, r_pf_660, r_inv_2_0, r_inv_2_1, r_inv_2_2, r_inv_2_3, r_inv_2_4, r_inv_4_0, r_inv_4_1, r_inv_4_2, r_inv_4_3, r_inv_4_4, r_ret, vm_s, vm_who, vm_moment, vm_budget, vm_passed, vm_present, vm_tryOf, vm_tryRow, b1', p2, b4, p1, m_callOf (hC := hC), ↓reduceIte, not_true_eq_false, not_false_eq_true, Int.reduceEq, Int.reduceLE, Int.reduceLT, Int.reduceAdd, Int.reduceNeg, Int.reduceMul, Int.reduceSub, Int.reduceToNat]
    rw [if_neg (by omega)]
    exact this
  · rw [if_neg q] at key
    have := key _ rfl
    simp (disch := first | assumption | exact zk_215 | ((repeat (first | exact z1n | refine z1I ?_ | refine z1R ?_)); done) | exact rfl | omega | decide) only [zb_215_0, zb_215_1, r_aload_0, r_gf_655, r_gf_660, r_ial, r_ial30, r_ial32, r_istore_1i, r_istore_1r, r_istore_1j, r_gf_653, r_gf_654, r_isub, r_istore_2i, r_istore_2r, r_istore_2j, r_iload_1, r_iconst, r_inv_3_0, r_inv_3_1, r_inv_3_2, r_inv_3_3, r_inv_3_4, r_K0, r_K1, r_iload_2, r_icmp_ge, r_goto, r_goto_w, r_istore_3i, r_istore_3r, r_istore_3j, r_gf_652, r_iadd, r_istore_4i, r_istore_4r, r_istore_4j, r_gf_659, r_iastore, r_gf_664, r_gf_669, r_imul, r_iload_4, r_iload_3, r_dup_i, r_dup_r, r_pf_664, r_pf_660, r_inv_2_0, r_inv_2_1, r_inv_2_2, r_inv_2_3, r_inv_2_4, r_inv_4_0, r_inv_4_1, r_inv_4_2, r_inv_4_3, r_inv_4_4, r_ret, vm_s, vm_who, vm_moment, vm_budget, vm_passed, vm_present, vm_tryOf, vm_tryRow, b1', p2, b4, p1, m_callOf (hC := hC), ↓reduceIte, not_true_eq_false, not_false_eq_true, Int.reduceEq, Int.reduceLE, Int.reduceLT, Int.reduceAdd, Int.reduceNeg, Int.reduceMul, Int.reduceSub, Int.reduceToNat]
    rw [if_pos (by omega)]
    exact this
end
