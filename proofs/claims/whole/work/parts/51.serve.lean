/-! SERVING, 2: the class's serve, for any receiver -/
section
variable {d m : Nat} {Q : zO → zH → Prop} {r : List Instr} {L : List Value} {s : zS} {V : zV} {o a n : Nat} {x1 x2 x3 x4 : Int}
theorem r_dA (ht : (s.tg o = 5 ∧ n = 48) ∨ (s.tg o = 0 ∧ n = 3)) : zwp (zcall d) m Q (.invokevirtual 0 :: r) L [zi x4, zi x3, zi x2, zi x1, .ref a, .ref o] (s, V) = zcall d n [.ref o, .ref a, zi x1, zi x2, zi x3, zi x4] (s, V) (zK false m Q (zwp (zcall d) m Q) r L []) := by
  rcases ht with ⟨h, rfl⟩ | ⟨h, rfl⟩
  · exact r_disp_0_5_0 (z1I (z1I (z1I (z1I (z1R (z1R z1n)))))) h
  · exact r_disp_0_0_0 (z1I (z1I (z1I (z1I (z1R (z1R z1n)))))) h
theorem r_dF (ht : (s.tg o = 5 ∧ n = 50) ∨ (s.tg o = 0 ∧ n = 4)) : zwp (zcall d) m Q (.invokevirtual 1 :: r) L [zi x4, zi x3, zi x2, zi x1, .ref o] (s, V) = zcall d n [.ref o, zi x1, zi x2, zi x3, zi x4] (s, V) (zK false m Q (zwp (zcall d) m Q) r L []) := by
  rcases ht with ⟨h, rfl⟩ | ⟨h, rfl⟩
  · exact r_disp_1_5_0 (z1I (z1I (z1I (z1I (z1R z1n))))) h
  · exact r_disp_1_0_0 (z1I (z1I (z1I (z1I (z1R z1n))))) h
theorem r_dM (ht : (s.tg o = 5 ∧ n = 51) ∨ (s.tg o = 0 ∧ n = 5)) : zwp (zcall d) m Q (.invokevirtual 2 :: r) L [.ref o] (s, V) = zcall d n [.ref o] (s, V) (zK false m Q (zwp (zcall d) m Q) r L []) := by
  rcases ht with ⟨h, rfl⟩ | ⟨h, rfl⟩
  · exact r_disp_2_5_0 (z1R z1n) h
  · exact r_disp_2_0_0 (z1R z1n) h
end
/-- what a receiver of serve must do: its notes, its answers (for the calls of one service, at one depth) -/
def zRcv (s : zS) (a o nA nF nM : Nat) (ρ : zR) (R : zN → zV → Prop) (ask : zAsk) (d : Nat) (x dep bm : Int) : Prop :=
  ((s.tg o = 5 ∧ nA = 48) ∨ (s.tg o = 0 ∧ nA = 3)) ∧ ((s.tg o = 5 ∧ nF = 50) ∨ (s.tg o = 0 ∧ nF = 4)) ∧ ((s.tg o = 5 ∧ nM = 51) ∨ (s.tg o = 0 ∧ nM = 5)) ∧ zTok ρ ask ∧
  (∀ ν V, R ν V → zStP s V a ∧ zStC ρ V a) ∧
  (∀ (e : Nat) (cl mo bu : Int) (ν : zN) (V : zV) (K : zO → zH → Prop), d ≤ e → R ν V → 0 ≤ cl → cl < ρ.c → ρ.K 0 cl = x → 0 ≤ mo → mo + bu ≤ 100000 → 1 ≤ bu → bu ≤ 500 → bu ≤ bm → (∀ V', R (ask cl mo bu ν).2 V' → K (.inl (some (zi (zOc (ask cl mo bu ν).1)))) (s, V')) → zcall e nA [.ref o, .ref a, zi cl, zi mo, zi bu, zi dep] (s, V) K) ∧
  (∀ (e : Nat) (y kind mo bu : Int) (ν : zN) (V : zV) (K : zO → zH → Prop), d ≤ e → R ν V → 0 ≤ y → y < ρ.n → 1 ≤ kind → kind ≤ 4 → (∀ V', R (zNfl ν y kind mo bu) V' → K (.inl none) (s, V')) → zcall e nF [.ref o, zi y, zi kind, zi mo, zi bu] (s, V) K) ∧
  (∀ (e : Nat) (ν : zN) (V : zV) (K : zO → zH → Prop), d ≤ e → R ν V → (∀ V', R (zNm ν) V' → K (.inl none) (s, V')) → zcall e nM [.ref o] (s, V) K)
section
variable {d e : Nat} {s : zS} {V : zV} {Q : zO → zH → Prop} {a o nA nF nM : Nat} {ρ : zR} {R : zN → zV → Prop} {ask : zAsk} {x dep bm : Int} {ν : zN}
set_option maxRecDepth 20000 in
theorem c_makeCall (hR : zRcv s a o nA nF nM ρ R ask d x dep bm) (hW : zWF ρ) (hd : d + 1 ≤ e) (h1 : 1 ≤ d) (hν : R ν V) {cl mo bu u : Int} (c0 : 0 ≤ cl) (c1 : cl < ρ.c) (hx : ρ.K 0 cl = x) (m0 : 0 ≤ mo) (m1 : mo + bu ≤ 100000) (b1 : bu ≤ 1000) (u0 : 0 ≤ u) (u1 : u ≤ bu) (hbm : bu - u ≤ bm) (hQ : ∀ V', R (zMk ρ ask cl mo bu (ρ.K 3 cl).toNat u ν).2 V' → Q (.inl (some (zi (zOc (zMk ρ ask cl mo bu (ρ.K 3 cl).toNat u ν).1)))) (s, V')) : zcall e 64 [.ref o, .ref a, zi cl, zi mo, zi bu, zi u, zi dep] (s, V) Q := by
  obtain ⟨tA, tF, tM, hT, hS, hA, hF, hM⟩ := hR
  obtain ⟨n0, n1, cc0, cc1⟩ := hW.1
  have w := hW.2.2.1 cl c0 c1
  obtain ⟨e, rfl⟩ : ∃ q, e = q + 1 := ⟨e - 1, by omega⟩
  have tO : s.tg o = 0 ∨ s.tg o = 5 := by omega
  rw [zc_64 tO]
  obtain ⟨hP0, hC0⟩ := hS ν V hν
  have row : ∀ V1, zStP s V1 a → zStC ρ V1 a → (V1 a 3 = .ref (a + 11) ∧ V1 (a + 11) 3 = .ref (a + 15) ∧ V1 (a + 11) 2 = .ref (a + 14) ∧ V1 (a + 11) 0 = .ref (a + 12)) ∧ V1 (a + 15) cl = zi (ρ.K 3 cl) ∧ V1 (a + 14) cl = zi (ρ.K 2 cl) ∧ V1 (a + 12) cl = zi x := fun V1 hP hC =>
    ⟨⟨hP.2.2.2.2.1, (hP.2.2.2.2.2.2.2.2 3 (by omega)).1, (hP.2.2.2.2.2.2.2.2 2 (by omega)).1, (hP.2.2.2.2.2.2.2.2 0 (by omega)).1⟩, hC.2.2.2.1 3 (by omega) cl c0 c1, hC.2.2.2.1 2 (by omega) cl c0 c1, (hC.2.2.2.1 0 (by omega) cl c0 c1).trans (by rw [← hx]; rfl)⟩
  have t7 := hP0.1
  have tB := hP0.2.2.2.2.2.1
  have lB := hP0.2.2.2.2.2.2.1
  have t15 : s.tg (a + 15) = 20 := (hP0.2.2.2.2.2.2.2.2 3 (by omega)).2.1
  have l15 : s.ln (a + 15) = 24 := (hP0.2.2.2.2.2.2.2.2 3 (by omega)).2.2
  have t14 : s.tg (a + 14) = 20 := (hP0.2.2.2.2.2.2.2.2 2 (by omega)).2.1
  have l14 : s.ln (a + 14) = 24 := (hP0.2.2.2.2.2.2.2.2 2 (by omega)).2.2
  have t12 : s.tg (a + 12) = 20 := (hP0.2.2.2.2.2.2.2.2 0 (by omega)).2.1
  have l12 : s.ln (a + 12) = 24 := (hP0.2.2.2.2.2.2.2.2 0 (by omega)).2.2
  have loop : ∀ (t : Nat) (u : Int) (ν : zN) (V : zV) (k : Int) (w10 w11 : Value), k + t = ρ.K 3 cl → 0 ≤ k → 0 ≤ u → u ≤ bu → bu - u ≤ bm → R ν V → (∀ V', R (zMk ρ ask cl mo bu t u ν).2 V' → Q (.inl (some (zi (zOc (zMk ρ ask cl mo bu t u ν).1)))) (s, V')) → ∀ u5 : Int, zwp (zcall e) 64 Q (zB 64 1) [.ref o, .ref a, zi cl, zi mo, zi bu, zi u5, zi dep, zi u, zi (ρ.K 3 cl), zi k, w10, w11] [] (s, V) := by
    intro t
    induction t with
    | zero =>
      intro u ν V k w10 w11 hk k0 u0 u1 hbm hν hQ u5
      have := hQ V hν
      have e1 : (zMk ρ ask cl mo bu 0 u ν).1 = (u, false) := rfl
      rw [e1] at this
      simp (disch := first | assumption | exact zk_64 | ((repeat (first | exact z1n | refine z1I ?_ | refine z1R ?_)); done) | exact rfl | omega | decide) only [zb_64_1, zb_64_4, r_iload_5, r_istore_7i, r_istore_7r, r_istore_7j, r_aload_1, r_gf_451, r_iconst, r_aaload, r_iload_2, r_ial, r_ial30, r_ial32, r_istore_8i, r_istore_8r, r_istore_8j, r_istore_9i, r_istore_9r, r_istore_9j, r_goto_w, r_iload_9, r_iload_8, r_icmp_ge, r_iload_7, r_iload_4, r_icmp_lt, r_aload_0, r_iload_3, r_iadd, r_disp_1_0_0, r_disp_1_0_1, r_disp_1_0_2, r_disp_1_5_0, r_disp_1_5_1, r_disp_1_5_2, r_K0, r_K1, r_inv_1_0, r_inv_1_1, r_inv_1_2, r_inv_1_3, r_inv_1_4, r_iret, r_bret_0, r_bret_1, r_isub, r_inv_2_0, r_inv_2_1, r_inv_2_2, r_inv_2_3, r_inv_2_4, r_istore_10i, r_istore_10r, r_istore_10j, r_iload_10, r_iload_6, r_disp_0_0_0, r_disp_0_0_1, r_disp_0_0_2, r_disp_0_5_0, r_disp_0_5_1, r_disp_0_5_2, r_istore_11i, r_istore_11r, r_istore_11j, r_iload_11, r_if_eq, r_iinc_9i, r_iinc_9r, r_iinc_9j, r_goto, c_bad, ↓reduceIte, not_true_eq_false, not_false_eq_true, Int.reduceEq, Int.reduceLE, Int.reduceLT, Int.reduceAdd, Int.reduceNeg, Int.reduceMul, Int.reduceSub, Int.reduceToNat]
      rw [if_pos (by omega)]
      exact this
    | succ t ih =>
      intro u ν V k w10 w11 hk k0 u0 u1 hbm hν hQ u5
      obtain ⟨hP, hC⟩ := hS ν V hν
      obtain ⟨⟨v3, v33, v32, v30⟩, k3, k2, k0'⟩ := row V hP hC
      conv => rw [zb_64_1]
      simp (disch := first | assumption | exact zk_64 | ((repeat (first | exact z1n | refine z1I ?_ | refine z1R ?_)); done) | exact rfl | omega | decide) only [r_iload_5, r_istore_7i, r_istore_7r, r_istore_7j, r_aload_1, r_gf_451, r_iconst, r_aaload, r_iload_2, r_ial, r_ial30, r_ial32, r_istore_8i, r_istore_8r, r_istore_8j, r_istore_9i, r_istore_9r, r_istore_9j, r_goto_w, r_iload_9, r_iload_8, r_icmp_ge, r_iload_7, r_iload_4, r_icmp_lt, r_aload_0, r_iload_3, r_iadd, r_disp_1_0_0, r_disp_1_0_1, r_disp_1_0_2, r_disp_1_5_0, r_disp_1_5_1, r_disp_1_5_2, r_K0, r_K1, r_inv_1_0, r_inv_1_1, r_inv_1_2, r_inv_1_3, r_inv_1_4, r_iret, r_bret_0, r_bret_1, r_isub, r_inv_2_0, r_inv_2_1, r_inv_2_2, r_inv_2_3, r_inv_2_4, r_istore_10i, r_istore_10r, r_istore_10j, r_iload_10, r_iload_6, r_disp_0_0_0, r_disp_0_0_1, r_disp_0_0_2, r_disp_0_5_0, r_disp_0_5_1, r_disp_0_5_2, r_istore_11i, r_istore_11r, r_istore_11j, r_iload_11, r_if_eq, r_iinc_9i, r_iinc_9r, r_iinc_9j, r_goto, v3, v30, k0', ↓reduceIte, not_true_eq_false, not_false_eq_true, Int.reduceEq, Int.reduceLE, Int.reduceLT, Int.reduceAdd, Int.reduceNeg, Int.reduceMul, Int.reduceSub, Int.reduceToNat]
      rw [if_neg (by omega)]
      unfold zMk at hQ
      by_cases q : bu ≤ u
      · rw [if_neg (by omega)]
        rw [if_pos q] at hQ
        rw [r_dF tF]
        refine hF e x 3 (mo + u) bu ν V _ (by omega) hν (by omega) (by omega) (by omega) (by omega) (fun V' hν' => ?_)
        have := hQ V' (by rw [hx]; exact hν')
        simp (disch := first | assumption | exact zk_64 | ((repeat (first | exact z1n | refine z1I ?_ | refine z1R ?_)); done) | exact rfl | omega | decide) only [r_iload_5, r_istore_7i, r_istore_7r, r_istore_7j, r_aload_1, r_gf_451, r_iconst, r_aaload, r_iload_2, r_ial, r_ial30, r_ial32, r_istore_8i, r_istore_8r, r_istore_8j, r_istore_9i, r_istore_9r, r_istore_9j, r_goto_w, r_iload_9, r_iload_8, r_icmp_ge, r_iload_7, r_iload_4, r_icmp_lt, r_aload_0, r_iload_3, r_iadd, r_disp_1_0_0, r_disp_1_0_1, r_disp_1_0_2, r_disp_1_5_0, r_disp_1_5_1, r_disp_1_5_2, r_K0, r_K1, r_inv_1_0, r_inv_1_1, r_inv_1_2, r_inv_1_3, r_inv_1_4, r_iret, r_bret_0, r_bret_1, r_isub, r_inv_2_0, r_inv_2_1, r_inv_2_2, r_inv_2_3, r_inv_2_4, r_istore_10i, r_istore_10r, r_istore_10j, r_iload_10, r_iload_6, r_disp_0_0_0, r_disp_0_0_1, r_disp_0_0_2, r_disp_0_5_0, r_disp_0_5_1, r_disp_0_5_2, r_istore_11i, r_istore_11r, r_istore_11j, r_iload_11, r_if_eq, r_iinc_9i, r_iinc_9r, r_iinc_9j, r_goto, c_bad, ↓reduceIte, not_true_eq_false, not_false_eq_true, Int.reduceEq, Int.reduceLE, Int.reduceLT, Int.reduceAdd, Int.reduceNeg, Int.reduceMul, Int.reduceSub, Int.reduceToNat]
        exact this
      · rw [if_pos (by omega)]
        rw [if_neg q] at hQ
        have i1 : zI32 (ρ.K 2 cl) := ⟨by omega, by omega⟩
        have i2 : zI32 (bu - u) := ⟨by omega, by omega⟩
        have hmn : (if ρ.K 2 cl < bu - u then ρ.K 2 cl else bu - u) = zMnI (ρ.K 2 cl) (bu - u) := rfl
        have hmr : 1 ≤ zMnI (ρ.K 2 cl) (bu - u) ∧ zMnI (ρ.K 2 cl) (bu - u) ≤ 500 ∧ zMnI (ρ.K 2 cl) (bu - u) ≤ bu - u := by unfold zMnI; split <;> omega
        simp (disch := first | assumption | exact zk_64 | ((repeat (first | exact z1n | refine z1I ?_ | refine z1R ?_)); done) | exact rfl | omega | decide) only [zb_64_2, r_iload_5, r_istore_7i, r_istore_7r, r_istore_7j, r_aload_1, r_gf_451, r_iconst, r_aaload, r_iload_2, r_ial, r_ial30, r_ial32, r_istore_8i, r_istore_8r, r_istore_8j, r_istore_9i, r_istore_9r, r_istore_9j, r_goto_w, r_iload_9, r_iload_8, r_icmp_ge, r_iload_7, r_iload_4, r_icmp_lt, r_aload_0, r_iload_3, r_iadd, r_disp_1_0_0, r_disp_1_0_1, r_disp_1_0_2, r_disp_1_5_0, r_disp_1_5_1, r_disp_1_5_2, r_K0, r_K1, r_inv_1_0, r_inv_1_1, r_inv_1_2, r_inv_1_3, r_inv_1_4, r_iret, r_bret_0, r_bret_1, r_isub, r_inv_2_0, r_inv_2_1, r_inv_2_2, r_inv_2_3, r_inv_2_4, r_istore_10i, r_istore_10r, r_istore_10j, r_iload_10, r_iload_6, r_disp_0_0_0, r_disp_0_0_1, r_disp_0_0_2, r_disp_0_5_0, r_disp_0_5_1, r_disp_0_5_2, r_istore_11i, r_istore_11r, r_istore_11j, r_iload_11, r_if_eq, r_iinc_9i, r_iinc_9r, r_iinc_9j, r_goto, v3, v32, k2, c_min, hmn, ↓reduceIte, not_true_eq_false, not_false_eq_true, Int.reduceEq, Int.reduceLE, Int.reduceLT, Int.reduceAdd, Int.reduceNeg, Int.reduceMul, Int.reduceSub, Int.reduceToNat]
        generalize zMnI (ρ.K 2 cl) (bu - u) = sh at *
        rw [r_dA tA]
        refine hA e cl (mo + u) sh ν V _ (by omega) hν c0 c1 hx (by omega) (by omega) (by omega) (by omega) (by omega) (fun V' hν' => ?_)
        have ht := hT cl (mo + u) sh ν c0 c1 (by omega)
        generalize hres : ask cl (mo + u) sh ν = res at *
        simp (disch := first | assumption | exact zk_64 | ((repeat (first | exact z1n | refine z1I ?_ | refine z1R ?_)); done) | exact rfl | omega | decide) only [r_iload_5, r_istore_7i, r_istore_7r, r_istore_7j, r_aload_1, r_gf_451, r_iconst, r_aaload, r_iload_2, r_ial, r_ial30, r_ial32, r_istore_8i, r_istore_8r, r_istore_8j, r_istore_9i, r_istore_9r, r_istore_9j, r_goto_w, r_iload_9, r_iload_8, r_icmp_ge, r_iload_7, r_iload_4, r_icmp_lt, r_aload_0, r_iload_3, r_iadd, r_disp_1_0_0, r_disp_1_0_1, r_disp_1_0_2, r_disp_1_5_0, r_disp_1_5_1, r_disp_1_5_2, r_K0, r_K1, r_inv_1_0, r_inv_1_1, r_inv_1_2, r_inv_1_3, r_inv_1_4, r_iret, r_bret_0, r_bret_1, r_isub, r_inv_2_0, r_inv_2_1, r_inv_2_2, r_inv_2_3, r_inv_2_4, r_istore_10i, r_istore_10r, r_istore_10j, r_iload_10, r_iload_6, r_disp_0_0_0, r_disp_0_0_1, r_disp_0_0_2, r_disp_0_5_0, r_disp_0_5_1, r_disp_0_5_2, r_istore_11i, r_istore_11r, r_istore_11j, r_iload_11, r_if_eq, r_iinc_9i, r_iinc_9r, r_iinc_9j, r_goto, c_timeOf, c_isGood, ↓reduceIte, not_true_eq_false, not_false_eq_true, Int.reduceEq, Int.reduceLE, Int.reduceLT, Int.reduceAdd, Int.reduceNeg, Int.reduceMul, Int.reduceSub, Int.reduceToNat]
        by_cases g : res.1.2 = true
        · rw [if_pos g] at hQ
          have := hQ V' hν'
          rw [if_pos g]
          simp (disch := first | assumption | exact zk_64 | ((repeat (first | exact z1n | refine z1I ?_ | refine z1R ?_)); done) | exact rfl | omega | decide) only [r_iload_5, r_istore_7i, r_istore_7r, r_istore_7j, r_aload_1, r_gf_451, r_iconst, r_aaload, r_iload_2, r_ial, r_ial30, r_ial32, r_istore_8i, r_istore_8r, r_istore_8j, r_istore_9i, r_istore_9r, r_istore_9j, r_goto_w, r_iload_9, r_iload_8, r_icmp_ge, r_iload_7, r_iload_4, r_icmp_lt, r_aload_0, r_iload_3, r_iadd, r_disp_1_0_0, r_disp_1_0_1, r_disp_1_0_2, r_disp_1_5_0, r_disp_1_5_1, r_disp_1_5_2, r_K0, r_K1, r_inv_1_0, r_inv_1_1, r_inv_1_2, r_inv_1_3, r_inv_1_4, r_iret, r_bret_0, r_bret_1, r_isub, r_inv_2_0, r_inv_2_1, r_inv_2_2, r_inv_2_3, r_inv_2_4, r_istore_10i, r_istore_10r, r_istore_10j, r_iload_10, r_iload_6, r_disp_0_0_0, r_disp_0_0_1, r_disp_0_0_2, r_disp_0_5_0, r_disp_0_5_1, r_disp_0_5_2, r_istore_11i, r_istore_11r, r_istore_11j, r_iload_11, r_if_eq, r_iinc_9i, r_iinc_9r, r_iinc_9j, r_goto, c_good, ↓reduceIte, not_true_eq_false, not_false_eq_true, Int.reduceEq, Int.reduceLE, Int.reduceLT, Int.reduceAdd, Int.reduceNeg, Int.reduceMul, Int.reduceSub, Int.reduceToNat]
          exact this
        · rw [if_neg g] at hQ
          rw [if_neg g]
          simp (disch := first | assumption | exact zk_64 | ((repeat (first | exact z1n | refine z1I ?_ | refine z1R ?_)); done) | exact rfl | omega | decide) only [zb_64_3, r_iload_5, r_istore_7i, r_istore_7r, r_istore_7j, r_aload_1, r_gf_451, r_iconst, r_aaload, r_iload_2, r_ial, r_ial30, r_ial32, r_istore_8i, r_istore_8r, r_istore_8j, r_istore_9i, r_istore_9r, r_istore_9j, r_goto_w, r_iload_9, r_iload_8, r_icmp_ge, r_iload_7, r_iload_4, r_icmp_lt, r_aload_0, r_iload_3, r_iadd, r_disp_1_0_0, r_disp_1_0_1, r_disp_1_0_2, r_disp_1_5_0, r_disp_1_5_1, r_disp_1_5_2, r_K0, r_K1, r_inv_1_0, r_inv_1_1, r_inv_1_2, r_inv_1_3, r_inv_1_4, r_iret, r_bret_0, r_bret_1, r_isub, r_inv_2_0, r_inv_2_1, r_inv_2_2, r_inv_2_3, r_inv_2_4, r_istore_10i, r_istore_10r, r_istore_10j, r_iload_10, r_iload_6, r_disp_0_0_0, r_disp_0_0_1, r_disp_0_0_2, r_disp_0_5_0, r_disp_0_5_1, r_disp_0_5_2, r_istore_11i, r_istore_11r, r_istore_11j, r_iload_11, r_if_eq, r_iinc_9i, r_iinc_9r, r_iinc_9j, r_goto, ↓reduceIte, not_true_eq_false, not_false_eq_true, Int.reduceEq, Int.reduceLE, Int.reduceLT, Int.reduceAdd, Int.reduceNeg, Int.reduceMul, Int.reduceSub, Int.reduceToNat]
          exact ih _ res.2 V' (k + 1) _ _ (by omega) (by omega) (by omega) (by omega) (by omega) hν' hQ u5
  obtain ⟨⟨v3, v33, v32, v30⟩, k3, k2, k0'⟩ := row V hP0 hC0
  simp (disch := first | assumption | exact zk_64 | ((repeat (first | exact z1n | refine z1I ?_ | refine z1R ?_)); done) | exact rfl | omega | decide) only [zb_64_0, r_iload_5, r_istore_7i, r_istore_7r, r_istore_7j, r_aload_1, r_gf_451, r_iconst, r_aaload, r_iload_2, r_ial, r_ial30, r_ial32, r_istore_8i, r_istore_8r, r_istore_8j, r_istore_9i, r_istore_9r, r_istore_9j, r_goto_w, r_iload_9, r_iload_8, r_icmp_ge, r_iload_7, r_iload_4, r_icmp_lt, r_aload_0, r_iload_3, r_iadd, r_disp_1_0_0, r_disp_1_0_1, r_disp_1_0_2, r_disp_1_5_0, r_disp_1_5_1, r_disp_1_5_2, r_K0, r_K1, r_inv_1_0, r_inv_1_1, r_inv_1_2, r_inv_1_3, r_inv_1_4, r_iret, r_bret_0, r_bret_1, r_isub, r_inv_2_0, r_inv_2_1, r_inv_2_2, r_inv_2_3, r_inv_2_4, r_istore_10i, r_istore_10r, r_istore_10j, r_iload_10, r_iload_6, r_disp_0_0_0, r_disp_0_0_1, r_disp_0_0_2, r_disp_0_5_0, r_disp_0_5_1, r_disp_0_5_2, r_istore_11i, r_istore_11r, r_istore_11j, r_iload_11, r_if_eq, r_iinc_9i, r_iinc_9r, r_iinc_9j, r_goto, v3, v33, k3, ↓reduceIte, not_true_eq_false, not_false_eq_true, Int.reduceEq, Int.reduceLE, Int.reduceLT, Int.reduceAdd, Int.reduceNeg, Int.reduceMul, Int.reduceSub, Int.reduceToNat]
  exact loop (ρ.K 3 cl).toNat u ν V 0 zJ zJ (by omega) (by omega) u0 u1 hbm hν hQ u
set_option maxRecDepth 20000 in
theorem c_group (hR : zRcv s a o nA nF nM ρ R ask d x dep bm) (hW : zWF ρ) (hd : d + 2 ≤ e) (h1 : 2 ≤ d) (hν : R ν V) {hh mo bu u : Int} (c0 : 0 ≤ hh) (c1 : hh < ρ.c) (hx : ρ.K 0 hh = x) (m0 : 0 ≤ mo) (m1 : mo + bu ≤ 100000) (b1 : bu ≤ 1000) (u0 : 0 ≤ u) (u1 : u ≤ bu) (hbm : bu - u ≤ bm) (hQ : ∀ V', R (zGr ρ ask hh mo bu (ρ.c - hh).toNat u ν).2 V' → Q (.inl (some (zi (zOc (zGr ρ ask hh mo bu (ρ.c - hh).toNat u ν).1)))) (s, V')) : zcall e 63 [.ref o, .ref a, zi hh, zi mo, zi bu, zi u, zi dep] (s, V) Q := by
  have hR' := hR
  obtain ⟨tA, tF, tM, hT, hS, hA, hF, hM⟩ := hR'
  obtain ⟨n0, n1, cc0, cc1⟩ := hW.1
  obtain ⟨e, rfl⟩ : ∃ q, e = q + 1 := ⟨e - 1, by omega⟩
  have tO : s.tg o = 0 ∨ s.tg o = 5 := by omega
  rw [zc_63 tO]
  have loop : ∀ (t : Nat) (u : Int) (ν : zN) (V : zV) (w9 : Value), hh + 0 ≤ ρ.c - t → (t : Int) ≤ ρ.c - hh → 0 ≤ u → u ≤ bu → bu - u ≤ bm → R ν V → (∀ V', R (zGr ρ ask hh mo bu t u ν).2 V' → Q (.inl (some (zi (zOc (zGr ρ ask hh mo bu t u ν).1)))) (s, V')) → ∀ u5 : Int, zwp (zcall e) 63 Q (zB 63 1) [.ref o, .ref a, zi hh, zi mo, zi bu, zi u5, zi dep, zi u, zi (ρ.c - t), w9] [] (s, V) := by
    intro t
    induction t with
    | zero =>
      intro u ν V w9 ht1 ht u0 u1 hbm hν hQ u5
      obtain ⟨hP, hC⟩ := hS ν V hν
      have t7 := hP.1
      have vc := hC.2.1
      have := hQ V hν
      have e1 : (zGr ρ ask hh mo bu 0 u ν).1 = (u, false) := rfl
      rw [e1] at this
      simp (disch := first | assumption | exact zk_63 | ((repeat (first | exact z1n | refine z1I ?_ | refine z1R ?_)); done) | exact rfl | omega | decide) only [zb_63_1, zb_63_4, r_iload_5, r_istore_7i, r_istore_7r, r_istore_7j, r_iload_2, r_istore_8i, r_istore_8r, r_istore_8j, r_goto_w, r_iload_8, r_aload_1, r_gf_449, r_icmp_ge, r_inv_3_0, r_inv_3_1, r_inv_3_2, r_inv_3_3, r_inv_3_4, r_K0, r_K1, r_if_eq, r_aload_0, r_iload_3, r_iload_4, r_iload_7, r_iload_6, r_inv_7_0, r_inv_7_1, r_inv_7_2, r_inv_7_3, r_inv_7_4, r_istore_9i, r_istore_9r, r_istore_9j, r_iload_9, r_inv_1_0, r_inv_1_1, r_inv_1_2, r_inv_1_3, r_inv_1_4, r_iret, r_bret_0, r_bret_1, r_iinc_8i, r_iinc_8r, r_iinc_8j, r_goto, vc, c_bad, ↓reduceIte, not_true_eq_false, not_false_eq_true, Int.reduceEq, Int.reduceLE, Int.reduceLT, Int.reduceAdd, Int.reduceNeg, Int.reduceMul, Int.reduceSub, Int.reduceToNat]
      rw [if_pos (by omega)]
      exact this
    | succ t ih =>
      intro u ν V w9 ht1 ht u0 u1 hbm hν hQ u5
      obtain ⟨hP, hC⟩ := hS ν V hν
      have t7 := hP.1
      have vc := hC.2.1
      unfold zGr at hQ
      generalize hcl : ρ.c - ((t + 1 : Nat) : Int) = cl at *
      have cl0 : 0 ≤ cl ∧ cl < ρ.c := by omega
      have hlr := zLead_rng ρ cl0.1
      have nxt : cl + 1 = ρ.c - (t : Int) := by omega
      have hw3 := hW.2.2.1 cl cl0.1 cl0.2
      have hmt := zMk_t (ρ := ρ) hT (cl := cl) (mo := mo) (bu := bu) cl0.1 cl0.2 hw3.2.2.1.1 (ρ.K 3 cl).toNat u ν u0 u1
      conv => rw [zb_63_1]
      simp (disch := first | assumption | exact zk_63 | ((repeat (first | exact z1n | refine z1I ?_ | refine z1R ?_)); done) | exact rfl | omega | decide) only [r_iload_5, r_istore_7i, r_istore_7r, r_istore_7j, r_iload_2, r_istore_8i, r_istore_8r, r_istore_8j, r_goto_w, r_iload_8, r_aload_1, r_gf_449, r_icmp_ge, r_inv_3_0, r_inv_3_1, r_inv_3_2, r_inv_3_3, r_inv_3_4, r_K0, r_K1, r_if_eq, r_aload_0, r_iload_3, r_iload_4, r_iload_7, r_iload_6, r_inv_7_0, r_inv_7_1, r_inv_7_2, r_inv_7_3, r_inv_7_4, r_istore_9i, r_istore_9r, r_istore_9j, r_iload_9, r_inv_1_0, r_inv_1_1, r_inv_1_2, r_inv_1_3, r_inv_1_4, r_iret, r_bret_0, r_bret_1, r_iinc_8i, r_iinc_8r, r_iinc_8j, r_goto, vc, c_isInGroup (hC := hC), ↓reduceIte, not_true_eq_false, not_false_eq_true, Int.reduceEq, Int.reduceLE, Int.reduceLT, Int.reduceAdd, Int.reduceNeg, Int.reduceMul, Int.reduceSub, Int.reduceToNat]
      rw [if_neg (by omega)]
      by_cases q : cl = hh ∨ zLead ρ cl = hh
      · rw [if_pos q] at hQ
        rw [if_pos q]
        have hxc : ρ.K 0 cl = x := by
          rcases q with q | q
          · rw [q]; exact hx
          · unfold zLead at q
            by_cases q4 : ρ.K 4 cl = 2
            · rw [if_pos q4] at q
              have hz := (zHd_is (ρ := ρ) (x := ρ.K 0 cl) (j := cl.toNat) (by omega)).1.1
              rw [q] at hz
              rw [← hz]; exact hx
            · rw [if_neg q4] at q; omega
        refine c_makeCall hR hW (by omega) (by omega) hν cl0.1 cl0.2 hxc m0 m1 b1 u0 u1 hbm (fun V' hν' => ?_)
        generalize hres : zMk ρ ask cl mo bu (ρ.K 3 cl).toNat u ν = res at *
        simp (disch := first | assumption | exact zk_63 | ((repeat (first | exact z1n | refine z1I ?_ | refine z1R ?_)); done) | exact rfl | omega | decide) only [r_iload_5, r_istore_7i, r_istore_7r, r_istore_7j, r_iload_2, r_istore_8i, r_istore_8r, r_istore_8j, r_goto_w, r_iload_8, r_aload_1, r_gf_449, r_icmp_ge, r_inv_3_0, r_inv_3_1, r_inv_3_2, r_inv_3_3, r_inv_3_4, r_K0, r_K1, r_if_eq, r_aload_0, r_iload_3, r_iload_4, r_iload_7, r_iload_6, r_inv_7_0, r_inv_7_1, r_inv_7_2, r_inv_7_3, r_inv_7_4, r_istore_9i, r_istore_9r, r_istore_9j, r_iload_9, r_inv_1_0, r_inv_1_1, r_inv_1_2, r_inv_1_3, r_inv_1_4, r_iret, r_bret_0, r_bret_1, r_iinc_8i, r_iinc_8r, r_iinc_8j, r_goto, c_isGood, c_timeOf, ↓reduceIte, not_true_eq_false, not_false_eq_true, Int.reduceEq, Int.reduceLE, Int.reduceLT, Int.reduceAdd, Int.reduceNeg, Int.reduceMul, Int.reduceSub, Int.reduceToNat]
        by_cases g : res.1.2 = true
        · rw [if_pos g] at hQ
          rw [if_pos g]
          exact hQ V' hν'
        · rw [if_neg g] at hQ
          rw [if_neg g]
          simp (disch := first | assumption | exact zk_63 | ((repeat (first | exact z1n | refine z1I ?_ | refine z1R ?_)); done) | exact rfl | omega | decide) only [zb_63_2, zb_63_3, r_iload_5, r_istore_7i, r_istore_7r, r_istore_7j, r_iload_2, r_istore_8i, r_istore_8r, r_istore_8j, r_goto_w, r_iload_8, r_aload_1, r_gf_449, r_icmp_ge, r_inv_3_0, r_inv_3_1, r_inv_3_2, r_inv_3_3, r_inv_3_4, r_K0, r_K1, r_if_eq, r_aload_0, r_iload_3, r_iload_4, r_iload_7, r_iload_6, r_inv_7_0, r_inv_7_1, r_inv_7_2, r_inv_7_3, r_inv_7_4, r_istore_9i, r_istore_9r, r_istore_9j, r_iload_9, r_inv_1_0, r_inv_1_1, r_inv_1_2, r_inv_1_3, r_inv_1_4, r_iret, r_bret_0, r_bret_1, r_iinc_8i, r_iinc_8r, r_iinc_8j, r_goto, c_isGood, c_timeOf, ↓reduceIte, not_true_eq_false, not_false_eq_true, Int.reduceEq, Int.reduceLE, Int.reduceLT, Int.reduceAdd, Int.reduceNeg, Int.reduceMul, Int.reduceSub, Int.reduceToNat]
          rw [nxt]
          exact ih res.1.1 res.2 V' _ (by omega) (by omega) (by omega) hmt.2 (by omega) hν' hQ u5
      · rw [if_neg q] at hQ
        rw [if_neg q]
        simp (disch := first | assumption | exact zk_63 | ((repeat (first | exact z1n | refine z1I ?_ | refine z1R ?_)); done) | exact rfl | omega | decide) only [zb_63_3, r_iload_5, r_istore_7i, r_istore_7r, r_istore_7j, r_iload_2, r_istore_8i, r_istore_8r, r_istore_8j, r_goto_w, r_iload_8, r_aload_1, r_gf_449, r_icmp_ge, r_inv_3_0, r_inv_3_1, r_inv_3_2, r_inv_3_3, r_inv_3_4, r_K0, r_K1, r_if_eq, r_aload_0, r_iload_3, r_iload_4, r_iload_7, r_iload_6, r_inv_7_0, r_inv_7_1, r_inv_7_2, r_inv_7_3, r_inv_7_4, r_istore_9i, r_istore_9r, r_istore_9j, r_iload_9, r_inv_1_0, r_inv_1_1, r_inv_1_2, r_inv_1_3, r_inv_1_4, r_iret, r_bret_0, r_bret_1, r_iinc_8i, r_iinc_8r, r_iinc_8j, r_goto, ↓reduceIte, not_true_eq_false, not_false_eq_true, Int.reduceEq, Int.reduceLE, Int.reduceLT, Int.reduceAdd, Int.reduceNeg, Int.reduceMul, Int.reduceSub, Int.reduceToNat]
        rw [nxt]
        exact ih u ν V _ (by omega) (by omega) u0 u1 hbm hν hQ u5
  simp (disch := first | assumption | exact zk_63 | ((repeat (first | exact z1n | refine z1I ?_ | refine z1R ?_)); done) | exact rfl | omega | decide) only [zb_63_0, r_iload_5, r_istore_7i, r_istore_7r, r_istore_7j, r_iload_2, r_istore_8i, r_istore_8r, r_istore_8j, r_goto_w, r_iload_8, r_aload_1, r_gf_449, r_icmp_ge, r_inv_3_0, r_inv_3_1, r_inv_3_2, r_inv_3_3, r_inv_3_4, r_K0, r_K1, r_if_eq, r_aload_0, r_iload_3, r_iload_4, r_iload_7, r_iload_6, r_inv_7_0, r_inv_7_1, r_inv_7_2, r_inv_7_3, r_inv_7_4, r_istore_9i, r_istore_9r, r_istore_9j, r_iload_9, r_inv_1_0, r_inv_1_1, r_inv_1_2, r_inv_1_3, r_inv_1_4, r_iret, r_bret_0, r_bret_1, r_iinc_8i, r_iinc_8r, r_iinc_8j, r_goto, ↓reduceIte, not_true_eq_false, not_false_eq_true, Int.reduceEq, Int.reduceLE, Int.reduceLT, Int.reduceAdd, Int.reduceNeg, Int.reduceMul, Int.reduceSub, Int.reduceToNat]
  have := loop (ρ.c - hh).toNat u ν V zJ (by omega) (by omega) u0 u1 hbm hν hQ u
  rw [show ρ.c - (((ρ.c - hh).toNat : Nat) : Int) = hh by omega] at this
  exact this
end
