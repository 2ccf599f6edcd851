/-! SERVING, 3: serve -/
section
variable {d e : Nat} {s : zS} {V : zV} {Q : zO → zH → Prop} {a o nA nF nM : Nat} {ρ : zR} {R : zN → zV → Prop} {ask : zAsk} {x dep bm : Int} {ν : zN}
set_option maxRecDepth 20000 in
theorem c_serve5 (hR : zRcv s a o nA nF nM ρ R ask d x dep bm) (ho : s.tg o = 5) (hW : zWF ρ) (hd : d + 3 ≤ e) (h1 : 2 ≤ d) (hν : R ν V) {mo bu : Int} (x0 : 0 ≤ x) (x1 : x < ρ.n) (m0 : 0 ≤ mo) (m1 : mo + bu ≤ 100000) (b0 : 0 ≤ bu) (b1 : bu ≤ 1000) (hbm : bu - 1 ≤ bm) (hQ : ∀ V', R (zSvB ρ ask x mo bu ν).2 V' → Q (.inl (some (zi (zOc (zSvB ρ ask x mo bu ν).1)))) (s, V')) : zcall e 306 [.ref o, .ref a, zi x, zi mo, zi bu, zi dep] (s, V) Q := by
  have hR' := hR
  obtain ⟨tA, tF, tM, hT, hS, hA, hF, hM⟩ := hR'
  obtain ⟨n0, n1, cc0, cc1⟩ := hW.1
  obtain ⟨e, rfl⟩ : ∃ q, e = q + 1 := ⟨e - 1, by omega⟩
  rw [zc_306 ho]
  obtain rfl : nF = 50 := by omega
  obtain rfl : nM = 51 := by omega
  have hor := zOwn_rng hW x0 x1
  have hown : zdiv (ρ.S 0 x * ρ.S 1 x + 99) 100 = zOwn ρ x := rfl
  have loop : ∀ (t : Nat) (u : Int) (ν : zN) (V : zV) (w8 : Value), (t : Int) ≤ ρ.c → 1 ≤ u → u ≤ bu → R ν V → (∀ V', R (zHs ρ ask x mo bu t u ν).2 V' → Q (.inl (some (zi (zOc (zHs ρ ask x mo bu t u ν).1)))) (s, V')) → zwp (zcall e) 306 Q (zB 306 3) [.ref o, .ref a, zi x, zi mo, zi bu, zi dep, zi u, zi (ρ.c - t), w8] [] (s, V) := by
    intro t
    induction t with
    | zero =>
      intro u ν V w8 ht u0 u1 hν hQ
      obtain ⟨hP, hC⟩ := hS ν V hν
      have t7 := hP.1
      have vc := hC.2.1
      have := hQ V hν
      have e1 : (zHs ρ ask x mo bu 0 u ν).1 = (u, true) := rfl
      rw [e1] at this
      simp (disch := first | assumption | exact zk_306 | ((repeat (first | exact z1n | refine z1I ?_ | refine z1R ?_)); done) | exact rfl | omega | decide) only [zb_306_3, zb_306_7, r_aload_1, r_iload_2, r_inv_2_0, r_inv_2_1, r_inv_2_2, r_inv_2_3, r_inv_2_4, r_K0, r_K1, r_if_ne, r_aload_0, r_iconst, r_iload_3, r_iload_4, r_disp_1_0_0, r_disp_1_0_1, r_disp_1_0_2, r_disp_1_5_0, r_disp_1_5_1, r_disp_1_5_2, r_inv_1_0, r_inv_1_1, r_inv_1_2, r_inv_1_3, r_inv_1_4, r_iret, r_bret_0, r_bret_1, r_istore_6i, r_istore_6r, r_istore_6j, r_iload_6, r_icmp_le, r_iadd, r_istore_7i, r_istore_7r, r_istore_7j, r_goto_w, r_iload_7, r_gf_449, r_icmp_ge, r_inv_3_0, r_inv_3_1, r_inv_3_2, r_inv_3_3, r_inv_3_4, r_goto, r_iload_5, r_inv_7_0, r_inv_7_1, r_inv_7_2, r_inv_7_3, r_inv_7_4, r_istore_8i, r_istore_8r, r_istore_8j, r_iload_8, r_if_eq, r_disp_2_0_0, r_disp_2_0_1, r_disp_2_0_2, r_disp_2_5_0, r_disp_2_5_1, r_disp_2_5_2, r_iinc_7i, r_iinc_7r, r_iinc_7j, vc, c_good, ↓reduceIte, not_true_eq_false, not_false_eq_true, Int.reduceEq, Int.reduceLE, Int.reduceLT, Int.reduceAdd, Int.reduceNeg, Int.reduceMul, Int.reduceSub, Int.reduceToNat]
      rw [if_pos (by omega)]
      exact this
    | succ t ih =>
      intro u ν V w8 ht u0 u1 hν hQ
      obtain ⟨hP, hC⟩ := hS ν V hν
      have t7 := hP.1
      have vc := hC.2.1
      unfold zHs at hQ
      generalize hcl : ρ.c - ((t + 1 : Nat) : Int) = cl at *
      have cl0 : 0 ≤ cl ∧ cl < ρ.c := by omega
      have nxt : cl + 1 = ρ.c - (t : Int) := by omega
      have ecl : (ρ.c - cl).toNat = t + 1 := by omega
      have hgt := zGr_t hW hT (hd := cl) (mo := mo) (bu := bu) (t + 1) u ν ht (by omega) u1
      conv => rw [zb_306_3]
      simp (disch := first | assumption | exact zk_306 | ((repeat (first | exact z1n | refine z1I ?_ | refine z1R ?_)); done) | exact rfl | omega | decide) only [r_aload_1, r_iload_2, r_inv_2_0, r_inv_2_1, r_inv_2_2, r_inv_2_3, r_inv_2_4, r_K0, r_K1, r_if_ne, r_aload_0, r_iconst, r_iload_3, r_iload_4, r_disp_1_0_0, r_disp_1_0_1, r_disp_1_0_2, r_disp_1_5_0, r_disp_1_5_1, r_disp_1_5_2, r_inv_1_0, r_inv_1_1, r_inv_1_2, r_inv_1_3, r_inv_1_4, r_iret, r_bret_0, r_bret_1, r_istore_6i, r_istore_6r, r_istore_6j, r_iload_6, r_icmp_le, r_iadd, r_istore_7i, r_istore_7r, r_istore_7j, r_goto_w, r_iload_7, r_gf_449, r_icmp_ge, r_inv_3_0, r_inv_3_1, r_inv_3_2, r_inv_3_3, r_inv_3_4, r_goto, r_iload_5, r_inv_7_0, r_inv_7_1, r_inv_7_2, r_inv_7_3, r_inv_7_4, r_istore_8i, r_istore_8r, r_istore_8j, r_iload_8, r_if_eq, r_disp_2_0_0, r_disp_2_0_1, r_disp_2_0_2, r_disp_2_5_0, r_disp_2_5_1, r_disp_2_5_2, r_iinc_7i, r_iinc_7r, r_iinc_7j, vc, c_isHeadOf (hC := hC), ↓reduceIte, not_true_eq_false, not_false_eq_true, Int.reduceEq, Int.reduceLE, Int.reduceLT, Int.reduceAdd, Int.reduceNeg, Int.reduceMul, Int.reduceSub, Int.reduceToNat]
      rw [if_neg (by omega)]
      by_cases q : ρ.K 0 cl = x ∧ ρ.K 4 cl ≠ 2
      · rw [if_pos q] at hQ
        rw [if_pos q]
        simp (disch := first | assumption | exact zk_306 | ((repeat (first | exact z1n | refine z1I ?_ | refine z1R ?_)); done) | exact rfl | omega | decide) only [zb_306_4, r_aload_1, r_iload_2, r_inv_2_0, r_inv_2_1, r_inv_2_2, r_inv_2_3, r_inv_2_4, r_K0, r_K1, r_if_ne, r_aload_0, r_iconst, r_iload_3, r_iload_4, r_disp_1_0_0, r_disp_1_0_1, r_disp_1_0_2, r_disp_1_5_0, r_disp_1_5_1, r_disp_1_5_2, r_inv_1_0, r_inv_1_1, r_inv_1_2, r_inv_1_3, r_inv_1_4, r_iret, r_bret_0, r_bret_1, r_istore_6i, r_istore_6r, r_istore_6j, r_iload_6, r_icmp_le, r_iadd, r_istore_7i, r_istore_7r, r_istore_7j, r_goto_w, r_iload_7, r_gf_449, r_icmp_ge, r_inv_3_0, r_inv_3_1, r_inv_3_2, r_inv_3_3, r_inv_3_4, r_goto, r_iload_5, r_inv_7_0, r_inv_7_1, r_inv_7_2, r_inv_7_3, r_inv_7_4, r_istore_8i, r_istore_8r, r_istore_8j, r_iload_8, r_if_eq, r_disp_2_0_0, r_disp_2_0_1, r_disp_2_0_2, r_disp_2_5_0, r_disp_2_5_1, r_disp_2_5_2, r_iinc_7i, r_iinc_7r, r_iinc_7j, ↓reduceIte, not_true_eq_false, not_false_eq_true, Int.reduceEq, Int.reduceLE, Int.reduceLT, Int.reduceAdd, Int.reduceNeg, Int.reduceMul, Int.reduceSub, Int.reduceToNat]
        refine c_group hR hW (by omega) (by omega) hν cl0.1 cl0.2 q.1 m0 m1 b1 (by omega) u1 (by omega) ?_
        rw [ecl]
        generalize hres : zGr ρ ask cl mo bu (t + 1) u ν = res at *
        intro V' hν'
        obtain ⟨hP', hC'⟩ := hS res.2 V' hν'
        have t7' := hP'.1
        have r0 : 0 ≤ res.1.1 := by omega
        have r1 : res.1.1 ≤ 1000000 := by omega
        by_cases g : res.1.2 = true
        · rw [if_pos g] at hQ
          have := ih res.1.1 res.2 V' (zi (zOc res.1)) (by omega) (by omega) hgt.2 hν' hQ
          rw [← nxt] at this
          simp (disch := first | assumption | exact zk_306 | ((repeat (first | exact z1n | refine z1I ?_ | refine z1R ?_)); done) | exact rfl | omega | decide) only [zb_306_5, zb_306_6, r_aload_1, r_iload_2, r_inv_2_0, r_inv_2_1, r_inv_2_2, r_inv_2_3, r_inv_2_4, r_K0, r_K1, r_if_ne, r_aload_0, r_iconst, r_iload_3, r_iload_4, r_disp_1_0_0, r_disp_1_0_1, r_disp_1_0_2, r_disp_1_5_0, r_disp_1_5_1, r_disp_1_5_2, r_inv_1_0, r_inv_1_1, r_inv_1_2, r_inv_1_3, r_inv_1_4, r_iret, r_bret_0, r_bret_1, r_istore_6i, r_istore_6r, r_istore_6j, r_iload_6, r_icmp_le, r_iadd, r_istore_7i, r_istore_7r, r_istore_7j, r_goto_w, r_iload_7, r_gf_449, r_icmp_ge, r_inv_3_0, r_inv_3_1, r_inv_3_2, r_inv_3_3, r_inv_3_4, r_goto, r_iload_5, r_inv_7_0, r_inv_7_1, r_inv_7_2, r_inv_7_3, r_inv_7_4, r_istore_8i, r_istore_8r, r_istore_8j, r_iload_8, r_if_eq, r_disp_2_0_0, r_disp_2_0_1, r_disp_2_0_2, r_disp_2_5_0, r_disp_2_5_1, r_disp_2_5_2, r_iinc_7i, r_iinc_7r, r_iinc_7j, c_timeOf, c_isGood, g, ↓reduceIte, not_true_eq_false, not_false_eq_true, Int.reduceEq, Int.reduceLE, Int.reduceLT, Int.reduceAdd, Int.reduceNeg, Int.reduceMul, Int.reduceSub, Int.reduceToNat]
          exact this
        · rw [if_neg g] at hQ
          have gf : res.1.2 = false := by simpa using g
          by_cases q4 : ρ.K 4 cl = 0
          · rw [if_pos q4] at hQ
            have hC := hC'
            simp (disch := first | assumption | exact zk_306 | ((repeat (first | exact z1n | refine z1I ?_ | refine z1R ?_)); done) | exact rfl | omega | decide) only [r_aload_1, r_iload_2, r_inv_2_0, r_inv_2_1, r_inv_2_2, r_inv_2_3, r_inv_2_4, r_K0, r_K1, r_if_ne, r_aload_0, r_iconst, r_iload_3, r_iload_4, r_disp_1_0_0, r_disp_1_0_1, r_disp_1_0_2, r_disp_1_5_0, r_disp_1_5_1, r_disp_1_5_2, r_inv_1_0, r_inv_1_1, r_inv_1_2, r_inv_1_3, r_inv_1_4, r_iret, r_bret_0, r_bret_1, r_istore_6i, r_istore_6r, r_istore_6j, r_iload_6, r_icmp_le, r_iadd, r_istore_7i, r_istore_7r, r_istore_7j, r_goto_w, r_iload_7, r_gf_449, r_icmp_ge, r_inv_3_0, r_inv_3_1, r_inv_3_2, r_inv_3_3, r_inv_3_4, r_goto, r_iload_5, r_inv_7_0, r_inv_7_1, r_inv_7_2, r_inv_7_3, r_inv_7_4, r_istore_8i, r_istore_8r, r_istore_8j, r_iload_8, r_if_eq, r_disp_2_0_0, r_disp_2_0_1, r_disp_2_0_2, r_disp_2_5_0, r_disp_2_5_1, r_disp_2_5_2, r_iinc_7i, r_iinc_7r, r_iinc_7j, c_timeOf, c_isGood, gf, Bool.false_eq_true, c_isNeeded (hC := hC), q4, ↓reduceIte, not_true_eq_false, not_false_eq_true, Int.reduceEq, Int.reduceLE, Int.reduceLT, Int.reduceAdd, Int.reduceNeg, Int.reduceMul, Int.reduceSub, Int.reduceToNat]
            refine hF e x 4 (mo + res.1.1) bu res.2 V' _ (by omega) hν' x0 x1 (by omega) (by omega) (fun V2 hν2 => ?_)
            have := hQ V2 hν2
            simp (disch := first | assumption | exact zk_306 | ((repeat (first | exact z1n | refine z1I ?_ | refine z1R ?_)); done) | exact rfl | omega | decide) only [r_aload_1, r_iload_2, r_inv_2_0, r_inv_2_1, r_inv_2_2, r_inv_2_3, r_inv_2_4, r_K0, r_K1, r_if_ne, r_aload_0, r_iconst, r_iload_3, r_iload_4, r_disp_1_0_0, r_disp_1_0_1, r_disp_1_0_2, r_disp_1_5_0, r_disp_1_5_1, r_disp_1_5_2, r_inv_1_0, r_inv_1_1, r_inv_1_2, r_inv_1_3, r_inv_1_4, r_iret, r_bret_0, r_bret_1, r_istore_6i, r_istore_6r, r_istore_6j, r_iload_6, r_icmp_le, r_iadd, r_istore_7i, r_istore_7r, r_istore_7j, r_goto_w, r_iload_7, r_gf_449, r_icmp_ge, r_inv_3_0, r_inv_3_1, r_inv_3_2, r_inv_3_3, r_inv_3_4, r_goto, r_iload_5, r_inv_7_0, r_inv_7_1, r_inv_7_2, r_inv_7_3, r_inv_7_4, r_istore_8i, r_istore_8r, r_istore_8j, r_iload_8, r_if_eq, r_disp_2_0_0, r_disp_2_0_1, r_disp_2_0_2, r_disp_2_5_0, r_disp_2_5_1, r_disp_2_5_2, r_iinc_7i, r_iinc_7r, r_iinc_7j, c_bad, ↓reduceIte, not_true_eq_false, not_false_eq_true, Int.reduceEq, Int.reduceLE, Int.reduceLT, Int.reduceAdd, Int.reduceNeg, Int.reduceMul, Int.reduceSub, Int.reduceToNat]
            exact this
          · rw [if_neg q4] at hQ
            have hC := hC'
            simp (disch := first | assumption | exact zk_306 | ((repeat (first | exact z1n | refine z1I ?_ | refine z1R ?_)); done) | exact rfl | omega | decide) only [zb_306_5, r_aload_1, r_iload_2, r_inv_2_0, r_inv_2_1, r_inv_2_2, r_inv_2_3, r_inv_2_4, r_K0, r_K1, r_if_ne, r_aload_0, r_iconst, r_iload_3, r_iload_4, r_disp_1_0_0, r_disp_1_0_1, r_disp_1_0_2, r_disp_1_5_0, r_disp_1_5_1, r_disp_1_5_2, r_inv_1_0, r_inv_1_1, r_inv_1_2, r_inv_1_3, r_inv_1_4, r_iret, r_bret_0, r_bret_1, r_istore_6i, r_istore_6r, r_istore_6j, r_iload_6, r_icmp_le, r_iadd, r_istore_7i, r_istore_7r, r_istore_7j, r_goto_w, r_iload_7, r_gf_449, r_icmp_ge, r_inv_3_0, r_inv_3_1, r_inv_3_2, r_inv_3_3, r_inv_3_4, r_goto, r_iload_5, r_inv_7_0, r_inv_7_1, r_inv_7_2, r_inv_7_3, r_inv_7_4, r_istore_8i, r_istore_8r, r_istore_8j, r_iload_8, r_if_eq, r_disp_2_0_0, r_disp_2_0_1, r_disp_2_0_2, r_disp_2_5_0, r_disp_2_5_1, r_disp_2_5_2, r_iinc_7i, r_iinc_7r, r_iinc_7j, c_timeOf, c_isGood, gf, Bool.false_eq_true, c_isNeeded (hC := hC), q4, ↓reduceIte, not_true_eq_false, not_false_eq_true, Int.reduceEq, Int.reduceLE, Int.reduceLT, Int.reduceAdd, Int.reduceNeg, Int.reduceMul, Int.reduceSub, Int.reduceToNat]
            refine hM e res.2 V' _ (by omega) hν' (fun V2 hν2 => ?_)
            have := ih res.1.1 (zNm res.2) V2 (zi (zOc res.1)) (by omega) (by omega) hgt.2 hν2 hQ
            rw [← nxt] at this
            simp (disch := first | assumption | exact zk_306 | ((repeat (first | exact z1n | refine z1I ?_ | refine z1R ?_)); done) | exact rfl | omega | decide) only [zb_306_6, r_aload_1, r_iload_2, r_inv_2_0, r_inv_2_1, r_inv_2_2, r_inv_2_3, r_inv_2_4, r_K0, r_K1, r_if_ne, r_aload_0, r_iconst, r_iload_3, r_iload_4, r_disp_1_0_0, r_disp_1_0_1, r_disp_1_0_2, r_disp_1_5_0, r_disp_1_5_1, r_disp_1_5_2, r_inv_1_0, r_inv_1_1, r_inv_1_2, r_inv_1_3, r_inv_1_4, r_iret, r_bret_0, r_bret_1, r_istore_6i, r_istore_6r, r_istore_6j, r_iload_6, r_icmp_le, r_iadd, r_istore_7i, r_istore_7r, r_istore_7j, r_goto_w, r_iload_7, r_gf_449, r_icmp_ge, r_inv_3_0, r_inv_3_1, r_inv_3_2, r_inv_3_3, r_inv_3_4, r_goto, r_iload_5, r_inv_7_0, r_inv_7_1, r_inv_7_2, r_inv_7_3, r_inv_7_4, r_istore_8i, r_istore_8r, r_istore_8j, r_iload_8, r_if_eq, r_disp_2_0_0, r_disp_2_0_1, r_disp_2_0_2, r_disp_2_5_0, r_disp_2_5_1, r_disp_2_5_2, r_iinc_7i, r_iinc_7r, r_iinc_7j, ↓reduceIte, not_true_eq_false, not_false_eq_true, Int.reduceEq, Int.reduceLE, Int.reduceLT, Int.reduceAdd, Int.reduceNeg, Int.reduceMul, Int.reduceSub, Int.reduceToNat]
            exact this
      · rw [if_neg q] at hQ
        rw [if_neg q]
        have := ih u ν V w8 (by omega) u0 u1 hν hQ
        rw [← nxt] at this
        simp (disch := first | assumption | exact zk_306 | ((repeat (first | exact z1n | refine z1I ?_ | refine z1R ?_)); done) | exact rfl | omega | decide) only [zb_306_6, r_aload_1, r_iload_2, r_inv_2_0, r_inv_2_1, r_inv_2_2, r_inv_2_3, r_inv_2_4, r_K0, r_K1, r_if_ne, r_aload_0, r_iconst, r_iload_3, r_iload_4, r_disp_1_0_0, r_disp_1_0_1, r_disp_1_0_2, r_disp_1_5_0, r_disp_1_5_1, r_disp_1_5_2, r_inv_1_0, r_inv_1_1, r_inv_1_2, r_inv_1_3, r_inv_1_4, r_iret, r_bret_0, r_bret_1, r_istore_6i, r_istore_6r, r_istore_6j, r_iload_6, r_icmp_le, r_iadd, r_istore_7i, r_istore_7r, r_istore_7j, r_goto_w, r_iload_7, r_gf_449, r_icmp_ge, r_inv_3_0, r_inv_3_1, r_inv_3_2, r_inv_3_3, r_inv_3_4, r_goto, r_iload_5, r_inv_7_0, r_inv_7_1, r_inv_7_2, r_inv_7_3, r_inv_7_4, r_istore_8i, r_istore_8r, r_istore_8j, r_iload_8, r_if_eq, r_disp_2_0_0, r_disp_2_0_1, r_disp_2_0_2, r_disp_2_5_0, r_disp_2_5_1, r_disp_2_5_2, r_iinc_7i, r_iinc_7r, r_iinc_7j, ↓reduceIte, not_true_eq_false, not_false_eq_true, Int.reduceEq, Int.reduceLE, Int.reduceLT, Int.reduceAdd, Int.reduceNeg, Int.reduceMul, Int.reduceSub, Int.reduceToNat]
        exact this
  obtain ⟨hP, hC⟩ := hS ν V hν
  have t7 := hP.1
  unfold zSvB at hQ
  by_cases q : ρ.S 6 x = 1
  · rw [if_neg (fun c => c q)] at hQ
    by_cases q2 : bu < zOwn ρ x
    · rw [if_pos q2] at hQ
      simp (disch := first | assumption | exact zk_306 | ((repeat (first | exact z1n | refine z1I ?_ | refine z1R ?_)); done) | exact rfl | omega | decide) only [zb_306_0, zb_306_1, r_aload_1, r_iload_2, r_inv_2_0, r_inv_2_1, r_inv_2_2, r_inv_2_3, r_inv_2_4, r_K0, r_K1, r_if_ne, r_aload_0, r_iconst, r_iload_3, r_iload_4, r_disp_1_0_0, r_disp_1_0_1, r_disp_1_0_2, r_disp_1_5_0, r_disp_1_5_1, r_disp_1_5_2, r_inv_1_0, r_inv_1_1, r_inv_1_2, r_inv_1_3, r_inv_1_4, r_iret, r_bret_0, r_bret_1, r_istore_6i, r_istore_6r, r_istore_6j, r_iload_6, r_icmp_le, r_iadd, r_istore_7i, r_istore_7r, r_istore_7j, r_goto_w, r_iload_7, r_gf_449, r_icmp_ge, r_inv_3_0, r_inv_3_1, r_inv_3_2, r_inv_3_3, r_inv_3_4, r_goto, r_iload_5, r_inv_7_0, r_inv_7_1, r_inv_7_2, r_inv_7_3, r_inv_7_4, r_istore_8i, r_istore_8r, r_istore_8j, r_iload_8, r_if_eq, r_disp_2_0_0, r_disp_2_0_1, r_disp_2_0_2, r_disp_2_5_0, r_disp_2_5_1, r_disp_2_5_2, r_iinc_7i, r_iinc_7r, r_iinc_7j, c_isUp (hC := hC), q, c_own (hC := hC), hown, ↓reduceIte, not_true_eq_false, not_false_eq_true, Int.reduceEq, Int.reduceLE, Int.reduceLT, Int.reduceAdd, Int.reduceNeg, Int.reduceMul, Int.reduceSub, Int.reduceToNat]
      rw [if_neg (by omega)]
      refine hF e x 2 (mo + bu) bu ν V _ (by omega) hν x0 x1 (by omega) (by omega) (fun V2 hν2 => ?_)
      have := hQ V2 hν2
      simp (disch := first | assumption | exact zk_306 | ((repeat (first | exact z1n | refine z1I ?_ | refine z1R ?_)); done) | exact rfl | omega | decide) only [r_aload_1, r_iload_2, r_inv_2_0, r_inv_2_1, r_inv_2_2, r_inv_2_3, r_inv_2_4, r_K0, r_K1, r_if_ne, r_aload_0, r_iconst, r_iload_3, r_iload_4, r_disp_1_0_0, r_disp_1_0_1, r_disp_1_0_2, r_disp_1_5_0, r_disp_1_5_1, r_disp_1_5_2, r_inv_1_0, r_inv_1_1, r_inv_1_2, r_inv_1_3, r_inv_1_4, r_iret, r_bret_0, r_bret_1, r_istore_6i, r_istore_6r, r_istore_6j, r_iload_6, r_icmp_le, r_iadd, r_istore_7i, r_istore_7r, r_istore_7j, r_goto_w, r_iload_7, r_gf_449, r_icmp_ge, r_inv_3_0, r_inv_3_1, r_inv_3_2, r_inv_3_3, r_inv_3_4, r_goto, r_iload_5, r_inv_7_0, r_inv_7_1, r_inv_7_2, r_inv_7_3, r_inv_7_4, r_istore_8i, r_istore_8r, r_istore_8j, r_iload_8, r_if_eq, r_disp_2_0_0, r_disp_2_0_1, r_disp_2_0_2, r_disp_2_5_0, r_disp_2_5_1, r_disp_2_5_2, r_iinc_7i, r_iinc_7r, r_iinc_7j, c_bad, ↓reduceIte, not_true_eq_false, not_false_eq_true, Int.reduceEq, Int.reduceLE, Int.reduceLT, Int.reduceAdd, Int.reduceNeg, Int.reduceMul, Int.reduceSub, Int.reduceToNat]
      exact this
    · rw [if_neg q2] at hQ
      have := loop ρ.c.toNat (zOwn ρ x) ν V zJ (by omega) (by omega) (by omega) hν hQ
      rw [show ρ.c - ((ρ.c.toNat : Nat) : Int) = 0 by omega] at this
      simp (disch := first | assumption | exact zk_306 | ((repeat (first | exact z1n | refine z1I ?_ | refine z1R ?_)); done) | exact rfl | omega | decide) only [zb_306_0, zb_306_1, zb_306_2, r_aload_1, r_iload_2, r_inv_2_0, r_inv_2_1, r_inv_2_2, r_inv_2_3, r_inv_2_4, r_K0, r_K1, r_if_ne, r_aload_0, r_iconst, r_iload_3, r_iload_4, r_disp_1_0_0, r_disp_1_0_1, r_disp_1_0_2, r_disp_1_5_0, r_disp_1_5_1, r_disp_1_5_2, r_inv_1_0, r_inv_1_1, r_inv_1_2, r_inv_1_3, r_inv_1_4, r_iret, r_bret_0, r_bret_1, r_istore_6i, r_istore_6r, r_istore_6j, r_iload_6, r_icmp_le, r_iadd, r_istore_7i, r_istore_7r, r_istore_7j, r_goto_w, r_iload_7, r_gf_449, r_icmp_ge, r_inv_3_0, r_inv_3_1, r_inv_3_2, r_inv_3_3, r_inv_3_4, r_goto, r_iload_5, r_inv_7_0, r_inv_7_1, r_inv_7_2, r_inv_7_3, r_inv_7_4, r_istore_8i, r_istore_8r, r_istore_8j, r_iload_8, r_if_eq, r_disp_2_0_0, r_disp_2_0_1, r_disp_2_0_2, r_disp_2_5_0, r_disp_2_5_1, r_disp_2_5_2, r_iinc_7i, r_iinc_7r, r_iinc_7j, c_isUp (hC := hC), q, c_own (hC := hC), hown, ↓reduceIte, not_true_eq_false, not_false_eq_true, Int.reduceEq, Int.reduceLE, Int.reduceLT, Int.reduceAdd, Int.reduceNeg, Int.reduceMul, Int.reduceSub, Int.reduceToNat]
      rw [if_pos (by omega)]
      exact this
  · rw [if_pos q] at hQ
    simp (disch := first | assumption | exact zk_306 | ((repeat (first | exact z1n | refine z1I ?_ | refine z1R ?_)); done) | exact rfl | omega | decide) only [zb_306_0, r_aload_1, r_iload_2, r_inv_2_0, r_inv_2_1, r_inv_2_2, r_inv_2_3, r_inv_2_4, r_K0, r_K1, r_if_ne, r_aload_0, r_iconst, r_iload_3, r_iload_4, r_disp_1_0_0, r_disp_1_0_1, r_disp_1_0_2, r_disp_1_5_0, r_disp_1_5_1, r_disp_1_5_2, r_inv_1_0, r_inv_1_1, r_inv_1_2, r_inv_1_3, r_inv_1_4, r_iret, r_bret_0, r_bret_1, r_istore_6i, r_istore_6r, r_istore_6j, r_iload_6, r_icmp_le, r_iadd, r_istore_7i, r_istore_7r, r_istore_7j, r_goto_w, r_iload_7, r_gf_449, r_icmp_ge, r_inv_3_0, r_inv_3_1, r_inv_3_2, r_inv_3_3, r_inv_3_4, r_goto, r_iload_5, r_inv_7_0, r_inv_7_1, r_inv_7_2, r_inv_7_3, r_inv_7_4, r_istore_8i, r_istore_8r, r_istore_8j, r_iload_8, r_if_eq, r_disp_2_0_0, r_disp_2_0_1, r_disp_2_0_2, r_disp_2_5_0, r_disp_2_5_1, r_disp_2_5_2, r_iinc_7i, r_iinc_7r, r_iinc_7j, c_isUp (hC := hC), q, ↓reduceIte, not_true_eq_false, not_false_eq_true, Int.reduceEq, Int.reduceLE, Int.reduceLT, Int.reduceAdd, Int.reduceNeg, Int.reduceMul, Int.reduceSub, Int.reduceToNat]
    refine hF e x 1 mo bu ν V _ (by omega) hν x0 x1 (by omega) (by omega) (fun V2 hν2 => ?_)
    have := hQ V2 hν2
    simp (disch := first | assumption | exact zk_306 | ((repeat (first | exact z1n | refine z1I ?_ | refine z1R ?_)); done) | exact rfl | omega | decide) only [r_aload_1, r_iload_2, r_inv_2_0, r_inv_2_1, r_inv_2_2, r_inv_2_3, r_inv_2_4, r_K0, r_K1, r_if_ne, r_aload_0, r_iconst, r_iload_3, r_iload_4, r_disp_1_0_0, r_disp_1_0_1, r_disp_1_0_2, r_disp_1_5_0, r_disp_1_5_1, r_disp_1_5_2, r_inv_1_0, r_inv_1_1, r_inv_1_2, r_inv_1_3, r_inv_1_4, r_iret, r_bret_0, r_bret_1, r_istore_6i, r_istore_6r, r_istore_6j, r_iload_6, r_icmp_le, r_iadd, r_istore_7i, r_istore_7r, r_istore_7j, r_goto_w, r_iload_7, r_gf_449, r_icmp_ge, r_inv_3_0, r_inv_3_1, r_inv_3_2, r_inv_3_3, r_inv_3_4, r_goto, r_iload_5, r_inv_7_0, r_inv_7_1, r_inv_7_2, r_inv_7_3, r_inv_7_4, r_istore_8i, r_istore_8r, r_istore_8j, r_iload_8, r_if_eq, r_disp_2_0_0, r_disp_2_0_1, r_disp_2_0_2, r_disp_2_5_0, r_disp_2_5_1, r_disp_2_5_2, r_iinc_7i, r_iinc_7r, r_iinc_7j, c_bad, ↓reduceIte, not_true_eq_false, not_false_eq_true, Int.reduceEq, Int.reduceLE, Int.reduceLT, Int.reduceAdd, Int.reduceNeg, Int.reduceMul, Int.reduceSub, Int.reduceToNat]
    exact this
set_option maxRecDepth 20000 in
theorem c_serve0 (hR : zRcv s a o nA nF nM ρ R ask d x dep bm) (ho : s.tg o = 0) (hW : zWF ρ) (hd : d + 3 ≤ e) (h1 : 2 ≤ d) (hν : R ν V) {mo bu : Int} (x0 : 0 ≤ x) (x1 : x < ρ.n) (m0 : 0 ≤ mo) (m1 : mo + bu ≤ 100000) (b0 : 0 ≤ bu) (b1 : bu ≤ 1000) (hbm : bu - 1 ≤ bm) (hQ : ∀ V', R (zSvB ρ ask x mo bu ν).2 V' → Q (.inl (some (zi (zOc (zSvB ρ ask x mo bu ν).1)))) (s, V')) : zcall e 305 [.ref o, .ref a, zi x, zi mo, zi bu, zi dep] (s, V) Q := by
  have hR' := hR
  obtain ⟨tA, tF, tM, hT, hS, hA, hF, hM⟩ := hR'
  obtain ⟨n0, n1, cc0, cc1⟩ := hW.1
  obtain ⟨e, rfl⟩ : ∃ q, e = q + 1 := ⟨e - 1, by omega⟩
  rw [zc_305 ho]
  obtain rfl : nF = 4 := by omega
  obtain rfl : nM = 5 := by omega
  have hor := zOwn_rng hW x0 x1
  have hown : zdiv (ρ.S 0 x * ρ.S 1 x + 99) 100 = zOwn ρ x := rfl
  have loop : ∀ (t : Nat) (u : Int) (ν : zN) (V : zV) (w8 : Value), (t : Int) ≤ ρ.c → 1 ≤ u → u ≤ bu → R ν V → (∀ V', R (zHs ρ ask x mo bu t u ν).2 V' → Q (.inl (some (zi (zOc (zHs ρ ask x mo bu t u ν).1)))) (s, V')) → zwp (zcall e) 305 Q (zB 305 3) [.ref o, .ref a, zi x, zi mo, zi bu, zi dep, zi u, zi (ρ.c - t), w8] [] (s, V) := by
    intro t
    induction t with
    | zero =>
      intro u ν V w8 ht u0 u1 hν hQ
      obtain ⟨hP, hC⟩ := hS ν V hν
      have t7 := hP.1
      have vc := hC.2.1
      have := hQ V hν
      have e1 : (zHs ρ ask x mo bu 0 u ν).1 = (u, true) := rfl
      rw [e1] at this
      simp (disch := first | assumption | exact zk_305 | ((repeat (first | exact z1n | refine z1I ?_ | refine z1R ?_)); done) | exact rfl | omega | decide) only [zb_305_3, zb_305_7, r_aload_1, r_iload_2, r_inv_2_0, r_inv_2_1, r_inv_2_2, r_inv_2_3, r_inv_2_4, r_K0, r_K1, r_if_ne, r_aload_0, r_iconst, r_iload_3, r_iload_4, r_disp_1_0_0, r_disp_1_0_1, r_disp_1_0_2, r_disp_1_5_0, r_disp_1_5_1, r_disp_1_5_2, r_inv_1_0, r_inv_1_1, r_inv_1_2, r_inv_1_3, r_inv_1_4, r_iret, r_bret_0, r_bret_1, r_istore_6i, r_istore_6r, r_istore_6j, r_iload_6, r_icmp_le, r_iadd, r_istore_7i, r_istore_7r, r_istore_7j, r_goto_w, r_iload_7, r_gf_449, r_icmp_ge, r_inv_3_0, r_inv_3_1, r_inv_3_2, r_inv_3_3, r_inv_3_4, r_goto, r_iload_5, r_inv_7_0, r_inv_7_1, r_inv_7_2, r_inv_7_3, r_inv_7_4, r_istore_8i, r_istore_8r, r_istore_8j, r_iload_8, r_if_eq, r_disp_2_0_0, r_disp_2_0_1, r_disp_2_0_2, r_disp_2_5_0, r_disp_2_5_1, r_disp_2_5_2, r_iinc_7i, r_iinc_7r, r_iinc_7j, vc, c_good, ↓reduceIte, not_true_eq_false, not_false_eq_true, Int.reduceEq, Int.reduceLE, Int.reduceLT, Int.reduceAdd, Int.reduceNeg, Int.reduceMul, Int.reduceSub, Int.reduceToNat]
      rw [if_pos (by omega)]
      exact this
    | succ t ih =>
      intro u ν V w8 ht u0 u1 hν hQ
      obtain ⟨hP, hC⟩ := hS ν V hν
      have t7 := hP.1
      have vc := hC.2.1
      unfold zHs at hQ
      generalize hcl : ρ.c - ((t + 1 : Nat) : Int) = cl at *
      have cl0 : 0 ≤ cl ∧ cl < ρ.c := by omega
      have nxt : cl + 1 = ρ.c - (t : Int) := by omega
      have ecl : (ρ.c - cl).toNat = t + 1 := by omega
      have hgt := zGr_t hW hT (hd := cl) (mo := mo) (bu := bu) (t + 1) u ν ht (by omega) u1
      conv => rw [zb_305_3]
      simp (disch := first | assumption | exact zk_305 | ((repeat (first | exact z1n | refine z1I ?_ | refine z1R ?_)); done) | exact rfl | omega | decide) only [r_aload_1, r_iload_2, r_inv_2_0, r_inv_2_1, r_inv_2_2, r_inv_2_3, r_inv_2_4, r_K0, r_K1, r_if_ne, r_aload_0, r_iconst, r_iload_3, r_iload_4, r_disp_1_0_0, r_disp_1_0_1, r_disp_1_0_2, r_disp_1_5_0, r_disp_1_5_1, r_disp_1_5_2, r_inv_1_0, r_inv_1_1, r_inv_1_2, r_inv_1_3, r_inv_1_4, r_iret, r_bret_0, r_bret_1, r_istore_6i, r_istore_6r, r_istore_6j, r_iload_6, r_icmp_le, r_iadd, r_istore_7i, r_istore_7r, r_istore_7j, r_goto_w, r_iload_7, r_gf_449, r_icmp_ge, r_inv_3_0, r_inv_3_1, r_inv_3_2, r_inv_3_3, r_inv_3_4, r_goto, r_iload_5, r_inv_7_0, r_inv_7_1, r_inv_7_2, r_inv_7_3, r_inv_7_4, r_istore_8i, r_istore_8r, r_istore_8j, r_iload_8, r_if_eq, r_disp_2_0_0, r_disp_2_0_1, r_disp_2_0_2, r_disp_2_5_0, r_disp_2_5_1, r_disp_2_5_2, r_iinc_7i, r_iinc_7r, r_iinc_7j, vc, c_isHeadOf (hC := hC), ↓reduceIte, not_true_eq_false, not_false_eq_true, Int.reduceEq, Int.reduceLE, Int.reduceLT, Int.reduceAdd, Int.reduceNeg, Int.reduceMul, Int.reduceSub, Int.reduceToNat]
      rw [if_neg (by omega)]
      by_cases q : ρ.K 0 cl = x ∧ ρ.K 4 cl ≠ 2
      · rw [if_pos q] at hQ
        rw [if_pos q]
        simp (disch := first | assumption | exact zk_305 | ((repeat (first | exact z1n | refine z1I ?_ | refine z1R ?_)); done) | exact rfl | omega | decide) only [zb_305_4, r_aload_1, r_iload_2, r_inv_2_0, r_inv_2_1, r_inv_2_2, r_inv_2_3, r_inv_2_4, r_K0, r_K1, r_if_ne, r_aload_0, r_iconst, r_iload_3, r_iload_4, r_disp_1_0_0, r_disp_1_0_1, r_disp_1_0_2, r_disp_1_5_0, r_disp_1_5_1, r_disp_1_5_2, r_inv_1_0, r_inv_1_1, r_inv_1_2, r_inv_1_3, r_inv_1_4, r_iret, r_bret_0, r_bret_1, r_istore_6i, r_istore_6r, r_istore_6j, r_iload_6, r_icmp_le, r_iadd, r_istore_7i, r_istore_7r, r_istore_7j, r_goto_w, r_iload_7, r_gf_449, r_icmp_ge, r_inv_3_0, r_inv_3_1, r_inv_3_2, r_inv_3_3, r_inv_3_4, r_goto, r_iload_5, r_inv_7_0, r_inv_7_1, r_inv_7_2, r_inv_7_3, r_inv_7_4, r_istore_8i, r_istore_8r, r_istore_8j, r_iload_8, r_if_eq, r_disp_2_0_0, r_disp_2_0_1, r_disp_2_0_2, r_disp_2_5_0, r_disp_2_5_1, r_disp_2_5_2, r_iinc_7i, r_iinc_7r, r_iinc_7j, ↓reduceIte, not_true_eq_false, not_false_eq_true, Int.reduceEq, Int.reduceLE, Int.reduceLT, Int.reduceAdd, Int.reduceNeg, Int.reduceMul, Int.reduceSub, Int.reduceToNat]
        refine c_group hR hW (by omega) (by omega) hν cl0.1 cl0.2 q.1 m0 m1 b1 (by omega) u1 (by omega) ?_
        rw [ecl]
        generalize hres : zGr ρ ask cl mo bu (t + 1) u ν = res at *
        intro V' hν'
        obtain ⟨hP', hC'⟩ := hS res.2 V' hν'
        have t7' := hP'.1
        have r0 : 0 ≤ res.1.1 := by omega
        have r1 : res.1.1 ≤ 1000000 := by omega
        by_cases g : res.1.2 = true
        · rw [if_pos g] at hQ
          have := ih res.1.1 res.2 V' (zi (zOc res.1)) (by omega) (by omega) hgt.2 hν' hQ
          rw [← nxt] at this
          simp (disch := first | assumption | exact zk_305 | ((repeat (first | exact z1n | refine z1I ?_ | refine z1R ?_)); done) | exact rfl | omega | decide) only [zb_305_5, zb_305_6, r_aload_1, r_iload_2, r_inv_2_0, r_inv_2_1, r_inv_2_2, r_inv_2_3, r_inv_2_4, r_K0, r_K1, r_if_ne, r_aload_0, r_iconst, r_iload_3, r_iload_4, r_disp_1_0_0, r_disp_1_0_1, r_disp_1_0_2, r_disp_1_5_0, r_disp_1_5_1, r_disp_1_5_2, r_inv_1_0, r_inv_1_1, r_inv_1_2, r_inv_1_3, r_inv_1_4, r_iret, r_bret_0, r_bret_1, r_istore_6i, r_istore_6r, r_istore_6j, r_iload_6, r_icmp_le, r_iadd, r_istore_7i, r_istore_7r, r_istore_7j, r_goto_w, r_iload_7, r_gf_449, r_icmp_ge, r_inv_3_0, r_inv_3_1, r_inv_3_2, r_inv_3_3, r_inv_3_4, r_goto, r_iload_5, r_inv_7_0, r_inv_7_1, r_inv_7_2, r_inv_7_3, r_inv_7_4, r_istore_8i, r_istore_8r, r_istore_8j, r_iload_8, r_if_eq, r_disp_2_0_0, r_disp_2_0_1, r_disp_2_0_2, r_disp_2_5_0, r_disp_2_5_1, r_disp_2_5_2, r_iinc_7i, r_iinc_7r, r_iinc_7j, c_timeOf, c_isGood, g, ↓reduceIte, not_true_eq_false, not_false_eq_true, Int.reduceEq, Int.reduceLE, Int.reduceLT, Int.reduceAdd, Int.reduceNeg, Int.reduceMul, Int.reduceSub, Int.reduceToNat]
          exact this
        · rw [if_neg g] at hQ
          have gf : res.1.2 = false := by simpa using g
          by_cases q4 : ρ.K 4 cl = 0
          · rw [if_pos q4] at hQ
            have hC := hC'
            simp (disch := first | assumption | exact zk_305 | ((repeat (first | exact z1n | refine z1I ?_ | refine z1R ?_)); done) | exact rfl | omega | decide) only [r_aload_1, r_iload_2, r_inv_2_0, r_inv_2_1, r_inv_2_2, r_inv_2_3, r_inv_2_4, r_K0, r_K1, r_if_ne, r_aload_0, r_iconst, r_iload_3, r_iload_4, r_disp_1_0_0, r_disp_1_0_1, r_disp_1_0_2, r_disp_1_5_0, r_disp_1_5_1, r_disp_1_5_2, r_inv_1_0, r_inv_1_1, r_inv_1_2, r_inv_1_3, r_inv_1_4, r_iret, r_bret_0, r_bret_1, r_istore_6i, r_istore_6r, r_istore_6j, r_iload_6, r_icmp_le, r_iadd, r_istore_7i, r_istore_7r, r_istore_7j, r_goto_w, r_iload_7, r_gf_449, r_icmp_ge, r_inv_3_0, r_inv_3_1, r_inv_3_2, r_inv_3_3, r_inv_3_4, r_goto, r_iload_5, r_inv_7_0, r_inv_7_1, r_inv_7_2, r_inv_7_3, r_inv_7_4, r_istore_8i, r_istore_8r, r_istore_8j, r_iload_8, r_if_eq, r_disp_2_0_0, r_disp_2_0_1, r_disp_2_0_2, r_disp_2_5_0, r_disp_2_5_1, r_disp_2_5_2, r_iinc_7i, r_iinc_7r, r_iinc_7j, c_timeOf, c_isGood, gf, Bool.false_eq_true, c_isNeeded (hC := hC), q4, ↓reduceIte, not_true_eq_false, not_false_eq_true, Int.reduceEq, Int.reduceLE, Int.reduceLT, Int.reduceAdd, Int.reduceNeg, Int.reduceMul, Int.reduceSub, Int.reduceToNat]
            refine hF e x 4 (mo + res.1.1) bu res.2 V' _ (by omega) hν' x0 x1 (by omega) (by omega) (fun V2 hν2 => ?_)
            have := hQ V2 hν2
            simp (disch := first | assumption | exact zk_305 | ((repeat (first | exact z1n | refine z1I ?_ | refine z1R ?_)); done) | exact rfl | omega | decide) only [r_aload_1, r_iload_2, r_inv_2_0, r_inv_2_1, r_inv_2_2, r_inv_2_3, r_inv_2_4, r_K0, r_K1, r_if_ne, r_aload_0, r_iconst, r_iload_3, r_iload_4, r_disp_1_0_0, r_disp_1_0_1, r_disp_1_0_2, r_disp_1_5_0, r_disp_1_5_1, r_disp_1_5_2, r_inv_1_0, r_inv_1_1, r_inv_1_2, r_inv_1_3, r_inv_1_4, r_iret, r_bret_0, r_bret_1, r_istore_6i, r_istore_6r, r_istore_6j, r_iload_6, r_icmp_le, r_iadd, r_istore_7i, r_istore_7r, r_istore_7j, r_goto_w, r_iload_7, r_gf_449, r_icmp_ge, r_inv_3_0, r_inv_3_1, r_inv_3_2, r_inv_3_3, r_inv_3_4, r_goto, r_iload_5, r_inv_7_0, r_inv_7_1, r_inv_7_2, r_inv_7_3, r_inv_7_4, r_istore_8i, r_istore_8r, r_istore_8j, r_iload_8, r_if_eq, r_disp_2_0_0, r_disp_2_0_1, r_disp_2_0_2, r_disp_2_5_0, r_disp_2_5_1, r_disp_2_5_2, r_iinc_7i, r_iinc_7r, r_iinc_7j, c_bad, ↓reduceIte, not_true_eq_false, not_false_eq_true, Int.reduceEq, Int.reduceLE, Int.reduceLT, Int.reduceAdd, Int.reduceNeg, Int.reduceMul, Int.reduceSub, Int.reduceToNat]
            exact this
          · rw [if_neg q4] at hQ
            have hC := hC'
            simp (disch := first | assumption | exact zk_305 | ((repeat (first | exact z1n | refine z1I ?_ | refine z1R ?_)); done) | exact rfl | omega | decide) only [zb_305_5, r_aload_1, r_iload_2, r_inv_2_0, r_inv_2_1, r_inv_2_2, r_inv_2_3, r_inv_2_4, r_K0, r_K1, r_if_ne, r_aload_0, r_iconst, r_iload_3, r_iload_4, r_disp_1_0_0, r_disp_1_0_1, r_disp_1_0_2, r_disp_1_5_0, r_disp_1_5_1, r_disp_1_5_2, r_inv_1_0, r_inv_1_1, r_inv_1_2, r_inv_1_3, r_inv_1_4, r_iret, r_bret_0, r_bret_1, r_istore_6i, r_istore_6r, r_istore_6j, r_iload_6, r_icmp_le, r_iadd, r_istore_7i, r_istore_7r, r_istore_7j, r_goto_w, r_iload_7, r_gf_449, r_icmp_ge, r_inv_3_0, r_inv_3_1, r_inv_3_2, r_inv_3_3, r_inv_3_4, r_goto, r_iload_5, r_inv_7_0, r_inv_7_1, r_inv_7_2, r_inv_7_3, r_inv_7_4, r_istore_8i, r_istore_8r, r_istore_8j, r_iload_8, r_if_eq, r_disp_2_0_0, r_disp_2_0_1, r_disp_2_0_2, r_disp_2_5_0, r_disp_2_5_1, r_disp_2_5_2, r_iinc_7i, r_iinc_7r, r_iinc_7j, c_timeOf, c_isGood, gf, Bool.false_eq_true, c_isNeeded (hC := hC), q4, ↓reduceIte, not_true_eq_false, not_false_eq_true, Int.reduceEq, Int.reduceLE, Int.reduceLT, Int.reduceAdd, Int.reduceNeg, Int.reduceMul, Int.reduceSub, Int.reduceToNat]
            refine hM e res.2 V' _ (by omega) hν' (fun V2 hν2 => ?_)
            have := ih res.1.1 (zNm res.2) V2 (zi (zOc res.1)) (by omega) (by omega) hgt.2 hν2 hQ
            rw [← nxt] at this
            simp (disch := first | assumption | exact zk_305 | ((repeat (first | exact z1n | refine z1I ?_ | refine z1R ?_)); done) | exact rfl | omega | decide) only [zb_305_6, r_aload_1, r_iload_2, r_inv_2_0, r_inv_2_1, r_inv_2_2, r_inv_2_3, r_inv_2_4, r_K0, r_K1, r_if_ne, r_aload_0, r_iconst, r_iload_3, r_iload_4, r_disp_1_0_0, r_disp_1_0_1, r_disp_1_0_2, r_disp_1_5_0, r_disp_1_5_1, r_disp_1_5_2, r_inv_1_0, r_inv_1_1, r_inv_1_2, r_inv_1_3, r_inv_1_4, r_iret, r_bret_0, r_bret_1, r_istore_6i, r_istore_6r, r_istore_6j, r_iload_6, r_icmp_le, r_iadd, r_istore_7i, r_istore_7r, r_istore_7j, r_goto_w, r_iload_7, r_gf_449, r_icmp_ge, r_inv_3_0, r_inv_3_1, r_inv_3_2, r_inv_3_3, r_inv_3_4, r_goto, r_iload_5, r_inv_7_0, r_inv_7_1, r_inv_7_2, r_inv_7_3, r_inv_7_4, r_istore_8i, r_istore_8r, r_istore_8j, r_iload_8, r_if_eq, r_disp_2_0_0, r_disp_2_0_1, r_disp_2_0_2, r_disp_2_5_0, r_disp_2_5_1, r_disp_2_5_2, r_iinc_7i, r_iinc_7r, r_iinc_7j, ↓reduceIte, not_true_eq_false, not_false_eq_true, Int.reduceEq, Int.reduceLE, Int.reduceLT, Int.reduceAdd, Int.reduceNeg, Int.reduceMul, Int.reduceSub, Int.reduceToNat]
            exact this
      · rw [if_neg q] at hQ
        rw [if_neg q]
        have := ih u ν V w8 (by omega) u0 u1 hν hQ
        rw [← nxt] at this
        simp (disch := first | assumption | exact zk_305 | ((repeat (first | exact z1n | refine z1I ?_ | refine z1R ?_)); done) | exact rfl | omega | decide) only [zb_305_6, r_aload_1, r_iload_2, r_inv_2_0, r_inv_2_1, r_inv_2_2, r_inv_2_3, r_inv_2_4, r_K0, r_K1, r_if_ne, r_aload_0, r_iconst, r_iload_3, r_iload_4, r_disp_1_0_0, r_disp_1_0_1, r_disp_1_0_2, r_disp_1_5_0, r_disp_1_5_1, r_disp_1_5_2, r_inv_1_0, r_inv_1_1, r_inv_1_2, r_inv_1_3, r_inv_1_4, r_iret, r_bret_0, r_bret_1, r_istore_6i, r_istore_6r, r_istore_6j, r_iload_6, r_icmp_le, r_iadd, r_istore_7i, r_istore_7r, r_istore_7j, r_goto_w, r_iload_7, r_gf_449, r_icmp_ge, r_inv_3_0, r_inv_3_1, r_inv_3_2, r_inv_3_3, r_inv_3_4, r_goto, r_iload_5, r_inv_7_0, r_inv_7_1, r_inv_7_2, r_inv_7_3, r_inv_7_4, r_istore_8i, r_istore_8r, r_istore_8j, r_iload_8, r_if_eq, r_disp_2_0_0, r_disp_2_0_1, r_disp_2_0_2, r_disp_2_5_0, r_disp_2_5_1, r_disp_2_5_2, r_iinc_7i, r_iinc_7r, r_iinc_7j, ↓reduceIte, not_true_eq_false, not_false_eq_true, Int.reduceEq, Int.reduceLE, Int.reduceLT, Int.reduceAdd, Int.reduceNeg, Int.reduceMul, Int.reduceSub, Int.reduceToNat]
        exact this
  obtain ⟨hP, hC⟩ := hS ν V hν
  have t7 := hP.1
  unfold zSvB at hQ
  by_cases q : ρ.S 6 x = 1
  · rw [if_neg (fun c => c q)] at hQ
    by_cases q2 : bu < zOwn ρ x
    · rw [if_pos q2] at hQ
      simp (disch := first | assumption | exact zk_305 | ((repeat (first | exact z1n | refine z1I ?_ | refine z1R ?_)); done) | exact rfl | omega | decide) only [zb_305_0, zb_305_1, r_aload_1, r_iload_2, r_inv_2_0, r_inv_2_1, r_inv_2_2, r_inv_2_3, r_inv_2_4, r_K0, r_K1, r_if_ne, r_aload_0, r_iconst, r_iload_3, r_iload_4, r_disp_1_0_0, r_disp_1_0_1, r_disp_1_0_2, r_disp_1_5_0, r_disp_1_5_1, r_disp_1_5_2, r_inv_1_0, r_inv_1_1, r_inv_1_2, r_inv_1_3, r_inv_1_4, r_iret, r_bret_0, r_bret_1, r_istore_6i, r_istore_6r, r_istore_6j, r_iload_6, r_icmp_le, r_iadd, r_istore_7i, r_istore_7r, r_istore_7j, r_goto_w, r_iload_7, r_gf_449, r_icmp_ge, r_inv_3_0, r_inv_3_1, r_inv_3_2, r_inv_3_3, r_inv_3_4, r_goto, r_iload_5, r_inv_7_0, r_inv_7_1, r_inv_7_2, r_inv_7_3, r_inv_7_4, r_istore_8i, r_istore_8r, r_istore_8j, r_iload_8, r_if_eq, r_disp_2_0_0, r_disp_2_0_1, r_disp_2_0_2, r_disp_2_5_0, r_disp_2_5_1, r_disp_2_5_2, r_iinc_7i, r_iinc_7r, r_iinc_7j, c_isUp (hC := hC), q, c_own (hC := hC), hown, ↓reduceIte, not_true_eq_false, not_false_eq_true, Int.reduceEq, Int.reduceLE, Int.reduceLT, Int.reduceAdd, Int.reduceNeg, Int.reduceMul, Int.reduceSub, Int.reduceToNat]
      rw [if_neg (by omega)]
      refine hF e x 2 (mo + bu) bu ν V _ (by omega) hν x0 x1 (by omega) (by omega) (fun V2 hν2 => ?_)
      have := hQ V2 hν2
      simp (disch := first | assumption | exact zk_305 | ((repeat (first | exact z1n | refine z1I ?_ | refine z1R ?_)); done) | exact rfl | omega | decide) only [r_aload_1, r_iload_2, r_inv_2_0, r_inv_2_1, r_inv_2_2, r_inv_2_3, r_inv_2_4, r_K0, r_K1, r_if_ne, r_aload_0, r_iconst, r_iload_3, r_iload_4, r_disp_1_0_0, r_disp_1_0_1, r_disp_1_0_2, r_disp_1_5_0, r_disp_1_5_1, r_disp_1_5_2, r_inv_1_0, r_inv_1_1, r_inv_1_2, r_inv_1_3, r_inv_1_4, r_iret, r_bret_0, r_bret_1, r_istore_6i, r_istore_6r, r_istore_6j, r_iload_6, r_icmp_le, r_iadd, r_istore_7i, r_istore_7r, r_istore_7j, r_goto_w, r_iload_7, r_gf_449, r_icmp_ge, r_inv_3_0, r_inv_3_1, r_inv_3_2, r_inv_3_3, r_inv_3_4, r_goto, r_iload_5, r_inv_7_0, r_inv_7_1, r_inv_7_2, r_inv_7_3, r_inv_7_4, r_istore_8i, r_istore_8r, r_istore_8j, r_iload_8, r_if_eq, r_disp_2_0_0, r_disp_2_0_1, r_disp_2_0_2, r_disp_2_5_0, r_disp_2_5_1, r_disp_2_5_2, r_iinc_7i, r_iinc_7r, r_iinc_7j, c_bad, ↓reduceIte, not_true_eq_false, not_false_eq_true, Int.reduceEq, Int.reduceLE, Int.reduceLT, Int.reduceAdd, Int.reduceNeg, Int.reduceMul, Int.reduceSub, Int.reduceToNat]
      exact this
    · rw [if_neg q2] at hQ
      have := loop ρ.c.toNat (zOwn ρ x) ν V zJ (by omega) (by omega) (by omega) hν hQ
      rw [show ρ.c - ((ρ.c.toNat : Nat) : Int) = 0 by omega] at this
      simp (disch := first | assumption | exact zk_305 | ((repeat (first | exact z1n | refine z1I ?_ | refine z1R ?_)); done) | exact rfl | omega | decide) only [zb_305_0, zb_305_1, zb_305_2, r_aload_1, r_iload_2, r_inv_2_0, r_inv_2_1, r_inv_2_2, r_inv_2_3, r_inv_2_4, r_K0, r_K1, r_if_ne, r_aload_0, r_iconst, r_iload_3, r_iload_4, r_disp_1_0_0, r_disp_1_0_1, r_disp_1_0_2, r_disp_1_5_0, r_disp_1_5_1, r_disp_1_5_2, r_inv_1_0, r_inv_1_1, r_inv_1_2, r_inv_1_3, r_inv_1_4, r_iret, r_bret_0, r_bret_1, r_istore_6i, r_istore_6r, r_istore_6j, r_iload_6, r_icmp_le, r_iadd, r_istore_7i, r_istore_7r, r_istore_7j, r_goto_w, r_iload_7, r_gf_449, r_icmp_ge, r_inv_3_0, r_inv_3_1, r_inv_3_2, r_inv_3_3, r_inv_3_4, r_goto, r_iload_5, r_inv_7_0, r_inv_7_1, r_inv_7_2, r_inv_7_3, r_inv_7_4, r_istore_8i, r_istore_8r, r_istore_8j, r_iload_8, r_if_eq, r_disp_2_0_0, r_disp_2_0_1, r_disp_2_0_2, r_disp_2_5_0, r_disp_2_5_1, r_disp_2_5_2, r_iinc_7i, r_iinc_7r, r_iinc_7j, c_isUp (hC := hC), q, c_own (hC := hC), hown, ↓reduceIte, not_true_eq_false, not_false_eq_true, Int.reduceEq, Int.reduceLE, Int.reduceLT, Int.reduceAdd, Int.reduceNeg, Int.reduceMul, Int.reduceSub, Int.reduceToNat]
      rw [if_pos (by omega)]
      exact this
  · rw [if_pos q] at hQ
    simp (disch := first | assumption | exact zk_305 | ((repeat (first | exact z1n | refine z1I ?_ | refine z1R ?_)); done) | exact rfl | omega | decide) only [zb_305_0, r_aload_1, r_iload_2, r_inv_2_0, r_inv_2_1, r_inv_2_2, r_inv_2_3, r_inv_2_4, r_K0, r_K1, r_if_ne, r_aload_0, r_iconst, r_iload_3, r_iload_4, r_disp_1_0_0, r_disp_1_0_1, r_disp_1_0_2, r_disp_1_5_0, r_disp_1_5_1, r_disp_1_5_2, r_inv_1_0, r_inv_1_1, r_inv_1_2, r_inv_1_3, r_inv_1_4, r_iret, r_bret_0, r_bret_1, r_istore_6i, r_istore_6r, r_istore_6j, r_iload_6, r_icmp_le, r_iadd, r_istore_7i, r_istore_7r, r_istore_7j, r_goto_w, r_iload_7, r_gf_449, r_icmp_ge, r_inv_3_0, r_inv_3_1, r_inv_3_2, r_inv_3_3, r_inv_3_4, r_goto, r_iload_5, r_inv_7_0, r_inv_7_1, r_inv_7_2, r_inv_7_3, r_inv_7_4, r_istore_8i, r_istore_8r, r_istore_8j, r_iload_8, r_if_eq, r_disp_2_0_0, r_disp_2_0_1, r_disp_2_0_2, r_disp_2_5_0, r_disp_2_5_1, r_disp_2_5_2, r_iinc_7i, r_iinc_7r, r_iinc_7j, c_isUp (hC := hC), q, ↓reduceIte, not_true_eq_false, not_false_eq_true, Int.reduceEq, Int.reduceLE, Int.reduceLT, Int.reduceAdd, Int.reduceNeg, Int.reduceMul, Int.reduceSub, Int.reduceToNat]
    refine hF e x 1 mo bu ν V _ (by omega) hν x0 x1 (by omega) (by omega) (fun V2 hν2 => ?_)
    have := hQ V2 hν2
    simp (disch := first | assumption | exact zk_305 | ((repeat (first | exact z1n | refine z1I ?_ | refine z1R ?_)); done) | exact rfl | omega | decide) only [r_aload_1, r_iload_2, r_inv_2_0, r_inv_2_1, r_inv_2_2, r_inv_2_3, r_inv_2_4, r_K0, r_K1, r_if_ne, r_aload_0, r_iconst, r_iload_3, r_iload_4, r_disp_1_0_0, r_disp_1_0_1, r_disp_1_0_2, r_disp_1_5_0, r_disp_1_5_1, r_disp_1_5_2, r_inv_1_0, r_inv_1_1, r_inv_1_2, r_inv_1_3, r_inv_1_4, r_iret, r_bret_0, r_bret_1, r_istore_6i, r_istore_6r, r_istore_6j, r_iload_6, r_icmp_le, r_iadd, r_istore_7i, r_istore_7r, r_istore_7j, r_goto_w, r_iload_7, r_gf_449, r_icmp_ge, r_inv_3_0, r_inv_3_1, r_inv_3_2, r_inv_3_3, r_inv_3_4, r_goto, r_iload_5, r_inv_7_0, r_inv_7_1, r_inv_7_2, r_inv_7_3, r_inv_7_4, r_istore_8i, r_istore_8r, r_istore_8j, r_iload_8, r_if_eq, r_disp_2_0_0, r_disp_2_0_1, r_disp_2_0_2, r_disp_2_5_0, r_disp_2_5_1, r_disp_2_5_2, r_iinc_7i, r_iinc_7r, r_iinc_7j, c_bad, ↓reduceIte, not_true_eq_false, not_false_eq_true, Int.reduceEq, Int.reduceLE, Int.reduceLT, Int.reduceAdd, Int.reduceNeg, Int.reduceMul, Int.reduceSub, Int.reduceToNat]
    exact this
end
