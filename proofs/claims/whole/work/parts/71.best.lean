/-! BEST ORDER, 5: the model's order -/
section
variable {d : Nat} {s : zS} {V : zV} {Q : zO → zH → Prop} {ρ : zR} {h : zH}
set_option maxRecDepth 20000 in
theorem m_bestCost (hd : 5 ≤ d) (hM : zMP s V) (hC : zMC ρ V) (hW : zWF ρ) (hQ : ∀ V', zFm [169, 188] [6] V V' → Q (.inl (some (zi (zYr ρ 0)))) (s, V')) : zcall d 246 [.ref 164] (s, V) Q := by
  have tM := hM.1
  obtain ⟨d, rfl⟩ : ∃ e, d = e + 1 := ⟨d - 1, by omega⟩
  rw [zc_246 tM]
  simp (disch := first | assumption | exact zk_246 | ((repeat (first | exact z1n | refine z1I ?_ | refine z1R ?_)); done) | exact rfl | omega | decide) only [zb_246_0, r_aload_0, r_inv_1_0, r_inv_1_1, r_inv_1_2, r_inv_1_3, r_inv_1_4, r_K0, r_K1, r_inv_2_0, r_inv_2_1, r_inv_2_2, r_inv_2_3, r_inv_2_4, r_iret, r_bret_0, r_bret_1, ↓reduceIte, not_true_eq_false, not_false_eq_true, Int.reduceEq, Int.reduceLE, Int.reduceLT, Int.reduceAdd, Int.reduceNeg, Int.reduceMul, Int.reduceSub, Int.reduceToNat]
  refine m_laysBest (by omega) hM hC hW (fun V1 f1 _ _ => ?_)
  have hM1 := hM.fm f1 (by decide)
  have := hQ (zput V1 164 6 (zi 0)) ((f1.mono (fun _ h => h) (by decide)).pf (by simp))
  simp (disch := first | assumption | exact zk_246 | ((repeat (first | exact z1n | refine z1I ?_ | refine z1R ?_)); done) | exact rfl | omega | decide) only [r_aload_0, r_inv_1_0, r_inv_1_1, r_inv_1_2, r_inv_1_3, r_inv_1_4, r_K0, r_K1, r_inv_2_0, r_inv_2_1, r_inv_2_2, r_inv_2_3, r_inv_2_4, r_iret, r_bret_0, r_bret_1, m_tells, ↓reduceIte, not_true_eq_false, not_false_eq_true, Int.reduceEq, Int.reduceLE, Int.reduceLT, Int.reduceAdd, Int.reduceNeg, Int.reduceMul, Int.reduceSub, Int.reduceToNat]
  exact this
set_option maxRecDepth 20000 in
theorem m_bestOrder (hd : 5 ≤ d) (hM : zMP s V) (hC : zMC ρ V) (hW : zWF ρ) {p : Int} (hp : zI32 p) (hQ : ∀ V', zFm [169, 188] [6] V V' → Q (.inl (some (zi (zYz ρ p)))) (s, V')) : zcall d 247 [.ref 164, zi p] (s, V) Q := by
  obtain ⟨n0, n1, cc0, cc1⟩ := hW.1
  obtain ⟨p0, p1⟩ := hp
  have tM := hM.1
  have hD := zDown_lt hW
  have hpr := zpop_rng (v := zDown ρ)
  obtain ⟨d, rfl⟩ : ∃ e, d = e + 1 := ⟨d - 1, by omega⟩
  rw [zc_247 tM]
  simp (disch := first | assumption | exact zk_247 | ((repeat (first | exact z1n | refine z1I ?_ | refine z1R ?_)); done) | exact rfl | omega | decide) only [zb_247_0, r_aload_0, r_inv_1_0, r_inv_1_1, r_inv_1_2, r_inv_1_3, r_inv_1_4, r_K0, r_K1, r_istore_2i, r_istore_2r, r_istore_2j, r_istore_3i, r_istore_3r, r_istore_3j, r_iconst, r_istore_4i, r_istore_4r, r_istore_4j, r_iload_1, r_istore_5i, r_istore_5r, r_istore_5j, r_istore_6i, r_istore_6r, r_istore_6j, r_goto_w, r_iload_4, r_iload_3, r_icmp_eq, r_iload_5, r_if_lt, r_iload_2, r_istore_7i, r_istore_7r, r_istore_7j, r_iload_7, r_inv_4_0, r_inv_4_1, r_inv_4_2, r_inv_4_3, r_inv_4_4, r_gf_678, r_ial, r_ial30, r_ial32, r_iinc_7i, r_iinc_7r, r_iinc_7j, r_goto, r_if_ne, r_iload_6, r_iinc_5i, r_iinc_5r, r_iinc_5j, r_ishl, r_ior, r_inv_2_0, r_inv_2_1, r_inv_2_2, r_inv_2_3, r_inv_2_4, r_iret, r_bret_0, r_bret_1, ↓reduceIte, not_true_eq_false, not_false_eq_true, Int.reduceEq, Int.reduceLE, Int.reduceLT, Int.reduceAdd, Int.reduceNeg, Int.reduceMul, Int.reduceSub, Int.reduceToNat]
  refine m_laysBest (by omega) hM hC hW (fun V1 f1 hN1 ht1 => ?_)
  have hM1 := hM.fm f1 (by decide)
  have hC1 := hC.fm f1 (by decide)
  simp (disch := first | assumption | exact zk_247 | ((repeat (first | exact z1n | refine z1I ?_ | refine z1R ?_)); done) | exact rfl | omega | decide) only [r_aload_0, r_inv_1_0, r_inv_1_1, r_inv_1_2, r_inv_1_3, r_inv_1_4, r_K0, r_K1, r_istore_2i, r_istore_2r, r_istore_2j, r_istore_3i, r_istore_3r, r_istore_3j, r_iconst, r_istore_4i, r_istore_4r, r_istore_4j, r_iload_1, r_istore_5i, r_istore_5r, r_istore_5j, r_istore_6i, r_istore_6r, r_istore_6j, r_goto_w, r_iload_4, r_iload_3, r_icmp_eq, r_iload_5, r_if_lt, r_iload_2, r_istore_7i, r_istore_7r, r_istore_7j, r_iload_7, r_inv_4_0, r_inv_4_1, r_inv_4_2, r_inv_4_3, r_inv_4_4, r_gf_678, r_ial, r_ial30, r_ial32, r_iinc_7i, r_iinc_7r, r_iinc_7j, r_goto, r_if_ne, r_iload_6, r_iinc_5i, r_iinc_5r, r_iinc_5j, r_ishl, r_ior, r_inv_2_0, r_inv_2_1, r_inv_2_2, r_inv_2_3, r_inv_2_4, r_iret, r_bret_0, r_bret_1, m_downs (hC := hC1), ↓reduceIte, not_true_eq_false, not_false_eq_true, Int.reduceEq, Int.reduceLE, Int.reduceLT, Int.reduceAdd, Int.reduceNeg, Int.reduceMul, Int.reduceSub, Int.reduceToNat]
  have hfin := hQ (zput V1 164 6 (zi 0)) ((f1.mono (fun _ h => h) (by decide)).pf (by simp))
  have w : V1 164 38 = .ref 188 := (hM1.2 23 (by decide)).1
  have tw : s.tg 188 = 20 := (hM1.2 23 (by decide)).2.1
  have lw : s.ln 188 = 4096 := (hM1.2 23 (by decide)).2.2
  have hr0 := zYr_rng hW 4096 0 (by omega) (by omega) (fun x _ _ hx => absurd ((zin_zero x).symm.trans hx) Bool.false_ne_true)
  generalize hE : (if p < 0 then (0 : Int) else if p < zpop (zDown ρ) then p + 1 else zpop (zDown ρ)) = E
  have hEr : 0 ≤ E ∧ E ≤ zpop (zDown ρ) ∧ (0 < E → 0 ≤ p ∧ E ≤ p + 1) := by
    rw [← hE]
    by_cases z1 : p < 0
    · rw [if_pos z1]; omega
    · rw [if_neg z1]
      by_cases z2 : p < zpop (zDown ρ)
      · rw [if_pos z2]; omega
      · rw [if_neg z2]; omega
  have hlp := z_iter (i := 0) (n := E) (I := fun _ (_ : Value) => True) (P := fun k q => zwp (zcall d) 247 Q (zB 247 1) [.ref 164, zi p, zi (zYr ρ 0), zi (zDown ρ : Nat), zi (zYo ρ k.toNat : Nat), zi (p - k), zi (if k = p + 1 then zYz ρ p else -1), q] [] (s, V1)) hEr.1
  have h0 : zwp (zcall d) 247 Q (zB 247 1) [.ref 164, zi p, zi (zYr ρ 0), zi (zDown ρ : Nat), zi (zYo ρ (0 : Int).toNat : Nat), zi (p - 0), zi (if (0 : Int) = p + 1 then zYz ρ p else -1), zJ] [] (s, V1) := by
    refine hlp ?_ ?_ zJ trivial
    · rintro k q k0 k1 - ih
      obtain ⟨v, rfl⟩ : ∃ v : Nat, k = v := ⟨k.toNat, by omega⟩
      rw [show ((v : Int) + 1).toNat = v + 1 by omega] at ih
      rw [Int.toNat_natCast]
      obtain ⟨e1, e2⟩ := hEr.2.2 (by omega)
      obtain ⟨ya, yb, yc⟩ := zYo_is hW v (by omega)
      have hne := zYo_ne hW (k := v) (by omega)
      obtain ⟨x0, x1, x2, x3, x4, x5⟩ := zYx_is hW ya yb hne
      have hne' : ¬ ((zYo ρ v : Nat) : Int) = ((zDown ρ : Nat) : Int) := by omega
      have hzo : zone (zYx ρ (zYo ρ v)) < 4096 := zone_lt (by omega)
      have hrest := ht1 _ ya yb
      have hrr := zYr_rng hW 4096 (zYo ρ v) ya (by omega) yb
      rw [if_neg (by omega)]
      have ih' := ih (zi (zYx ρ (zYo ρ v))) trivial
      rw [show zYo ρ (v + 1) = zYo ρ v ||| zone (zYx ρ (zYo ρ v)) from rfl] at ih'
      conv => rw [zb_247_1]
      simp (disch := first | assumption | exact zk_247 | ((repeat (first | exact z1n | refine z1I ?_ | refine z1R ?_)); done) | exact rfl | omega | decide) only [r_aload_0, r_inv_1_0, r_inv_1_1, r_inv_1_2, r_inv_1_3, r_inv_1_4, r_K0, r_K1, r_istore_2i, r_istore_2r, r_istore_2j, r_istore_3i, r_istore_3r, r_istore_3j, r_iconst, r_istore_4i, r_istore_4r, r_istore_4j, r_iload_1, r_istore_5i, r_istore_5r, r_istore_5j, r_istore_6i, r_istore_6r, r_istore_6j, r_goto_w, r_iload_4, r_iload_3, r_icmp_eq, r_iload_5, r_if_lt, r_iload_2, r_istore_7i, r_istore_7r, r_istore_7j, r_iload_7, r_inv_4_0, r_inv_4_1, r_inv_4_2, r_inv_4_3, r_inv_4_4, r_gf_678, r_ial, r_ial30, r_ial32, r_iinc_7i, r_iinc_7r, r_iinc_7j, r_goto, r_if_ne, r_iload_6, r_iinc_5i, r_iinc_5r, r_iinc_5j, r_ishl, r_ior, r_inv_2_0, r_inv_2_1, r_inv_2_2, r_inv_2_3, r_inv_2_4, r_iret, r_bret_0, r_bret_1, ↓reduceIte, not_true_eq_false, not_false_eq_true, Int.reduceEq, Int.reduceLE, Int.reduceLT, Int.reduceAdd, Int.reduceNeg, Int.reduceMul, Int.reduceSub, Int.reduceToNat]
      rw [if_neg hne', if_neg (by omega), if_neg (by omega)]
      have ck : ∀ x, 0 ≤ x → x < ρ.n → ∀ K, zcall d 244 [.ref 164, zi x, zi (zDown ρ : Nat), zi (zYo ρ v : Nat)] (s, V1) K = K (.inl (some (zi (zYq ρ (zYo ρ v) x)))) (s, V1) := fun x x0 x1 K => m_costWith (by omega) hM1 hC1 hW hN1 ya yb x0 x1 (fun hc => ht1 _ (zor_lt ya (zone_lt (by omega))) (zSub_up x0 yb hc))
      have hch := z_chainI (F := fun x => zwp (zcall d) 247 Q (zB 247 2) [.ref 164, zi p, zi (zYr ρ 0), zi (zDown ρ : Nat), zi (zYo ρ v : Nat), zi (p - v), zi (-1), zi x] [] (s, V1)) x0 (fun x y0 y1 => by
        have c9 := ck x y0 (by omega)
        have hq := zYq_all hW ya yb y0 (by omega)
        have hnq := x4 x y0 y1
        conv => lhs; rw [zb_247_2]
        simp (disch := first | assumption | exact zk_247 | ((repeat (first | exact z1n | refine z1I ?_ | refine z1R ?_)); done) | exact rfl | omega | decide) only [r_aload_0, r_inv_1_0, r_inv_1_1, r_inv_1_2, r_inv_1_3, r_inv_1_4, r_K0, r_K1, r_istore_2i, r_istore_2r, r_istore_2j, r_istore_3i, r_istore_3r, r_istore_3j, r_iconst, r_istore_4i, r_istore_4r, r_istore_4j, r_iload_1, r_istore_5i, r_istore_5r, r_istore_5j, r_istore_6i, r_istore_6r, r_istore_6j, r_goto_w, r_iload_4, r_iload_3, r_icmp_eq, r_iload_5, r_if_lt, r_iload_2, r_istore_7i, r_istore_7r, r_istore_7j, r_iload_7, r_inv_4_0, r_inv_4_1, r_inv_4_2, r_inv_4_3, r_inv_4_4, r_gf_678, r_ial, r_ial30, r_ial32, r_iinc_7i, r_iinc_7r, r_iinc_7j, r_goto, r_if_ne, r_iload_6, r_iinc_5i, r_iinc_5r, r_iinc_5j, r_ishl, r_ior, r_inv_2_0, r_inv_2_1, r_inv_2_2, r_inv_2_3, r_inv_2_4, r_iret, r_bret_0, r_bret_1, c9, w, hrest, ↓reduceIte, not_true_eq_false, not_false_eq_true, Int.reduceEq, Int.reduceLE, Int.reduceLT, Int.reduceAdd, Int.reduceNeg, Int.reduceMul, Int.reduceSub, Int.reduceToNat]
        rw [if_neg hnq])
      refine hch.mpr ?_
      have c9 := ck _ x0 x1
      conv => rw [zb_247_2]
      simp (disch := first | assumption | exact zk_247 | ((repeat (first | exact z1n | refine z1I ?_ | refine z1R ?_)); done) | exact rfl | omega | decide) only [zb_247_3, r_aload_0, r_inv_1_0, r_inv_1_1, r_inv_1_2, r_inv_1_3, r_inv_1_4, r_K0, r_K1, r_istore_2i, r_istore_2r, r_istore_2j, r_istore_3i, r_istore_3r, r_istore_3j, r_iconst, r_istore_4i, r_istore_4r, r_istore_4j, r_iload_1, r_istore_5i, r_istore_5r, r_istore_5j, r_istore_6i, r_istore_6r, r_istore_6j, r_goto_w, r_iload_4, r_iload_3, r_icmp_eq, r_iload_5, r_if_lt, r_iload_2, r_istore_7i, r_istore_7r, r_istore_7j, r_iload_7, r_inv_4_0, r_inv_4_1, r_inv_4_2, r_inv_4_3, r_inv_4_4, r_gf_678, r_ial, r_ial30, r_ial32, r_iinc_7i, r_iinc_7r, r_iinc_7j, r_goto, r_if_ne, r_iload_6, r_iinc_5i, r_iinc_5r, r_iinc_5j, r_ishl, r_ior, r_inv_2_0, r_inv_2_1, r_inv_2_2, r_inv_2_3, r_inv_2_4, r_iret, r_bret_0, r_bret_1, c9, w, hrest, x3, ↓reduceIte, not_true_eq_false, not_false_eq_true, Int.reduceEq, Int.reduceLE, Int.reduceLT, Int.reduceAdd, Int.reduceNeg, Int.reduceMul, Int.reduceSub, Int.reduceToNat]
      by_cases hz : p - (v : Int) = 0
      · rw [if_neg (by omega)]
        have hpz : zYz ρ p = zYx ρ (zYo ρ v) := by
          unfold zYz
          rw [if_pos (by omega), show p.toNat = v by omega]
        rw [if_pos (by omega), hpz, show p - ((v : Int) + 1) = p - v + -1 by omega] at ih'
        simp (disch := first | assumption | exact zk_247 | ((repeat (first | exact z1n | refine z1I ?_ | refine z1R ?_)); done) | exact rfl | omega | decide) only [zb_247_4, zb_247_5, r_aload_0, r_inv_1_0, r_inv_1_1, r_inv_1_2, r_inv_1_3, r_inv_1_4, r_K0, r_K1, r_istore_2i, r_istore_2r, r_istore_2j, r_istore_3i, r_istore_3r, r_istore_3j, r_iconst, r_istore_4i, r_istore_4r, r_istore_4j, r_iload_1, r_istore_5i, r_istore_5r, r_istore_5j, r_istore_6i, r_istore_6r, r_istore_6j, r_goto_w, r_iload_4, r_iload_3, r_icmp_eq, r_iload_5, r_if_lt, r_iload_2, r_istore_7i, r_istore_7r, r_istore_7j, r_iload_7, r_inv_4_0, r_inv_4_1, r_inv_4_2, r_inv_4_3, r_inv_4_4, r_gf_678, r_ial, r_ial30, r_ial32, r_iinc_7i, r_iinc_7r, r_iinc_7j, r_goto, r_if_ne, r_iload_6, r_iinc_5i, r_iinc_5r, r_iinc_5j, r_ishl, r_ior, r_inv_2_0, r_inv_2_1, r_inv_2_2, r_inv_2_3, r_inv_2_4, r_iret, r_bret_0, r_bret_1, zshl_z, zor_n, ↓reduceIte, not_true_eq_false, not_false_eq_true, Int.reduceEq, Int.reduceLE, Int.reduceLT, Int.reduceAdd, Int.reduceNeg, Int.reduceMul, Int.reduceSub, Int.reduceToNat]
        exact ih'
      · rw [if_pos hz]
        rw [if_neg (by omega), show p - ((v : Int) + 1) = p - v + -1 by omega] at ih'
        simp (disch := first | assumption | exact zk_247 | ((repeat (first | exact z1n | refine z1I ?_ | refine z1R ?_)); done) | exact rfl | omega | decide) only [zb_247_4, zb_247_5, r_aload_0, r_inv_1_0, r_inv_1_1, r_inv_1_2, r_inv_1_3, r_inv_1_4, r_K0, r_K1, r_istore_2i, r_istore_2r, r_istore_2j, r_istore_3i, r_istore_3r, r_istore_3j, r_iconst, r_istore_4i, r_istore_4r, r_istore_4j, r_iload_1, r_istore_5i, r_istore_5r, r_istore_5j, r_istore_6i, r_istore_6r, r_istore_6j, r_goto_w, r_iload_4, r_iload_3, r_icmp_eq, r_iload_5, r_if_lt, r_iload_2, r_istore_7i, r_istore_7r, r_istore_7j, r_iload_7, r_inv_4_0, r_inv_4_1, r_inv_4_2, r_inv_4_3, r_inv_4_4, r_gf_678, r_ial, r_ial30, r_ial32, r_iinc_7i, r_iinc_7r, r_iinc_7j, r_goto, r_if_ne, r_iload_6, r_iinc_5i, r_iinc_5r, r_iinc_5j, r_ishl, r_ior, r_inv_2_0, r_inv_2_1, r_inv_2_2, r_inv_2_3, r_inv_2_4, r_iret, r_bret_0, r_bret_1, zshl_z, zor_n, ↓reduceIte, not_true_eq_false, not_false_eq_true, Int.reduceEq, Int.reduceLE, Int.reduceLT, Int.reduceAdd, Int.reduceNeg, Int.reduceMul, Int.reduceSub, Int.reduceToNat]
        exact ih'
    · rintro q -
      have hexit : zwp (zcall d) 247 Q (zB 247 6) [.ref 164, zi p, zi (zYr ρ 0), zi (zDown ρ : Nat), zi (zYo ρ E.toNat : Nat), zi (p - E), zi (if E = p + 1 then zYz ρ p else -1), q] [] (s, V1) := by
        have hfo : (if E = p + 1 then zYz ρ p else -1) = zYz ρ p := by
          by_cases c : E = p + 1
          · rw [if_pos c]
          · rw [if_neg c]
            unfold zYz
            rw [if_neg]
            rw [← hE] at c
            intro z
            rw [if_neg (by omega), if_pos (by omega)] at c
            exact c rfl
        rw [hfo]
        simp (disch := first | assumption | exact zk_247 | ((repeat (first | exact z1n | refine z1I ?_ | refine z1R ?_)); done) | exact rfl | omega | decide) only [zb_247_6, r_aload_0, r_inv_1_0, r_inv_1_1, r_inv_1_2, r_inv_1_3, r_inv_1_4, r_K0, r_K1, r_istore_2i, r_istore_2r, r_istore_2j, r_istore_3i, r_istore_3r, r_istore_3j, r_iconst, r_istore_4i, r_istore_4r, r_istore_4j, r_iload_1, r_istore_5i, r_istore_5r, r_istore_5j, r_istore_6i, r_istore_6r, r_istore_6j, r_goto_w, r_iload_4, r_iload_3, r_icmp_eq, r_iload_5, r_if_lt, r_iload_2, r_istore_7i, r_istore_7r, r_istore_7j, r_iload_7, r_inv_4_0, r_inv_4_1, r_inv_4_2, r_inv_4_3, r_inv_4_4, r_gf_678, r_ial, r_ial30, r_ial32, r_iinc_7i, r_iinc_7r, r_iinc_7j, r_goto, r_if_ne, r_iload_6, r_iinc_5i, r_iinc_5r, r_iinc_5j, r_ishl, r_ior, r_inv_2_0, r_inv_2_1, r_inv_2_2, r_inv_2_3, r_inv_2_4, r_iret, r_bret_0, r_bret_1, m_tells, ↓reduceIte, not_true_eq_false, not_false_eq_true, Int.reduceEq, Int.reduceLE, Int.reduceLT, Int.reduceAdd, Int.reduceNeg, Int.reduceMul, Int.reduceSub, Int.reduceToNat]
        exact hfin
      have hE4 : zYo ρ E.toNat < 4096 := (zYo_is hW E.toNat (by omega)).1
      conv => rw [zb_247_1]
      simp (disch := first | assumption | exact zk_247 | ((repeat (first | exact z1n | refine z1I ?_ | refine z1R ?_)); done) | exact rfl | omega | decide) only [r_aload_0, r_inv_1_0, r_inv_1_1, r_inv_1_2, r_inv_1_3, r_inv_1_4, r_K0, r_K1, r_istore_2i, r_istore_2r, r_istore_2j, r_istore_3i, r_istore_3r, r_istore_3j, r_iconst, r_istore_4i, r_istore_4r, r_istore_4j, r_iload_1, r_istore_5i, r_istore_5r, r_istore_5j, r_istore_6i, r_istore_6r, r_istore_6j, r_goto_w, r_iload_4, r_iload_3, r_icmp_eq, r_iload_5, r_if_lt, r_iload_2, r_istore_7i, r_istore_7r, r_istore_7j, r_iload_7, r_inv_4_0, r_inv_4_1, r_inv_4_2, r_inv_4_3, r_inv_4_4, r_gf_678, r_ial, r_ial30, r_ial32, r_iinc_7i, r_iinc_7r, r_iinc_7j, r_goto, r_if_ne, r_iload_6, r_iinc_5i, r_iinc_5r, r_iinc_5j, r_ishl, r_ior, r_inv_2_0, r_inv_2_1, r_inv_2_2, r_inv_2_3, r_inv_2_4, r_iret, r_bret_0, r_bret_1, ↓reduceIte, not_true_eq_false, not_false_eq_true, Int.reduceEq, Int.reduceLE, Int.reduceLT, Int.reduceAdd, Int.reduceNeg, Int.reduceMul, Int.reduceSub, Int.reduceToNat]
      by_cases c : ((zYo ρ E.toNat : Nat) : Int) = ((zDown ρ : Nat) : Int)
      · rw [if_pos c]; exact hexit
      · rw [if_neg c]
        have hne : E ≠ zpop (zDown ρ) := fun e => c (by rw [zYo_end hW (k := E.toNat) (by omega)])
        have : p - E < 0 := by
          rw [← hE] at hne ⊢
          split
          · omega
          · rename_i z
            rw [if_neg z] at hne
            split
            · omega
            · rename_i z2
              rw [if_neg z2] at hne
              exact absurd rfl hne
        rw [if_pos this]
        exact hexit
  rw [show p - 0 = p by omega] at h0
  by_cases hp1 : (0 : Int) = p + 1
  · have hz : zYz ρ p = -1 := by unfold zYz; rw [if_neg (by omega)]
    rw [if_pos hp1, hz] at h0
    exact h0
  · rw [if_neg hp1] at h0
    exact h0
end
