/-! CALLS OF THE MODEL, 5: digest -/
section
variable {d : Nat} {s : zS} {V V' : zV} {Q K : zO → zH → Prop} {σ : zσ} {h : zH} {l : List Nat} {ks : List Int}
set_option maxRecDepth 20000 in
theorem m_mix (hd : 1 ≤ d) (hM : zMP s V) {H x : Int} (hv : V 164 43 = zl H) (h1 : -2147483648 ≤ x) (h2 : x < 2147483648) : zcall d 268 [.ref 164, zi x] (s, V) Q = Q (.inl none) (s, zput V 164 43 (zl (31 * H + x))) := by
  have tM := hM.1
  obtain ⟨d, rfl⟩ : ∃ e, d = e + 1 := ⟨d - 1, by omega⟩
  simp (disch := first | assumption | omega) only [zc_268]
  simp (disch := first | assumption | exact zk_268 | ((repeat (first | exact z1n | refine z1I ?_ | refine z1R ?_)); done) | exact rfl | omega | decide) only [zb_268_0, r_aload_0, r_lconst, r_gf_683, r_lmul, r_iload_1, r_i2l, r_ladd, r_pf_683, r_ret, hv, ↓reduceIte, not_true_eq_false, not_false_eq_true, Int.reduceEq, Int.reduceLE, Int.reduceLT, Int.reduceAdd, Int.reduceNeg, Int.reduceMul, Int.reduceSub, Int.reduceToNat]
/-- the model but for its number h -/
def zDgI (σ : zσ) (s : zS) (V V1 : zV) (H : Int) : Prop := zFm [169, 170, 186, 187, 188] [6, 43] V V1 ∧ V1 164 43 = zl H
theorem zDgI.mix {V1 : zV} {H x : Int} (h : zDgI σ s V V1 H) : zDgI σ s V (zput V1 164 43 (zl x)) x := ⟨h.1.pf (by simp), zput_at⟩
set_option maxRecDepth 20000 in
theorem u_digest (hd : 20 ≤ d) (hm : zWm σ s V) (ho : zOK σ) (h0 : ∀ V', zFr9 V V' → zWm σ s V' → Q (.inl (some (zl (zdg σ)))) (s, V')) : zcall d 269 [.ref 164] (s, V) Q := by
  obtain ⟨hM, hC, hI, hPa, hX, ⟨hi1, hi2⟩, hR⟩ := id hm
  have hW := ho.1
  obtain ⟨n0, n1, c0, c1⟩ := hW.1
  obtain ⟨p0, p1⟩ := ho.2.1
  have tM := hM.1
  have hH : ∀ k : Nat, (k : Int) < σ.p → (σ.H k).n ≤ 12 ∧ (σ.H k).c ≤ 24 := fun k hk => by
    obtain ⟨b0, b1, b2, b3⟩ := (ho.2.2.1 k hk).1
    exact ⟨b1, b3⟩
  have k1 : ∀ {V1 : zV} {H : Int}, zDgI σ s V V1 H → zMP s V1 ∧ zMC σ.r V1 := fun hq => ⟨hM.fm hq.1 (by decide), hC.fm hq.1 (by decide)⟩
  have hI0 : zDgI σ s V (zput (zput V 164 6 (zi 0)) 164 43 (zl 1851)) 1851 := ⟨(zFm.rf.pf (by simp)).pf (by simp), zput_at⟩
  obtain ⟨hM0, hC0⟩ := k1 hI0
  have v0 : zput (zput V 164 6 (zi 0)) 164 43 (zl 1851) 164 0 = .ref 165 := (hM0.2 0 (by decide)).1
  have t0 : s.tg 165 = 20 := (hM0.2 0 (by decide)).2.1
  have l0 : s.ln 165 = 230 := (hM0.2 0 (by decide)).2.2
  have gn := hC0.1
  have mx := fun K => m_mix (Q := K) (d := d - 1) (by omega) hM0 hI0.2 (x := σ.r.n) (by omega) (by omega)
  obtain ⟨d, rfl⟩ : ∃ e, d = e + 1 := ⟨d - 1, by omega⟩
  simp (disch := first | assumption | omega) only [zc_269]
  rw [show d + 1 - 1 = d from rfl] at mx
  simp (disch := first | assumption | exact zk_269 | ((repeat (first | exact z1n | refine z1I ?_ | refine z1R ?_)); done) | exact rfl | omega | decide) only [zb_269_0, r_aload_0, r_iconst, r_pf_646, r_lconst, r_pf_683, r_gf_640, r_ial, r_ial30, r_ial32, r_inv_2_0, r_inv_2_1, r_inv_2_2, r_inv_2_3, r_inv_2_4, r_K0, r_K1, r_inv_1_0, r_inv_1_1, r_inv_1_2, r_inv_1_3, r_inv_1_4, r_istore_1i, r_istore_1r, r_istore_1j, r_goto_w, r_iload_1, r_icmp_ge, r_istore_2i, r_istore_2r, r_istore_2j, r_iload_2, r_inv_3_0, r_inv_3_1, r_inv_3_2, r_inv_3_3, r_inv_3_4, r_iinc_2i, r_iinc_2r, r_iinc_2j, r_goto, r_gf_675, r_iinc_1i, r_iinc_1r, r_iinc_1j, r_gf_645, r_gf_643, r_gf_683, r_lreturn, r_lretI, v0, gn, mx, ↓reduceIte, not_true_eq_false, not_false_eq_true, Int.reduceEq, Int.reduceLE, Int.reduceLT, Int.reduceAdd, Int.reduceNeg, Int.reduceMul, Int.reduceSub, Int.reduceToNat]
  have hI1 := hI0.mix (x := 31 * 1851 + σ.r.n)
  obtain ⟨hM1, hC1⟩ := k1 hI1
  refine m_laysBounds (by omega) hM1 hC1 hW (fun V2 f2 hb => ?_)
  have hI2 : zDgI σ s V V2 (31 * 1851 + σ.r.n) := ⟨hI1.1.tr (f2.mono (by decide) (by decide)), by rw [f2.2 43 (by simp)]; exact hI1.2⟩
  rw [show (31 : Int) * 1851 + σ.r.n = 57381 + σ.r.n from rfl] at hI2
  simp (disch := first | assumption | exact zk_269 | ((repeat (first | exact z1n | refine z1I ?_ | refine z1R ?_)); done) | exact rfl | omega | decide) only [r_aload_0, r_iconst, r_pf_646, r_lconst, r_pf_683, r_gf_640, r_ial, r_ial30, r_ial32, r_inv_2_0, r_inv_2_1, r_inv_2_2, r_inv_2_3, r_inv_2_4, r_K0, r_K1, r_inv_1_0, r_inv_1_1, r_inv_1_2, r_inv_1_3, r_inv_1_4, r_istore_1i, r_istore_1r, r_istore_1j, r_goto_w, r_iload_1, r_icmp_ge, r_istore_2i, r_istore_2r, r_istore_2j, r_iload_2, r_inv_3_0, r_inv_3_1, r_inv_3_2, r_inv_3_3, r_inv_3_4, r_iinc_2i, r_iinc_2r, r_iinc_2j, r_goto, r_gf_675, r_iinc_1i, r_iinc_1r, r_iinc_1j, r_gf_645, r_gf_643, r_gf_683, r_lreturn, r_lretI, ↓reduceIte, not_true_eq_false, not_false_eq_true, Int.reduceEq, Int.reduceLE, Int.reduceLT, Int.reduceAdd, Int.reduceNeg, Int.reduceMul, Int.reduceSub, Int.reduceToNat]
  have hbr := zBnK_rng hW σ.r.n.toNat (by omega)
  have l1 := z_iter (i := 0) (n := σ.r.n) (I := fun k (u : zV) => zDgI σ s V u (zfo (zdgS σ.r) (57381 + σ.r.n) k) ∧ ∀ y, 0 ≤ y → y < σ.r.n → u 186 y = zi (zBnd σ.r y)) (P := fun k u => ∀ w2, zwp (zcall d) 269 Q (zB 269 1) [.ref 164, zi k, w2] [] (s, u)) n0
  refine l1 ?_ ?_ V2 ⟨hI2, hb⟩ zJ
  · rintro k V3 k0 k1' ⟨hI3, hb3⟩ ih w2
    obtain ⟨hM3, hC3⟩ := k1 hI3
    have w0 : V3 164 0 = .ref 165 := (hM3.2 0 (by decide)).1
    have wn := hC3.1
    have hbk : 0 ≤ zBnd σ.r k ∧ zBnd σ.r k ≤ 100000 := hbr k
    rw [zfo_s k0] at ih
    generalize zfo (zdgS σ.r) (57381 + σ.r.n) k = H at hI3 ih
    unfold zdgS at ih
    have l2 := z_iter (i := 0) (n := 11) (I := fun w (u : zV) => zDgI σ s V u (zfo (fun w h => 31 * h + zTell σ.r k w) H w) ∧ ∀ y, 0 ≤ y → y < σ.r.n → u 186 y = zi (zBnd σ.r y)) (P := fun w u => zwp (zcall d) 269 Q (zB 269 2) [.ref 164, zi k, zi w] [] (s, u)) (by omega)
    have key := l2 ?_ ?_ V3 ⟨hI3, hb3⟩
    · conv => rw [zb_269_1]
      simp (disch := first | assumption | exact zk_269 | ((repeat (first | exact z1n | refine z1I ?_ | refine z1R ?_)); done) | exact rfl | omega | decide) only [r_aload_0, r_iconst, r_pf_646, r_lconst, r_pf_683, r_gf_640, r_ial, r_ial30, r_ial32, r_inv_2_0, r_inv_2_1, r_inv_2_2, r_inv_2_3, r_inv_2_4, r_K0, r_K1, r_inv_1_0, r_inv_1_1, r_inv_1_2, r_inv_1_3, r_inv_1_4, r_istore_1i, r_istore_1r, r_istore_1j, r_goto_w, r_iload_1, r_icmp_ge, r_istore_2i, r_istore_2r, r_istore_2j, r_iload_2, r_inv_3_0, r_inv_3_1, r_inv_3_2, r_inv_3_3, r_inv_3_4, r_iinc_2i, r_iinc_2r, r_iinc_2j, r_goto, r_gf_675, r_iinc_1i, r_iinc_1r, r_iinc_1j, r_gf_645, r_gf_643, r_gf_683, r_lreturn, r_lretI, w0, wn, ↓reduceIte, not_true_eq_false, not_false_eq_true, Int.reduceEq, Int.reduceLE, Int.reduceLT, Int.reduceAdd, Int.reduceNeg, Int.reduceMul, Int.reduceSub, Int.reduceToNat]
      rw [if_neg (by omega)]
      exact key
    · rintro w V4 a0 a1 ⟨hI4, hb4⟩ ih4
      obtain ⟨hM4, hC4⟩ := k1 hI4
      have htr := zTell_rng hW k0 k1' a0 (by omega : w ≤ 10)
      have hva := fun K => m_value (Q := K) (d := d) (by omega) hM4 hC4 hW k0 k1' a0 (by omega : w ≤ 10)
      have mx := fun K => m_mix (Q := K) (d := d) (by omega) hM4 hI4.2 (x := zTell σ.r k w) (by omega) (by omega)
      rw [zfo_s a0] at ih4
      have := ih4 _ ⟨hI4.mix, fun y y0 y1 => by rw [zput_r (by omega)]; exact hb4 y y0 y1⟩
      conv => rw [zb_269_2]
      simp (disch := first | assumption | exact zk_269 | ((repeat (first | exact z1n | refine z1I ?_ | refine z1R ?_)); done) | exact rfl | omega | decide) only [r_aload_0, r_iconst, r_pf_646, r_lconst, r_pf_683, r_gf_640, r_ial, r_ial30, r_ial32, r_inv_2_0, r_inv_2_1, r_inv_2_2, r_inv_2_3, r_inv_2_4, r_K0, r_K1, r_inv_1_0, r_inv_1_1, r_inv_1_2, r_inv_1_3, r_inv_1_4, r_istore_1i, r_istore_1r, r_istore_1j, r_goto_w, r_iload_1, r_icmp_ge, r_istore_2i, r_istore_2r, r_istore_2j, r_iload_2, r_inv_3_0, r_inv_3_1, r_inv_3_2, r_inv_3_3, r_inv_3_4, r_iinc_2i, r_iinc_2r, r_iinc_2j, r_goto, r_gf_675, r_iinc_1i, r_iinc_1r, r_iinc_1j, r_gf_645, r_gf_643, r_gf_683, r_lreturn, r_lretI, hva, mx, ↓reduceIte, not_true_eq_false, not_false_eq_true, Int.reduceEq, Int.reduceLE, Int.reduceLT, Int.reduceAdd, Int.reduceNeg, Int.reduceMul, Int.reduceSub, Int.reduceToNat]
      rw [if_neg (by omega)]
      exact this
    · rintro V4 ⟨hI4, hb4⟩
      obtain ⟨hM4, hC4⟩ := k1 hI4
      have v8 : V4 164 35 = .ref 186 := (hM4.2 21 (by decide)).1
      have t8 : s.tg 186 = 20 := (hM4.2 21 (by decide)).2.1
      have l8 : s.ln 186 = 12 := (hM4.2 21 (by decide)).2.2
      have ev := hb4 k k0 k1'
      have mx := fun K => m_mix (Q := K) (d := d) (by omega) hM4 hI4.2 (x := zBnd σ.r k) (by omega) (by omega)
      have := ih _ ⟨hI4.mix, fun y y0 y1 => by rw [zput_r (by omega)]; exact hb4 y y0 y1⟩ (zi 11)
      simp (disch := first | assumption | exact zk_269 | ((repeat (first | exact z1n | refine z1I ?_ | refine z1R ?_)); done) | exact rfl | omega | decide) only [zb_269_2, zb_269_3, r_aload_0, r_iconst, r_pf_646, r_lconst, r_pf_683, r_gf_640, r_ial, r_ial30, r_ial32, r_inv_2_0, r_inv_2_1, r_inv_2_2, r_inv_2_3, r_inv_2_4, r_K0, r_K1, r_inv_1_0, r_inv_1_1, r_inv_1_2, r_inv_1_3, r_inv_1_4, r_istore_1i, r_istore_1r, r_istore_1j, r_goto_w, r_iload_1, r_icmp_ge, r_istore_2i, r_istore_2r, r_istore_2j, r_iload_2, r_inv_3_0, r_inv_3_1, r_inv_3_2, r_inv_3_3, r_inv_3_4, r_iinc_2i, r_iinc_2r, r_iinc_2j, r_goto, r_gf_675, r_iinc_1i, r_iinc_1r, r_iinc_1j, r_gf_645, r_gf_643, r_gf_683, r_lreturn, r_lretI, v8, ev, mx, ↓reduceIte, not_true_eq_false, not_false_eq_true, Int.reduceEq, Int.reduceLE, Int.reduceLT, Int.reduceAdd, Int.reduceNeg, Int.reduceMul, Int.reduceSub, Int.reduceToNat]
      exact this
  · rintro V3 ⟨hI3, hb3⟩ w2
    have e1 : zfo (zdgS σ.r) (57381 + σ.r.n) σ.r.n = zdg1 σ.r := rfl
    rw [e1] at hI3
    obtain ⟨hM3, hC3⟩ := k1 hI3
    have w0 : V3 164 0 = .ref 165 := (hM3.2 0 (by decide)).1
    have wn := hC3.1
    have wc := hC3.2.1
    have mx := fun K => m_mix (Q := K) (d := d) (by omega) hM3 hI3.2 (x := σ.r.c) (by omega) (by omega)
    have hI4 := hI3.mix (x := 31 * zdg1 σ.r + σ.r.c)
    have l2 := z_iter (i := 0) (n := σ.r.c) (I := fun k (u : zV) => zDgI σ s V u (zfo (zdgK σ.r) (31 * zdg1 σ.r + σ.r.c) k)) (P := fun k u => ∀ w2, zwp (zcall d) 269 Q (zB 269 5) [.ref 164, zi k, w2] [] (s, u)) c0
    have key := l2 ?_ ?_ _ hI4 w2
    · simp (disch := first | assumption | exact zk_269 | ((repeat (first | exact z1n | refine z1I ?_ | refine z1R ?_)); done) | exact rfl | omega | decide) only [zb_269_1, zb_269_4, r_aload_0, r_iconst, r_pf_646, r_lconst, r_pf_683, r_gf_640, r_ial, r_ial30, r_ial32, r_inv_2_0, r_inv_2_1, r_inv_2_2, r_inv_2_3, r_inv_2_4, r_K0, r_K1, r_inv_1_0, r_inv_1_1, r_inv_1_2, r_inv_1_3, r_inv_1_4, r_istore_1i, r_istore_1r, r_istore_1j, r_goto_w, r_iload_1, r_icmp_ge, r_istore_2i, r_istore_2r, r_istore_2j, r_iload_2, r_inv_3_0, r_inv_3_1, r_inv_3_2, r_inv_3_3, r_inv_3_4, r_iinc_2i, r_iinc_2r, r_iinc_2j, r_goto, r_gf_675, r_iinc_1i, r_iinc_1r, r_iinc_1j, r_gf_645, r_gf_643, r_gf_683, r_lreturn, r_lretI, w0, wn, wc, mx, Int.le_refl, ↓reduceIte, not_true_eq_false, not_false_eq_true, Int.reduceEq, Int.reduceLE, Int.reduceLT, Int.reduceAdd, Int.reduceNeg, Int.reduceMul, Int.reduceSub, Int.reduceToNat]
      exact key
    · rintro k V4 k0 k1' hI4 ih w2
      obtain ⟨hM4, hC4⟩ := k1 hI4
      have w0 : V4 164 0 = .ref 165 := (hM4.2 0 (by decide)).1
      have wc := hC4.2.1
      rw [zfo_s k0] at ih
      generalize zfo (zdgK σ.r) (31 * zdg1 σ.r + σ.r.c) k = H at hI4 ih
      unfold zdgK at ih
      have l3 := z_iter (i := 0) (n := 6) (I := fun w (u : zV) => zDgI σ s V u (zfo (fun w h => 31 * h + zTelK σ.r k w) H w)) (P := fun w u => zwp (zcall d) 269 Q (zB 269 6) [.ref 164, zi k, zi w] [] (s, u)) (by omega)
      have key := l3 ?_ ?_ V4 hI4
      · conv => rw [zb_269_5]
        simp (disch := first | assumption | exact zk_269 | ((repeat (first | exact z1n | refine z1I ?_ | refine z1R ?_)); done) | exact rfl | omega | decide) only [r_aload_0, r_iconst, r_pf_646, r_lconst, r_pf_683, r_gf_640, r_ial, r_ial30, r_ial32, r_inv_2_0, r_inv_2_1, r_inv_2_2, r_inv_2_3, r_inv_2_4, r_K0, r_K1, r_inv_1_0, r_inv_1_1, r_inv_1_2, r_inv_1_3, r_inv_1_4, r_istore_1i, r_istore_1r, r_istore_1j, r_goto_w, r_iload_1, r_icmp_ge, r_istore_2i, r_istore_2r, r_istore_2j, r_iload_2, r_inv_3_0, r_inv_3_1, r_inv_3_2, r_inv_3_3, r_inv_3_4, r_iinc_2i, r_iinc_2r, r_iinc_2j, r_goto, r_gf_675, r_iinc_1i, r_iinc_1r, r_iinc_1j, r_gf_645, r_gf_643, r_gf_683, r_lreturn, r_lretI, w0, wc, ↓reduceIte, not_true_eq_false, not_false_eq_true, Int.reduceEq, Int.reduceLE, Int.reduceLT, Int.reduceAdd, Int.reduceNeg, Int.reduceMul, Int.reduceSub, Int.reduceToNat]
        rw [if_neg (by omega)]
        exact key
      · rintro w V5 a0 a1 hI5 ih5
        obtain ⟨hM5, hC5⟩ := k1 hI5
        have htr := zTelK_rng hW k0 k1' a0 (by omega : w ≤ 5)
        have hva := fun K => m_callValue (Q := K) (d := d) (by omega) hM5 hC5 hW k0 k1' a0 (by omega : w ≤ 5)
        have mx := fun K => m_mix (Q := K) (d := d) (by omega) hM5 hI5.2 (x := zTelK σ.r k w) (by omega) (by omega)
        rw [zfo_s a0] at ih5
        have := ih5 _ hI5.mix
        conv => rw [zb_269_6]
        simp (disch := first | assumption | exact zk_269 | ((repeat (first | exact z1n | refine z1I ?_ | refine z1R ?_)); done) | exact rfl | omega | decide) only [r_aload_0, r_iconst, r_pf_646, r_lconst, r_pf_683, r_gf_640, r_ial, r_ial30, r_ial32, r_inv_2_0, r_inv_2_1, r_inv_2_2, r_inv_2_3, r_inv_2_4, r_K0, r_K1, r_inv_1_0, r_inv_1_1, r_inv_1_2, r_inv_1_3, r_inv_1_4, r_istore_1i, r_istore_1r, r_istore_1j, r_goto_w, r_iload_1, r_icmp_ge, r_istore_2i, r_istore_2r, r_istore_2j, r_iload_2, r_inv_3_0, r_inv_3_1, r_inv_3_2, r_inv_3_3, r_inv_3_4, r_iinc_2i, r_iinc_2r, r_iinc_2j, r_goto, r_gf_675, r_iinc_1i, r_iinc_1r, r_iinc_1j, r_gf_645, r_gf_643, r_gf_683, r_lreturn, r_lretI, hva, mx, ↓reduceIte, not_true_eq_false, not_false_eq_true, Int.reduceEq, Int.reduceLE, Int.reduceLT, Int.reduceAdd, Int.reduceNeg, Int.reduceMul, Int.reduceSub, Int.reduceToNat]
        rw [if_neg (by omega)]
        exact this
      · rintro V5 hI5
        have := ih V5 hI5 (zi 6)
        simp (disch := first | assumption | exact zk_269 | ((repeat (first | exact z1n | refine z1I ?_ | refine z1R ?_)); done) | exact rfl | omega | decide) only [zb_269_6, zb_269_7, r_aload_0, r_iconst, r_pf_646, r_lconst, r_pf_683, r_gf_640, r_ial, r_ial30, r_ial32, r_inv_2_0, r_inv_2_1, r_inv_2_2, r_inv_2_3, r_inv_2_4, r_K0, r_K1, r_inv_1_0, r_inv_1_1, r_inv_1_2, r_inv_1_3, r_inv_1_4, r_istore_1i, r_istore_1r, r_istore_1j, r_goto_w, r_iload_1, r_icmp_ge, r_istore_2i, r_istore_2r, r_istore_2j, r_iload_2, r_inv_3_0, r_inv_3_1, r_inv_3_2, r_inv_3_3, r_inv_3_4, r_iinc_2i, r_iinc_2r, r_iinc_2j, r_goto, r_gf_675, r_iinc_1i, r_iinc_1r, r_iinc_1j, r_gf_645, r_gf_643, r_gf_683, r_lreturn, r_lretI, ↓reduceIte, not_true_eq_false, not_false_eq_true, Int.reduceEq, Int.reduceLE, Int.reduceLT, Int.reduceAdd, Int.reduceNeg, Int.reduceMul, Int.reduceSub, Int.reduceToNat]
        exact this
    · rintro V4 hI4 w2
      have e2 : zfo (zdgK σ.r) (31 * zdg1 σ.r + σ.r.c) σ.r.c = zdg2 σ.r := rfl
      rw [e2] at hI4
      obtain ⟨hM4, hC4⟩ := k1 hI4
      have w0 : V4 164 0 = .ref 165 := (hM4.2 0 (by decide)).1
      have wc := hC4.2.1
      have hur := zUns_rng hW
      have hdr := zDown_lt hW
      have hqr := (zQR_ok hW (c := 2) (by omega)).1
      have hyr := zYr_rng hW 4096 0 (by omega) (by omega) (fun x _ _ h => by rw [zin_zero] at h; cases h)
      obtain ⟨⟨m0, m1⟩, -⟩ := ho.2.2.2.1
      have h0' := h0
      unfold zdg at h0'
      simp (disch := first | assumption | exact zk_269 | ((repeat (first | exact z1n | refine z1I ?_ | refine z1R ?_)); done) | exact rfl | omega | decide) only [zb_269_5, zb_269_8, r_aload_0, r_iconst, r_pf_646, r_lconst, r_pf_683, r_gf_640, r_ial, r_ial30, r_ial32, r_inv_2_0, r_inv_2_1, r_inv_2_2, r_inv_2_3, r_inv_2_4, r_K0, r_K1, r_inv_1_0, r_inv_1_1, r_inv_1_2, r_inv_1_3, r_inv_1_4, r_istore_1i, r_istore_1r, r_istore_1j, r_goto_w, r_iload_1, r_icmp_ge, r_istore_2i, r_istore_2r, r_istore_2j, r_iload_2, r_inv_3_0, r_inv_3_1, r_inv_3_2, r_inv_3_3, r_inv_3_4, r_iinc_2i, r_iinc_2r, r_iinc_2j, r_goto, r_gf_675, r_iinc_1i, r_iinc_1r, r_iinc_1j, r_gf_645, r_gf_643, r_gf_683, r_lreturn, r_lretI, w0, wc, Int.le_refl, ↓reduceIte, not_true_eq_false, not_false_eq_true, Int.reduceEq, Int.reduceLE, Int.reduceLT, Int.reduceAdd, Int.reduceNeg, Int.reduceMul, Int.reduceSub, Int.reduceToNat]
      refine m_unsoundMany (by omega) hM4 hC4 hW (fun V5 f5 _ => ?_)
      have hI5 : zDgI σ s V V5 (zdg2 σ.r) := ⟨hI4.1.tr (f5.mono (by decide) (by decide)), by rw [f5.2 43 (by simp)]; exact hI4.2⟩
      obtain ⟨hM5, hC5⟩ := k1 hI5
      generalize zdg2 σ.r = G at hI5 h0'
      generalize zUns σ.r = U at hur h0'
      have mx5 := fun K => m_mix (Q := K) (d := d) (by omega) hM5 hI5.2 (x := U) (by omega) (by omega)
      have hI6 := hI5.mix (x := 31 * G + U)
      obtain ⟨hM6, hC6⟩ := k1 hI6
      have hdo := fun K => m_downs (Q := K) (d := d) (by omega) hM6 hC6 hW
      have mx6 := fun K => m_mix (Q := K) (d := d) (by omega) hM6 hI6.2 (x := (zDown σ.r : Nat)) (by omega) (by omega)
      have hI7 := hI6.mix (x := 31 * (31 * G + U) + (zDown σ.r : Nat))
      obtain ⟨hM7, hC7⟩ := k1 hI7
      simp (disch := first | assumption | exact zk_269 | ((repeat (first | exact z1n | refine z1I ?_ | refine z1R ?_)); done) | exact rfl | omega | decide) only [r_aload_0, r_iconst, r_pf_646, r_lconst, r_pf_683, r_gf_640, r_ial, r_ial30, r_ial32, r_inv_2_0, r_inv_2_1, r_inv_2_2, r_inv_2_3, r_inv_2_4, r_K0, r_K1, r_inv_1_0, r_inv_1_1, r_inv_1_2, r_inv_1_3, r_inv_1_4, r_istore_1i, r_istore_1r, r_istore_1j, r_goto_w, r_iload_1, r_icmp_ge, r_istore_2i, r_istore_2r, r_istore_2j, r_iload_2, r_inv_3_0, r_inv_3_1, r_inv_3_2, r_inv_3_3, r_inv_3_4, r_iinc_2i, r_iinc_2r, r_iinc_2j, r_goto, r_gf_675, r_iinc_1i, r_iinc_1r, r_iinc_1j, r_gf_645, r_gf_643, r_gf_683, r_lreturn, r_lretI, mx5, hdo, mx6, ↓reduceIte, not_true_eq_false, not_false_eq_true, Int.reduceEq, Int.reduceLE, Int.reduceLT, Int.reduceAdd, Int.reduceNeg, Int.reduceMul, Int.reduceSub, Int.reduceToNat]
      refine m_recovers (by omega) hM7 hC7 hW (by omega) (by omega) (fun V8 f8 _ => ?_)
      have hI8 : zDgI σ s V V8 _ := ⟨hI7.1.tr (f8.mono (by decide) (by decide)), by rw [f8.2 43 (by simp)]; exact hI7.2⟩
      obtain ⟨hM8, hC8⟩ := k1 hI8
      generalize (zQR σ.r 2).1 = W at hqr h0'
      have mx8 := fun K => m_mix (Q := K) (d := d) (by omega) hM8 hI8.2 (x := W) (by omega) (by omega)
      have hI9 := hI8.mix (x := 31 * (31 * (31 * G + U) + (zDown σ.r : Nat)) + W)
      obtain ⟨hM9, hC9⟩ := k1 hI9
      simp (disch := first | assumption | exact zk_269 | ((repeat (first | exact z1n | refine z1I ?_ | refine z1R ?_)); done) | exact rfl | omega | decide) only [r_aload_0, r_iconst, r_pf_646, r_lconst, r_pf_683, r_gf_640, r_ial, r_ial30, r_ial32, r_inv_2_0, r_inv_2_1, r_inv_2_2, r_inv_2_3, r_inv_2_4, r_K0, r_K1, r_inv_1_0, r_inv_1_1, r_inv_1_2, r_inv_1_3, r_inv_1_4, r_istore_1i, r_istore_1r, r_istore_1j, r_goto_w, r_iload_1, r_icmp_ge, r_istore_2i, r_istore_2r, r_istore_2j, r_iload_2, r_inv_3_0, r_inv_3_1, r_inv_3_2, r_inv_3_3, r_inv_3_4, r_iinc_2i, r_iinc_2r, r_iinc_2j, r_goto, r_gf_675, r_iinc_1i, r_iinc_1r, r_iinc_1j, r_gf_645, r_gf_643, r_gf_683, r_lreturn, r_lretI, mx8, ↓reduceIte, not_true_eq_false, not_false_eq_true, Int.reduceEq, Int.reduceLE, Int.reduceLT, Int.reduceAdd, Int.reduceNeg, Int.reduceMul, Int.reduceSub, Int.reduceToNat]
      refine m_laysBest (by omega) hM9 hC9 hW (fun V10 f10 _ _ => ?_)
      have hI10 : zDgI σ s V V10 _ := ⟨hI9.1.tr (f10.mono (by decide) (by decide)), by rw [f10.2 43 (by simp)]; exact hI9.2⟩
      obtain ⟨hM10, hC10⟩ := k1 hI10
      generalize zYr σ.r 0 = Y at hyr h0'
      have mx10 := fun K => m_mix (Q := K) (d := d) (by omega) hM10 hI10.2 (x := Y) (by omega) (by omega)
      have hI11 := hI10.mix (x := 31 * (31 * (31 * (31 * G + U) + (zDown σ.r : Nat)) + W) + Y)
      obtain ⟨hM11, hC11⟩ := k1 hI11
      have v5 := (hI11.1.2 5 (by simp)).trans hX.1
      have mx11 := fun K => m_mix (Q := K) (d := d) (by omega) hM11 hI11.2 (x := σ.m) (by omega) (by omega)
      have hI12 := hI11.mix (x := 31 * (31 * (31 * (31 * (31 * G + U) + (zDown σ.r : Nat)) + W) + Y) + σ.m)
      obtain ⟨hM12, hC12⟩ := k1 hI12
      have v3 := (hI12.1.2 3 (by simp)).trans hPa.1
      have mx12 := fun K => m_mix (Q := K) (d := d) (by omega) hM12 hI12.2 (x := σ.p) (by omega) (by omega)
      have hI13 := hI12.mix (x := 31 * (31 * (31 * (31 * (31 * (31 * G + U) + (zDown σ.r : Nat)) + W) + Y) + σ.m) + σ.p)
      obtain ⟨y1, y2⟩ := hm.q hI13.1 (by decide) (by decide)
      have := h0' _ y1 y2
      have v43 := hI13.2
      have tM10 := hM10.1
      simp (disch := first | assumption | exact zk_269 | ((repeat (first | exact z1n | refine z1I ?_ | refine z1R ?_)); done) | exact rfl | omega | decide) only [r_aload_0, r_iconst, r_pf_646, r_lconst, r_pf_683, r_gf_640, r_ial, r_ial30, r_ial32, r_inv_2_0, r_inv_2_1, r_inv_2_2, r_inv_2_3, r_inv_2_4, r_K0, r_K1, r_inv_1_0, r_inv_1_1, r_inv_1_2, r_inv_1_3, r_inv_1_4, r_istore_1i, r_istore_1r, r_istore_1j, r_goto_w, r_iload_1, r_icmp_ge, r_istore_2i, r_istore_2r, r_istore_2j, r_iload_2, r_inv_3_0, r_inv_3_1, r_inv_3_2, r_inv_3_3, r_inv_3_4, r_iinc_2i, r_iinc_2r, r_iinc_2j, r_goto, r_gf_675, r_iinc_1i, r_iinc_1r, r_iinc_1j, r_gf_645, r_gf_643, r_gf_683, r_lreturn, r_lretI, mx10, v5, mx11, v3, mx12, v43, ↓reduceIte, not_true_eq_false, not_false_eq_true, Int.reduceEq, Int.reduceLE, Int.reduceLT, Int.reduceAdd, Int.reduceNeg, Int.reduceMul, Int.reduceSub, Int.reduceToNat]
      exact this
end
