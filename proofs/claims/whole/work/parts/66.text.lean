/-! TEXT, 6: execute, in the model -/
section
variable {d : Nat} {s : zS} {V : zV} {Q : zO → zH → Prop} {ρ : zR} {h : zH} {T : Int → Int} {n p : Int} {H : Nat → zR}
set_option maxRecDepth 20000 in
theorem m_execute (hd : 9 ≤ d) (hM : zMP s V) (hC : zMC ρ V) (hI : zInts V 165 230) (hW : zWF ρ) (hP : zPaC p H V) (p0 : 0 ≤ p) (p1 : p ≤ 4) (hH : ∀ k : Nat, (k : Int) < p → (H k).n ≤ 12 ∧ (H k).c ≤ 24) (hX : zMx T n V) (hk : zTok2 T n) {X : Int} (hx : zXis T n ρ X)
    (hQ : ∀ V', zFm [165, 166, 167, 169, 190] [3, 6, 9, 40, 41] V V' → zMC (zXst T n X ρ) V' → zInts V' 165 230 → zPaC (zXp T n X p) (zXh T n X p H ρ) V' → Q (.inl (some (zi (zXr T n X)))) (s, V')) : zcall d 266 [.ref 164] (s, V) Q := by
  obtain ⟨n0, n1⟩ := hk.1
  obtain ⟨w0, w1, wc0, wc1⟩ := hW.1
  obtain ⟨m0, m1, m2⟩ := zPm_rng (T := T) n0 n1
  obtain ⟨⟨x0, x1⟩, xo, xn⟩ := id hx
  have tM := hM.1
  obtain ⟨d, rfl⟩ : ∃ e, d = e + 1 := ⟨d - 1, by omega⟩
  rw [zc_266 tM]
  simp (disch := first | assumption | exact zk_266 | ((repeat (first | exact z1n | refine z1I ?_ | refine z1R ?_)); done) | exact rfl | omega | decide) only [zb_266_0, r_aload_0, r_iconst, r_pf_646, r_pf_680, r_goto_w, r_gf_680, r_gf_645, r_icmp_ge, r_inv_1_0, r_inv_1_1, r_inv_1_2, r_inv_1_3, r_inv_1_4, r_K0, r_K1, r_if_ne, r_isub, r_iret, r_bret_0, r_bret_1, r_istore_1i, r_istore_1r, r_istore_1j, r_if_eq, r_goto, r_istore_2i, r_istore_2r, r_istore_2j, r_iload_2, r_iload_1, r_iinc_1i, r_iinc_1r, r_iinc_1j, r_inv_2_0, r_inv_2_1, r_inv_2_2, r_inv_2_3, r_inv_2_4, ↓reduceIte, not_true_eq_false, not_false_eq_true, Int.reduceEq, Int.reduceLE, Int.reduceLT, Int.reduceAdd, Int.reduceNeg, Int.reduceMul, Int.reduceSub, Int.reduceToNat]
  have hlp := z_iter (i := 0) (n := zPm T n) (I := fun c (q : zV) => zFm [190] [6, 40, 41] V q ∧ q 164 40 = zi (zPp T n c.toNat)) (P := fun c q => zwp (zcall d) 266 Q (zB 266 1) [.ref 164, zJ, zJ] [] (s, q)) m0
  refine hlp ?_ ?_ _ ⟨(zFm.rf.pf (by simp)).pf (by simp), zput_at⟩
  · rintro c V1 c0 c1 ⟨f1, e1⟩ ih
    obtain ⟨w, rfl⟩ : ∃ w : Nat, c = w := ⟨c.toNat, by omega⟩
    rw [Int.toNat_natCast] at e1
    rw [show ((w : Int) + 1).toNat = w + 1 by omega] at ih
    obtain ⟨g1, g2⟩ := zPm_g (T := T) (n := n) (c := w) (by omega)
    obtain ⟨g3, g4⟩ := zPp_rng (T := T) n0 w (by omega)
    have hM1 := hM.fm f1 (by decide)
    have hX1 := hX.fm f1 (by decide) (by decide)
    have u1 := hX1.1
    conv => rw [zb_266_1]
    simp (disch := first | assumption | exact zk_266 | ((repeat (first | exact z1n | refine z1I ?_ | refine z1R ?_)); done) | exact rfl | omega | decide) only [r_aload_0, r_iconst, r_pf_646, r_pf_680, r_goto_w, r_gf_680, r_gf_645, r_icmp_ge, r_inv_1_0, r_inv_1_1, r_inv_1_2, r_inv_1_3, r_inv_1_4, r_K0, r_K1, r_if_ne, r_isub, r_iret, r_bret_0, r_bret_1, r_istore_1i, r_istore_1r, r_istore_1j, r_if_eq, r_goto, r_istore_2i, r_istore_2r, r_istore_2j, r_iload_2, r_iload_1, r_iinc_1i, r_iinc_1r, r_iinc_1j, r_inv_2_0, r_inv_2_1, r_inv_2_2, r_inv_2_3, r_inv_2_4, e1, u1, ↓reduceIte, not_true_eq_false, not_false_eq_true, Int.reduceEq, Int.reduceLE, Int.reduceLT, Int.reduceAdd, Int.reduceNeg, Int.reduceMul, Int.reduceSub, Int.reduceToNat]
    rw [if_neg (by omega)]
    refine m_isCommand (by omega) hM1 hX1 hk e1 (by omega) g1 (fun V2 f2 e2 k2 => ?_)
    rw [g2, show zb1 true = 1 from rfl]
    have := ih V2 ⟨f1.tr (f2.mono (fun _ h => h) (by decide)), e2⟩
    simp (disch := first | assumption | exact zk_266 | ((repeat (first | exact z1n | refine z1I ?_ | refine z1R ?_)); done) | exact rfl | omega | decide) only [r_aload_0, r_iconst, r_pf_646, r_pf_680, r_goto_w, r_gf_680, r_gf_645, r_icmp_ge, r_inv_1_0, r_inv_1_1, r_inv_1_2, r_inv_1_3, r_inv_1_4, r_K0, r_K1, r_if_ne, r_isub, r_iret, r_bret_0, r_bret_1, r_istore_1i, r_istore_1r, r_istore_1j, r_if_eq, r_goto, r_istore_2i, r_istore_2r, r_istore_2j, r_iload_2, r_iload_1, r_iinc_1i, r_iinc_1r, r_iinc_1j, r_inv_2_0, r_inv_2_1, r_inv_2_2, r_inv_2_3, r_inv_2_4, ↓reduceIte, not_true_eq_false, not_false_eq_true, Int.reduceEq, Int.reduceLE, Int.reduceLT, Int.reduceAdd, Int.reduceNeg, Int.reduceMul, Int.reduceSub, Int.reduceToNat]
    exact this
  · rintro V1 ⟨f1, e1⟩
    obtain ⟨g3, g4⟩ := zPp_rng (T := T) n0 (zPm T n).toNat (by omega)
    have hM1 := hM.fm f1 (by decide)
    have hX1 := hX.fm f1 (by decide) (by decide)
    have u1 := hX1.1
    by_cases hb : zPp T n (zPm T n).toNat < n
    · have hr : zXr T n X = -10 - (zCm T n (zPp T n (zPm T n).toNat)).1 := by unfold zXr; rw [if_pos hb]
      have ha : zXa T n X = false := by unfold zXa; rw [decide_eq_true hb]; rfl
      obtain ⟨m3, m4⟩ := m2 hb
      have hq2 := zCm_rng (T := T) hb
      conv => rw [zb_266_1]
      simp (disch := first | assumption | exact zk_266 | ((repeat (first | exact z1n | refine z1I ?_ | refine z1R ?_)); done) | exact rfl | omega | decide) only [r_aload_0, r_iconst, r_pf_646, r_pf_680, r_goto_w, r_gf_680, r_gf_645, r_icmp_ge, r_inv_1_0, r_inv_1_1, r_inv_1_2, r_inv_1_3, r_inv_1_4, r_K0, r_K1, r_if_ne, r_isub, r_iret, r_bret_0, r_bret_1, r_istore_1i, r_istore_1r, r_istore_1j, r_if_eq, r_goto, r_istore_2i, r_istore_2r, r_istore_2j, r_iload_2, r_iload_1, r_iinc_1i, r_iinc_1r, r_iinc_1j, r_inv_2_0, r_inv_2_1, r_inv_2_2, r_inv_2_3, r_inv_2_4, e1, u1, ↓reduceIte, not_true_eq_false, not_false_eq_true, Int.reduceEq, Int.reduceLE, Int.reduceLT, Int.reduceAdd, Int.reduceNeg, Int.reduceMul, Int.reduceSub, Int.reduceToNat]
      rw [if_neg (by omega)]
      refine m_isCommand (by omega) hM1 hX1 hk e1 (by omega) hb (fun V2 f2 e2 k2 => ?_)
      have F2 : zFm [190] [6, 40, 41] V V2 := f1.tr (f2.mono (fun _ h => h) (by decide))
      have := hQ V2 (F2.mono (by decide) (by decide)) (by unfold zXst; rw [ha, if_neg Bool.false_ne_true]; exact hC.fm F2 (by decide)) (hI.fm F2 (by decide) (by decide)) (by unfold zXp zXh; rw [ha, if_neg Bool.false_ne_true, if_neg Bool.false_ne_true]; exact hP.fm hH F2 (by decide) (by decide))
      rw [m4, show zb1 false = 0 from rfl]
      rw [hr] at this
      simp (disch := first | assumption | exact zk_266 | ((repeat (first | exact z1n | refine z1I ?_ | refine z1R ?_)); done) | exact rfl | omega | decide) only [r_aload_0, r_iconst, r_pf_646, r_pf_680, r_goto_w, r_gf_680, r_gf_645, r_icmp_ge, r_inv_1_0, r_inv_1_1, r_inv_1_2, r_inv_1_3, r_inv_1_4, r_K0, r_K1, r_if_ne, r_isub, r_iret, r_bret_0, r_bret_1, r_istore_1i, r_istore_1r, r_istore_1j, r_if_eq, r_goto, r_istore_2i, r_istore_2r, r_istore_2j, r_iload_2, r_iload_1, r_iinc_1i, r_iinc_1r, r_iinc_1j, r_inv_2_0, r_inv_2_1, r_inv_2_2, r_inv_2_3, r_inv_2_4, e2, ↓reduceIte, not_true_eq_false, not_false_eq_true, Int.reduceEq, Int.reduceLE, Int.reduceLT, Int.reduceAdd, Int.reduceNeg, Int.reduceMul, Int.reduceSub, Int.reduceToNat]
      exact this
    · have hr2 : zXr T n X = if X < zPm T n then -1000 - X else zPm T n := by unfold zXr; rw [if_neg hb]
      have hI1 := hI.fm f1 (by decide) (by decide)
      have hC1 := hC.fm f1 (by decide)
      rw [hr2] at hQ
      conv => rw [zb_266_1]
      simp (disch := first | assumption | exact zk_266 | ((repeat (first | exact z1n | refine z1I ?_ | refine z1R ?_)); done) | exact rfl | omega | decide) only [r_aload_0, r_iconst, r_pf_646, r_pf_680, r_goto_w, r_gf_680, r_gf_645, r_icmp_ge, r_inv_1_0, r_inv_1_1, r_inv_1_2, r_inv_1_3, r_inv_1_4, r_K0, r_K1, r_if_ne, r_isub, r_iret, r_bret_0, r_bret_1, r_istore_1i, r_istore_1r, r_istore_1j, r_if_eq, r_goto, r_istore_2i, r_istore_2r, r_istore_2j, r_iload_2, r_iload_1, r_iinc_1i, r_iinc_1r, r_iinc_1j, r_inv_2_0, r_inv_2_1, r_inv_2_2, r_inv_2_3, r_inv_2_4, e1, u1, ↓reduceIte, not_true_eq_false, not_false_eq_true, Int.reduceEq, Int.reduceLE, Int.reduceLT, Int.reduceAdd, Int.reduceNeg, Int.reduceMul, Int.reduceSub, Int.reduceToNat]
      rw [if_pos (by omega)]
      simp (disch := first | assumption | exact zk_266 | ((repeat (first | exact z1n | refine z1I ?_ | refine z1R ?_)); done) | exact rfl | omega | decide) only [zb_266_2, r_aload_0, r_iconst, r_pf_646, r_pf_680, r_goto_w, r_gf_680, r_gf_645, r_icmp_ge, r_inv_1_0, r_inv_1_1, r_inv_1_2, r_inv_1_3, r_inv_1_4, r_K0, r_K1, r_if_ne, r_isub, r_iret, r_bret_0, r_bret_1, r_istore_1i, r_istore_1r, r_istore_1j, r_if_eq, r_goto, r_istore_2i, r_istore_2r, r_istore_2j, r_iload_2, r_iload_1, r_iinc_1i, r_iinc_1r, r_iinc_1j, r_inv_2_0, r_inv_2_1, r_inv_2_2, r_inv_2_3, r_inv_2_4, ↓reduceIte, not_true_eq_false, not_false_eq_true, Int.reduceEq, Int.reduceLE, Int.reduceLT, Int.reduceAdd, Int.reduceNeg, Int.reduceMul, Int.reduceSub, Int.reduceToNat]
      refine m_hold (by omega) hM1 hI1 (fun V2 f2 a2 => ?_)
      simp (disch := first | assumption | exact zk_266 | ((repeat (first | exact z1n | refine z1I ?_ | refine z1R ?_)); done) | exact rfl | omega | decide) only [r_aload_0, r_iconst, r_pf_646, r_pf_680, r_goto_w, r_gf_680, r_gf_645, r_icmp_ge, r_inv_1_0, r_inv_1_1, r_inv_1_2, r_inv_1_3, r_inv_1_4, r_K0, r_K1, r_if_ne, r_isub, r_iret, r_bret_0, r_bret_1, r_istore_1i, r_istore_1r, r_istore_1j, r_if_eq, r_goto, r_istore_2i, r_istore_2r, r_istore_2j, r_iload_2, r_iload_1, r_iinc_1i, r_iinc_1r, r_iinc_1j, r_inv_2_0, r_inv_2_1, r_inv_2_2, r_inv_2_3, r_inv_2_4, ↓reduceIte, not_true_eq_false, not_false_eq_true, Int.reduceEq, Int.reduceLE, Int.reduceLT, Int.reduceAdd, Int.reduceNeg, Int.reduceMul, Int.reduceSub, Int.reduceToNat]
      have F2 : zFm [165, 167, 169, 190] [6, 9, 40, 41] V (zput V2 164 40 (zi 0)) := ((f1.mono (by decide) (by decide)).tr (f2.mono (by decide) (by decide))).pf (by simp)
      have hC2 : zMC ρ (zput V2 164 40 (zi 0)) := (hC1.fm f2 (by decide)).fm (zFm.rf.pf (l := []) (ks := [40]) (by simp)) (by simp)
      have hI2 : zInts (zput V2 164 40 (zi 0)) 165 230 := (hI1.fm f2 (by decide) (by decide)).fm (zFm.rf.pf (l := []) (ks := [40]) (by simp)) (by decide) (by simp)
      have a7 : ∀ i, 0 ≤ i → i < 230 → zput V2 164 40 (zi 0) 167 i = V 165 i := fun i i0 i1 => by rw [zput_r (by omega), a2 i i0 i1, f1.1 165 (by decide) (by decide)]
      have hlp2 := z_iter (i := 0) (n := X) (I := fun c (q : zV × Value) => zFm [165, 167, 169, 190] [6, 9, 40, 41] V q.1 ∧ q.1 164 40 = zi (zPp T n c.toNat) ∧ zMC (zRun T n ρ c.toNat) q.1 ∧ zInts q.1 165 230 ∧ ∀ i, 0 ≤ i → i < 230 → q.1 167 i = V 165 i) (P := fun c q => zwp (zcall d) 266 Q (zB 266 3) [.ref 164, zi c, q.2] [] (s, q.1)) x0
      refine hlp2 ?_ ?_ (zput V2 164 40 (zi 0), zJ) ⟨F2, (zput_at : zput V2 164 40 (zi 0) 164 40 = zi 0), hC2, hI2, a7⟩
      · rintro c ⟨V3, x3⟩ c0 c1 ⟨f3, e3, hC3, hI3, a3⟩ ih
        obtain ⟨w, rfl⟩ : ∃ w : Nat, c = w := ⟨c.toNat, by omega⟩
        rw [Int.toNat_natCast] at e3 hC3
        rw [show ((w : Int) + 1).toNat = w + 1 by omega] at ih
        obtain ⟨g1, g2⟩ := zPm_g (T := T) (n := n) (c := w) (by omega)
        obtain ⟨g5, g6⟩ := zPp_rng (T := T) n0 w (by omega)
        have hM3 := hM.fm f3 (by decide)
        have hX3 := hX.fm f3 (by decide) (by decide)
        have u3 := hX3.1
        have hW3 := zRun_wf hW hx w (by omega)
        show zwp (zcall d) 266 Q (zB 266 3) [.ref 164, zi (w : Int), x3] [] (s, V3)
        conv => rw [zb_266_3]
        have e3 : V3 164 40 = zi (zPp T n w) := e3
        have u3 : V3 164 5 = zi n := u3
        simp (disch := first | assumption | exact zk_266 | ((repeat (first | exact z1n | refine z1I ?_ | refine z1R ?_)); done) | exact rfl | omega | decide) only [r_aload_0, r_iconst, r_pf_646, r_pf_680, r_goto_w, r_gf_680, r_gf_645, r_icmp_ge, r_inv_1_0, r_inv_1_1, r_inv_1_2, r_inv_1_3, r_inv_1_4, r_K0, r_K1, r_if_ne, r_isub, r_iret, r_bret_0, r_bret_1, r_istore_1i, r_istore_1r, r_istore_1j, r_if_eq, r_goto, r_istore_2i, r_istore_2r, r_istore_2j, r_iload_2, r_iload_1, r_iinc_1i, r_iinc_1r, r_iinc_1j, r_inv_2_0, r_inv_2_1, r_inv_2_2, r_inv_2_3, r_inv_2_4, e3, u3, ↓reduceIte, not_true_eq_false, not_false_eq_true, Int.reduceEq, Int.reduceLE, Int.reduceLT, Int.reduceAdd, Int.reduceNeg, Int.reduceMul, Int.reduceSub, Int.reduceToNat]
        rw [if_neg (by omega)]
        refine m_isCommand (by omega) hM3 hX3 hk e3 (by omega) g1 (fun V4 f4 e4 k4 => ?_)
        have hM4 := hM3.fm f4 (by decide)
        have F4 : zFm [165, 167, 169, 190] [6, 9, 40, 41] V V4 := f3.tr (f4.mono (by decide) (by decide))
        obtain ⟨k5, k6⟩ := k4 g2
        rw [g2, show zb1 true = 1 from rfl]
        simp (disch := first | assumption | exact zk_266 | ((repeat (first | exact z1n | refine z1I ?_ | refine z1R ?_)); done) | exact rfl | omega | decide) only [r_aload_0, r_iconst, r_pf_646, r_pf_680, r_goto_w, r_gf_680, r_gf_645, r_icmp_ge, r_inv_1_0, r_inv_1_1, r_inv_1_2, r_inv_1_3, r_inv_1_4, r_K0, r_K1, r_if_ne, r_isub, r_iret, r_bret_0, r_bret_1, r_istore_1i, r_istore_1r, r_istore_1j, r_if_eq, r_goto, r_istore_2i, r_istore_2r, r_istore_2j, r_iload_2, r_iload_1, r_iinc_1i, r_iinc_1r, r_iinc_1j, r_inv_2_0, r_inv_2_1, r_inv_2_2, r_inv_2_3, r_inv_2_4, ↓reduceIte, not_true_eq_false, not_false_eq_true, Int.reduceEq, Int.reduceLE, Int.reduceLT, Int.reduceAdd, Int.reduceNeg, Int.reduceMul, Int.reduceSub, Int.reduceToNat]
        refine m_does (by omega) hM4 (hC3.fm f4 (by decide)) (hI3.fm f4 (by decide) (by decide)) hW3 (zCm_num g2) k5 k6 (fun j _ => zNb_rng) (fun _ V5 f5 hC5 hI5 => ?_) (fun z => absurd (xo w c1) z)
        have F5 : zFm [165, 167, 169, 190] [6, 9, 40, 41] V V5 := F4.tr (f5.mono (by decide) (by decide))
        have := ih (V5, zi 1) ⟨F5, by show V5 164 40 = _; rw [f5.2 40 (by decide)]; exact e4, hC5, hI5, fun i i0 i1 => by show V5 167 i = _; rw [f5.1 167 (by decide) (by decide), f4.1 167 (by decide) (by decide)]; exact a3 i i0 i1⟩
        simp (disch := first | assumption | exact zk_266 | ((repeat (first | exact z1n | refine z1I ?_ | refine z1R ?_)); done) | exact rfl | omega | decide) only [zb_266_5, zb_266_6, r_aload_0, r_iconst, r_pf_646, r_pf_680, r_goto_w, r_gf_680, r_gf_645, r_icmp_ge, r_inv_1_0, r_inv_1_1, r_inv_1_2, r_inv_1_3, r_inv_1_4, r_K0, r_K1, r_if_ne, r_isub, r_iret, r_bret_0, r_bret_1, r_istore_1i, r_istore_1r, r_istore_1j, r_if_eq, r_goto, r_istore_2i, r_istore_2r, r_istore_2j, r_iload_2, r_iload_1, r_iinc_1i, r_iinc_1r, r_iinc_1j, r_inv_2_0, r_inv_2_1, r_inv_2_2, r_inv_2_3, r_inv_2_4, ↓reduceIte, not_true_eq_false, not_false_eq_true, Int.reduceEq, Int.reduceLE, Int.reduceLT, Int.reduceAdd, Int.reduceNeg, Int.reduceMul, Int.reduceSub, Int.reduceToNat]
        exact this
      · rintro ⟨V3, x3⟩ ⟨f3, e3, hC3, hI3, a3⟩
        have hM3 := hM.fm f3 (by decide)
        have hX3 := hX.fm f3 (by decide) (by decide)
        have u3 : V3 164 5 = zi n := hX3.1
        have e3 : V3 164 40 = zi (zPp T n X.toNat) := e3
        show zwp (zcall d) 266 Q (zB 266 3) [.ref 164, zi X, x3] [] (s, V3)
        have hI7 : ∀ V4 : zV, (∀ i, 0 ≤ i → i < 230 → V4 167 i = V 165 i) → zInts V4 167 230 ∧ zMCr ρ V4 167 0 := fun V4 a4 => ⟨fun i i0 i1 => by rw [a4 i i0 i1]; exact hI i i0 i1, (zMC_r.mp hC).of ⟨w1, wc1⟩ (fun i i0 i1 => by rw [Int.zero_add]; exact a4 i i0 i1)⟩
        by_cases hm : X < zPm T n
        · obtain ⟨w, rfl⟩ : ∃ w : Nat, X = w := ⟨X.toNat, by omega⟩
          rw [Int.toNat_natCast] at hC3 xn e3
          have hW3 := zRun_wf hW hx w (by omega)
          obtain ⟨g1, g2⟩ := zPm_g (T := T) (n := n) (c := w) (by omega)
          obtain ⟨g5, g6⟩ := zPp_rng (T := T) n0 w (by omega)
          have ha : zXa T n w = false := by unfold zXa; rw [decide_eq_true hm, Bool.not_true, Bool.and_false]
          rw [if_pos hm] at hQ
          conv => rw [zb_266_3]
          simp (disch := first | assumption | exact zk_266 | ((repeat (first | exact z1n | refine z1I ?_ | refine z1R ?_)); done) | exact rfl | omega | decide) only [r_aload_0, r_iconst, r_pf_646, r_pf_680, r_goto_w, r_gf_680, r_gf_645, r_icmp_ge, r_inv_1_0, r_inv_1_1, r_inv_1_2, r_inv_1_3, r_inv_1_4, r_K0, r_K1, r_if_ne, r_isub, r_iret, r_bret_0, r_bret_1, r_istore_1i, r_istore_1r, r_istore_1j, r_if_eq, r_goto, r_istore_2i, r_istore_2r, r_istore_2j, r_iload_2, r_iload_1, r_iinc_1i, r_iinc_1r, r_iinc_1j, r_inv_2_0, r_inv_2_1, r_inv_2_2, r_inv_2_3, r_inv_2_4, e3, u3, ↓reduceIte, not_true_eq_false, not_false_eq_true, Int.reduceEq, Int.reduceLE, Int.reduceLT, Int.reduceAdd, Int.reduceNeg, Int.reduceMul, Int.reduceSub, Int.reduceToNat]
          rw [if_neg (by omega)]
          refine m_isCommand (by omega) hM3 hX3 hk e3 (by omega) g1 (fun V4 f4 e4 k4 => ?_)
          have hM4 := hM3.fm f4 (by decide)
          have F4 : zFm [165, 167, 169, 190] [6, 9, 40, 41] V V4 := f3.tr (f4.mono (by decide) (by decide))
          obtain ⟨k5, k6⟩ := k4 g2
          rw [g2, show zb1 true = 1 from rfl]
          simp (disch := first | assumption | exact zk_266 | ((repeat (first | exact z1n | refine z1I ?_ | refine z1R ?_)); done) | exact rfl | omega | decide) only [r_aload_0, r_iconst, r_pf_646, r_pf_680, r_goto_w, r_gf_680, r_gf_645, r_icmp_ge, r_inv_1_0, r_inv_1_1, r_inv_1_2, r_inv_1_3, r_inv_1_4, r_K0, r_K1, r_if_ne, r_isub, r_iret, r_bret_0, r_bret_1, r_istore_1i, r_istore_1r, r_istore_1j, r_if_eq, r_goto, r_istore_2i, r_istore_2r, r_istore_2j, r_iload_2, r_iload_1, r_iinc_1i, r_iinc_1r, r_iinc_1j, r_inv_2_0, r_inv_2_1, r_inv_2_2, r_inv_2_3, r_inv_2_4, ↓reduceIte, not_true_eq_false, not_false_eq_true, Int.reduceEq, Int.reduceLE, Int.reduceLT, Int.reduceAdd, Int.reduceNeg, Int.reduceMul, Int.reduceSub, Int.reduceToNat]
          refine m_does (by omega) hM4 (hC3.fm f4 (by decide)) (hI3.fm f4 (by decide) (by decide)) hW3 (zCm_num g2) k5 k6 (fun j _ => zNb_rng) (fun z => absurd z (xn hm)) (fun _ V5 f5 e q1 q2 => ?_)
          have F5 : zFm [165, 167, 169, 190] [6, 9, 40, 41] V V5 := F4.tr (f5.mono (by decide) (by decide))
          have hM5 := hM4.fm f5 (by decide)
          have a5 : ∀ i, 0 ≤ i → i < 230 → V5 167 i = V 165 i := fun i i0 i1 => by rw [f5.1 167 (by decide) (by decide), f4.1 167 (by decide) (by decide)]; exact a3 i i0 i1
          simp (disch := first | assumption | exact zk_266 | ((repeat (first | exact z1n | refine z1I ?_ | refine z1R ?_)); done) | exact rfl | omega | decide) only [zb_266_4, zb_266_5, r_aload_0, r_iconst, r_pf_646, r_pf_680, r_goto_w, r_gf_680, r_gf_645, r_icmp_ge, r_inv_1_0, r_inv_1_1, r_inv_1_2, r_inv_1_3, r_inv_1_4, r_K0, r_K1, r_if_ne, r_isub, r_iret, r_bret_0, r_bret_1, r_istore_1i, r_istore_1r, r_istore_1j, r_if_eq, r_goto, r_istore_2i, r_istore_2r, r_istore_2j, r_iload_2, r_iload_1, r_iinc_1i, r_iinc_1r, r_iinc_1j, r_inv_2_0, r_inv_2_1, r_inv_2_2, r_inv_2_3, r_inv_2_4, ↓reduceIte, not_true_eq_false, not_false_eq_true, Int.reduceEq, Int.reduceLE, Int.reduceLT, Int.reduceAdd, Int.reduceNeg, Int.reduceMul, Int.reduceSub, Int.reduceToNat]
          rw [if_pos (by omega)]
          refine m_restore (by omega) hM5 (hI7 V5 a5).1 (fun V6 f6 a6 => ?_)
          have F6 : zFm [165, 167, 169, 190] [6, 9, 40, 41] V V6 := F5.tr (f6.mono (by decide) (by decide))
          have := hQ V6 (F6.mono (by decide) (by decide)) (by unfold zXst; rw [ha, if_neg Bool.false_ne_true]; exact zMC_r.mpr ((zMC_r.mp hC).of ⟨w1, wc1⟩ (fun i i0 i1 => by rw [Int.zero_add, a6 i i0 i1]; exact a5 i i0 i1))) (fun i i0 i1 => by rw [a6 i i0 i1, a5 i i0 i1]; exact hI i i0 i1) (by unfold zXp zXh; rw [ha, if_neg Bool.false_ne_true, if_neg Bool.false_ne_true]; exact hP.fm hH F6 (by decide) (by decide))
          simp (disch := first | assumption | exact zk_266 | ((repeat (first | exact z1n | refine z1I ?_ | refine z1R ?_)); done) | exact rfl | omega | decide) only [r_aload_0, r_iconst, r_pf_646, r_pf_680, r_goto_w, r_gf_680, r_gf_645, r_icmp_ge, r_inv_1_0, r_inv_1_1, r_inv_1_2, r_inv_1_3, r_inv_1_4, r_K0, r_K1, r_if_ne, r_isub, r_iret, r_bret_0, r_bret_1, r_istore_1i, r_istore_1r, r_istore_1j, r_if_eq, r_goto, r_istore_2i, r_istore_2r, r_istore_2j, r_iload_2, r_iload_1, r_iinc_1i, r_iinc_1r, r_iinc_1j, r_inv_2_0, r_inv_2_1, r_inv_2_2, r_inv_2_3, r_inv_2_4, ↓reduceIte, not_true_eq_false, not_false_eq_true, Int.reduceEq, Int.reduceLE, Int.reduceLT, Int.reduceAdd, Int.reduceNeg, Int.reduceMul, Int.reduceSub, Int.reduceToNat]
          exact this
        · have hXm : X = zPm T n := by omega
          have ha : zXa T n X = true := by unfold zXa; rw [decide_eq_false hb, decide_eq_false hm]; rfl
          rw [if_neg hm] at hQ
          rw [hXm] at hC3 e3 ⊢
          conv => rw [zb_266_3]
          simp (disch := first | assumption | exact zk_266 | ((repeat (first | exact z1n | refine z1I ?_ | refine z1R ?_)); done) | exact rfl | omega | decide) only [r_aload_0, r_iconst, r_pf_646, r_pf_680, r_goto_w, r_gf_680, r_gf_645, r_icmp_ge, r_inv_1_0, r_inv_1_1, r_inv_1_2, r_inv_1_3, r_inv_1_4, r_K0, r_K1, r_if_ne, r_isub, r_iret, r_bret_0, r_bret_1, r_istore_1i, r_istore_1r, r_istore_1j, r_if_eq, r_goto, r_istore_2i, r_istore_2r, r_istore_2j, r_iload_2, r_iload_1, r_iinc_1i, r_iinc_1r, r_iinc_1j, r_inv_2_0, r_inv_2_1, r_inv_2_2, r_inv_2_3, r_inv_2_4, e3, u3, ↓reduceIte, not_true_eq_false, not_false_eq_true, Int.reduceEq, Int.reduceLE, Int.reduceLT, Int.reduceAdd, Int.reduceNeg, Int.reduceMul, Int.reduceSub, Int.reduceToNat]
          rw [if_pos (by omega)]
          simp (disch := first | assumption | exact zk_266 | ((repeat (first | exact z1n | refine z1I ?_ | refine z1R ?_)); done) | exact rfl | omega | decide) only [zb_266_7, r_aload_0, r_iconst, r_pf_646, r_pf_680, r_goto_w, r_gf_680, r_gf_645, r_icmp_ge, r_inv_1_0, r_inv_1_1, r_inv_1_2, r_inv_1_3, r_inv_1_4, r_K0, r_K1, r_if_ne, r_isub, r_iret, r_bret_0, r_bret_1, r_istore_1i, r_istore_1r, r_istore_1j, r_if_eq, r_goto, r_istore_2i, r_istore_2r, r_istore_2j, r_iload_2, r_iload_1, r_iinc_1i, r_iinc_1r, r_iinc_1j, r_inv_2_0, r_inv_2_1, r_inv_2_2, r_inv_2_3, r_inv_2_4, ↓reduceIte, not_true_eq_false, not_false_eq_true, Int.reduceEq, Int.reduceLE, Int.reduceLT, Int.reduceAdd, Int.reduceNeg, Int.reduceMul, Int.reduceSub, Int.reduceToNat]
          refine m_ends (by omega) hM3 (hP.fm hH f3 (by decide) (by decide)) p0 p1 (hI7 V3 a3).1 (hI7 V3 a3).2 ⟨w1, wc1⟩ hH (fun V4 f4 hP4 _ => ?_)
          have := hQ V4 ((f3.mono (by decide) (by decide)).tr (f4.mono (by decide) (by decide))) (by unfold zXst; rw [ha, if_pos rfl]; exact hC3.fm f4 (by decide)) (hI3.fm f4 (by decide) (by decide)) (by unfold zXp zXh; rw [ha, if_pos rfl, if_pos rfl]; exact hP4)
          simp (disch := first | assumption | exact zk_266 | ((repeat (first | exact z1n | refine z1I ?_ | refine z1R ?_)); done) | exact rfl | omega | decide) only [r_aload_0, r_iconst, r_pf_646, r_pf_680, r_goto_w, r_gf_680, r_gf_645, r_icmp_ge, r_inv_1_0, r_inv_1_1, r_inv_1_2, r_inv_1_3, r_inv_1_4, r_K0, r_K1, r_if_ne, r_isub, r_iret, r_bret_0, r_bret_1, r_istore_1i, r_istore_1r, r_istore_1j, r_if_eq, r_goto, r_istore_2i, r_istore_2r, r_istore_2j, r_iload_2, r_iload_1, r_iinc_1i, r_iinc_1r, r_iinc_1j, r_inv_2_0, r_inv_2_1, r_inv_2_2, r_inv_2_3, r_inv_2_4, ↓reduceIte, not_true_eq_false, not_false_eq_true, Int.reduceEq, Int.reduceLE, Int.reduceLT, Int.reduceAdd, Int.reduceNeg, Int.reduceMul, Int.reduceSub, Int.reduceToNat]
          exact this
end
