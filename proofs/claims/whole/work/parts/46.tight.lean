/-! TIGHTEN, 2: in both -/
theorem zTg_s (ρ : zR) {k : Int} (k0 : 0 ≤ k) : (zTg ρ (k + 1).toNat).1 = zLim (zTg ρ k.toNat).1 (zPlc ρ k) (zMin5 (zBnO (zTg ρ k.toNat).1 (zTg ρ k.toNat).2 (zPlc ρ k))) ρ.c ∧ (zTg ρ (k + 1).toNat).2 = fun y => if y = zPlc ρ k then zBnO (zTg ρ k.toNat).1 (zTg ρ k.toNat).2 (zPlc ρ k) else (zTg ρ k.toNat).2 y := by
  obtain ⟨m, rfl⟩ : ∃ m : Nat, k = m := ⟨k.toNat, by omega⟩
  rw [show ((m : Int) + 1).toNat = m + 1 by omega, Int.toNat_natCast]
  exact ⟨rfl, rfl⟩
section
variable {d : Nat} {s : zS} {V : zV} {Q : zO → zH → Prop} {a : Nat} {ρ : zR} {h : zH}
set_option maxRecDepth 20000 in
theorem c_tightenLimits (hd : 4 ≤ d) (ha : a + 18 ≤ 116) (hG : zGP s V) (hP : zStP s V a) (hC : zStC ρ V a) (hW : zWF ρ) (hQ : ∀ V', (∀ r : Nat, (r < a ∨ a + 18 ≤ r) → (r < 116 ∨ 121 ≤ r) → V' r = V r) → zGP s V' → zStP s V' a → zStC (zTight ρ) V' a → Q (.inl (some (zi (zTgC ρ ρ.n.toNat)))) (s, V')) : zcall d 28 [.ref 116, .ref a] (s, V) Q := by
  obtain ⟨n0, n1, c0, c1⟩ := hW.1
  have tG := hG.1
  obtain ⟨d, rfl⟩ : ∃ e, d = e + 1 := ⟨d - 1, by omega⟩
  simp (disch := first | assumption | omega) only [zc_28]
  simp (disch := first | assumption | exact zk_28 | ((repeat (first | exact z1n | refine z1I ?_ | refine z1R ?_)); done) | exact rfl | omega | decide) only [zb_28_0, r_aload_0, r_aload_1, r_inv_2_0, r_inv_2_1, r_inv_2_2, r_inv_2_3, r_inv_2_4, r_K0, r_K1, r_iconst, r_istore_2i, r_istore_2r, r_istore_2j, r_istore_3i, r_istore_3r, r_istore_3j, r_goto_w, r_iload_3, r_gf_130, r_icmp_ge, r_gf_129, r_ial, r_ial30, r_ial32, r_istore_4i, r_istore_4r, r_istore_4j, r_gf_132, r_iload_4, r_inv_3_0, r_inv_3_1, r_inv_3_2, r_inv_3_3, r_inv_3_4, r_iastore, r_iload_2, r_inv_4_0, r_inv_4_1, r_inv_4_2, r_inv_4_3, r_inv_4_4, r_iadd, r_iinc_3i, r_iinc_3r, r_iinc_3j, r_goto, r_iret, r_bret_0, r_bret_1, ↓reduceIte, not_true_eq_false, not_false_eq_true, Int.reduceEq, Int.reduceLE, Int.reduceLT, Int.reduceAdd, Int.reduceNeg, Int.reduceMul, Int.reduceSub, Int.reduceToNat]
  refine c_sort (by omega) ha hG hP hC hW (fun V1 f1 hG1 hS1 => ?_)
  simp (disch := first | assumption | exact zk_28 | ((repeat (first | exact z1n | refine z1I ?_ | refine z1R ?_)); done) | exact rfl | omega | decide) only [r_aload_0, r_aload_1, r_inv_2_0, r_inv_2_1, r_inv_2_2, r_inv_2_3, r_inv_2_4, r_K0, r_K1, r_iconst, r_istore_2i, r_istore_2r, r_istore_2j, r_istore_3i, r_istore_3r, r_istore_3j, r_goto_w, r_iload_3, r_gf_130, r_icmp_ge, r_gf_129, r_ial, r_ial30, r_ial32, r_istore_4i, r_istore_4r, r_istore_4j, r_gf_132, r_iload_4, r_inv_3_0, r_inv_3_1, r_inv_3_2, r_inv_3_3, r_inv_3_4, r_iastore, r_iload_2, r_inv_4_0, r_inv_4_1, r_inv_4_2, r_inv_4_3, r_inv_4_4, r_iadd, r_iinc_3i, r_iinc_3r, r_iinc_3j, r_goto, r_iret, r_bret_0, r_bret_1, ↓reduceIte, not_true_eq_false, not_false_eq_true, Int.reduceEq, Int.reduceLE, Int.reduceLT, Int.reduceAdd, Int.reduceNeg, Int.reduceMul, Int.reduceSub, Int.reduceToNat]
  have hx := z_iter (i := 0) (n := ρ.n) (I := fun k (q : zV × Value) => (∀ r : Nat, (r < a ∨ a + 18 ≤ r) → (r < 116 ∨ 121 ≤ r) → q.1 r = V r) ∧ zGP s q.1 ∧ zSrd ρ q.1 ∧ zStP s q.1 a ∧ zStC (zTg ρ k.toNat).1 q.1 a ∧ ∀ y, 0 ≤ y → zin (zDone ρ k.toNat) y = true → q.1 120 y = zi ((zTg ρ k.toNat).2 y)) (P := fun k q => zwp (zcall d) 28 Q (zB 28 1) [.ref 116, .ref a, zi (zTgC ρ k.toNat), zi k, q.2] [] (s, q.1)) n0
  have hz0 : zTgC ρ (0 : Int).toNat = 0 := by
    unfold zTgC
    have h1 := zct_le (p := fun j => decide ((zTg ρ (0 : Int).toNat).1.K 2 j ≠ ρ.K 2 j)) (q := fun _ => false) c0 (fun x _ _ h => by
      have : (zTg ρ (0 : Int).toNat).1.K 2 x = ρ.K 2 x := rfl
      rw [this] at h
      simp at h)
    have h2 := zct_rng (p := fun j => decide ((zTg ρ (0 : Int).toNat).1.K 2 j ≠ ρ.K 2 j)) c0
    have h3 : ∀ n : Nat, zct (fun _ => false) (n : Int) = 0 := by
      intro n
      induction n with
      | zero => rfl
      | succ n ih => rw [show ((n + 1 : Nat) : Int) = (n : Int) + 1 from rfl, zct_s (by omega), if_neg (by decide), ih]
    have h4 := h3 ρ.c.toNat
    rw [Int.toNat_of_nonneg c0] at h4
    omega
  have hxx := hx ?_ ?_ (V1, zJ) ⟨fun r h1 h2 => f1 r (by omega), hG1, hS1, hP.frg f1 (by omega), hC.frg f1 (by omega), fun y _ hy => by rw [show zDone ρ (0 : Int).toNat = 0 from rfl, zin_zero] at hy; cases hy⟩
  · rw [hz0] at hxx
    exact hxx
  · rintro k ⟨V2, w4⟩ k0 k1 ⟨f2, hG2, hS2, hP2, hC2, e2⟩ ih
    dsimp only at f2 hG2 hS2 hP2 hC2 e2 ih ⊢
    obtain ⟨⟨x0, x1⟩, x2, x3, x4⟩ := zPlc_ok hW k0 k1
    obtain ⟨i1, i2, i3, i4⟩ := zTg_inv hW k.toNat (by omega)
    obtain ⟨s1, s2⟩ := zTg_s ρ k0
    have sc := zTgC_s hW k.toNat (by omega)
    rw [← show (k + 1).toNat = k.toNat + 1 by omega, Int.toNat_of_nonneg k0] at sc
    have hG3 := hG2
    obtain ⟨g1, ⟨-, g3, -, g4⟩, ⟨-, g5, -, g6⟩, -, g7, -, g8⟩ := hG3
    have gp := hS2.1
    have gk := hS2.2 k k0 k1
    generalize hσ : (zTg ρ k.toNat).1 = σ at *
    generalize hA : (zTg ρ k.toNat).2 = A at *
    have hcee : zCee σ V2 120 A (zPlc ρ k) := by
      have := zCee_plc hW k0 k1 e2
      intro j j0 j1 hj
      rw [i1.c] at j1
      rw [i1.2.2.2 0 _ (by omega)] at hj
      rw [i1.2.2.2 1 _ (by omega)]
      exact this j j0 j1 hj
    generalize hx0 : zPlc ρ k = x at *
    have xn : x < σ.n := by rw [i1.n]; exact x1
    have b1 := zBnO_rng i2 i3 x0 xn
    have b2 := zBnO_low i2 (fun y => (i3 y).1) x0 xn
    generalize hb : zBnO σ A x = b at *
    have hm : 1 ≤ zMin5 b ∧ zMin5 b ≤ 500 := by unfold zMin5; split <;> omega
    have j1 : zI32 b := ⟨by omega, by omega⟩
    have j2 : zI32 500 := ⟨by omega, by omega⟩
    have hmin : (if b < 500 then b else 500) = zMin5 b := rfl
    have hct : zct (fun j => decide (σ.K 1 j = x) && decide (σ.K 2 j ≠ zMin5 b)) σ.c = zct (fun j => decide (ρ.K 1 j = x) && decide (σ.K 2 j ≠ zMin5 b)) ρ.c := by
      rw [i1.c]
      congr 1
      funext j
      rw [i1.2.2.2 1 _ (by omega)]
    conv => rw [zb_28_1]
    simp (disch := first | assumption | omega) only [r_iload_3, r_iload_4, r_istore_4i, r_aload_0, r_aload_1, r_gf_130, r_gf_129, r_gf_132, gp, g3, g4, gk, r_ial, r_icmp_ge]
    rw [if_neg (by omega : ¬ ρ.n ≤ k), r_inv_3_2 (z1I (z1R (z1R z1n))), c_boundOf (d := d) (by omega) hG2 hP2 hC2 i2 x0 xn i3 hcee, hb]
    have hGv : zGP s (zput V2 120 x (zi b)) := hG2.p (by omega)
    have fv : zFrg 120 121 V2 (zput V2 120 x (zi b)) := zFrg.rf.p (by omega) (by omega)
    simp (disch := first | assumption | exact zk_28 | ((repeat (first | exact z1n | refine z1I ?_ | refine z1R ?_)); done) | exact rfl | omega | decide) only [r_aload_0, r_aload_1, r_inv_2_0, r_inv_2_1, r_inv_2_2, r_inv_2_3, r_inv_2_4, r_K0, r_K1, r_iconst, r_istore_2i, r_istore_2r, r_istore_2j, r_istore_3i, r_istore_3r, r_istore_3j, r_goto_w, r_iload_3, r_gf_130, r_icmp_ge, r_gf_129, r_ial, r_ial30, r_ial32, r_istore_4i, r_istore_4r, r_istore_4j, r_gf_132, r_iload_4, r_inv_3_0, r_inv_3_1, r_inv_3_2, r_inv_3_3, r_inv_3_4, r_iastore, r_iload_2, r_inv_4_0, r_inv_4_1, r_inv_4_2, r_inv_4_3, r_inv_4_4, r_iadd, r_iinc_3i, r_iinc_3r, r_iinc_3j, r_goto, r_iret, r_bret_0, r_bret_1, g4, zput_r, zput_at, c_min, hmin, ↓reduceIte, not_true_eq_false, not_false_eq_true, Int.reduceEq, Int.reduceLE, Int.reduceLT, Int.reduceAdd, Int.reduceNeg, Int.reduceMul, Int.reduceSub, Int.reduceToNat]
    refine c_limitCallsTo (by omega) (hP2.frg fv (by omega)) (hC2.frg fv (by omega)) i2 hGv.1 x0 xn hm.1 hm.2 (fun V3 y1 y2 y3 => ?_)
    rw [hct]
    have y120 : ∀ y, V3 120 y = zput V2 120 x (zi b) 120 y := fun y => by rw [y1 120 (by omega)]
    have := ih (V3, zi x) ⟨fun r h1 h2 => ?_, ?_, ⟨?_, fun j j0 j1 => ?_⟩, y2, ?_, fun y y0 hy => ?_⟩
    · rw [sc] at this
      simp (disch := first | assumption | exact zk_28 | ((repeat (first | exact z1n | refine z1I ?_ | refine z1R ?_)); done) | exact rfl | omega | decide) only [r_aload_0, r_aload_1, r_inv_2_0, r_inv_2_1, r_inv_2_2, r_inv_2_3, r_inv_2_4, r_K0, r_K1, r_iconst, r_istore_2i, r_istore_2r, r_istore_2j, r_istore_3i, r_istore_3r, r_istore_3j, r_goto_w, r_iload_3, r_gf_130, r_icmp_ge, r_gf_129, r_ial, r_ial30, r_ial32, r_istore_4i, r_istore_4r, r_istore_4j, r_gf_132, r_iload_4, r_inv_3_0, r_inv_3_1, r_inv_3_2, r_inv_3_3, r_inv_3_4, r_iastore, r_iload_2, r_inv_4_0, r_inv_4_1, r_inv_4_2, r_inv_4_3, r_inv_4_4, r_iadd, r_iinc_3i, r_iinc_3r, r_iinc_3j, r_goto, r_iret, r_bret_0, r_bret_1, ↓reduceIte, not_true_eq_false, not_false_eq_true, Int.reduceEq, Int.reduceLE, Int.reduceLT, Int.reduceAdd, Int.reduceNeg, Int.reduceMul, Int.reduceSub, Int.reduceToNat]
      exact this
    · show V3 r = _
      rw [y1 r h1, zput_row (by omega)]
      exact f2 r h1 h2
    · refine hGv.of ?_
      have e116 : V3 116 = zput V2 120 x (zi b) 116 := y1 116 (by omega)
      exact ⟨congrFun e116 0, congrFun e116 1, congrFun e116 3, congrFun e116 4⟩
    · show V3 116 2 = _
      rw [y1 116 (by omega), zput_r (by omega)]
      exact gp
    · show V3 118 j = _
      rw [y1 118 (by omega), zput_r (by omega)]
      exact hS2.2 j j0 j1
    · rw [s1]
      show zStC (zLim σ x (zMin5 b) ρ.c) V3 a
      rw [← i1.c]
      exact y3
    · show V3 120 y = _
      rw [y120 y, s2]
      dsimp only
      by_cases q : y = x
      · rw [if_pos q, q, zput_at]
      · rw [if_neg q, zput_i q]
        exact e2 y y0 (zDone_s hW k0 k1 y0 hy (by rw [hx0]; exact q))
  · rintro ⟨V2, w4⟩ ⟨f2, hG2, hS2, hP2, hC2, e2⟩
    dsimp only at f2 hG2 hS2 hP2 hC2 e2 ⊢
    have gp := hS2.1
    have tG2 := hG2.1
    simp (disch := first | assumption | exact zk_28 | ((repeat (first | exact z1n | refine z1I ?_ | refine z1R ?_)); done) | exact rfl | omega | decide) only [zb_28_1, zb_28_2, r_aload_0, r_aload_1, r_inv_2_0, r_inv_2_1, r_inv_2_2, r_inv_2_3, r_inv_2_4, r_K0, r_K1, r_iconst, r_istore_2i, r_istore_2r, r_istore_2j, r_istore_3i, r_istore_3r, r_istore_3j, r_goto_w, r_iload_3, r_gf_130, r_icmp_ge, r_gf_129, r_ial, r_ial30, r_ial32, r_istore_4i, r_istore_4r, r_istore_4j, r_gf_132, r_iload_4, r_inv_3_0, r_inv_3_1, r_inv_3_2, r_inv_3_3, r_inv_3_4, r_iastore, r_iload_2, r_inv_4_0, r_inv_4_1, r_inv_4_2, r_inv_4_3, r_inv_4_4, r_iadd, r_iinc_3i, r_iinc_3r, r_iinc_3j, r_goto, r_iret, r_bret_0, r_bret_1, gp, Int.le_refl, ↓reduceIte, not_true_eq_false, not_false_eq_true, Int.reduceEq, Int.reduceLE, Int.reduceLT, Int.reduceAdd, Int.reduceNeg, Int.reduceMul, Int.reduceSub, Int.reduceToNat]
    exact hQ V2 f2 hG2 hP2 hC2
theorem zMC.agree {ρ σ : zR} {V : zV} (hC : zMC σ V) (hn : ρ.n = σ.n) (hc : ρ.c = σ.c) (hS : ∀ w x, ρ.S w x = σ.S w x) (hK : ∀ w k, 0 ≤ k → k < σ.c → ρ.K w k = σ.K w k) : zMC ρ V := by
  obtain ⟨c1, c2, c3, c4⟩ := hC
  exact ⟨by rw [hn]; exact c1, by rw [hc]; exact c2, fun w x a b c e => by rw [hS]; rw [hn] at e; exact c3 w x a b c e, fun w k a b c e => by rw [hc] at e; rw [hK w k c e]; exact c4 w k a b c e⟩
set_option maxRecDepth 20000 in
theorem m_tighten (hd : 6 ≤ d) (hM : zMP s V) (hC : zMC ρ V) (hI : zInts V 165 230) (hW : zWF ρ) {p : Int} {H : Nat → zR} (hPa : zPaC p H V) (p0 : 0 ≤ p) (p1 : p ≤ 4) (hH : ∀ k : Nat, (k : Int) < p → (H k).n ≤ 12 ∧ (H k).c ≤ 24) (hQ : ∀ V', zFm [165, 166, 167, 169, 170, 186] [3, 6] V V' → zMC (zTight ρ) V' → zInts V' 165 230 → zPaC (zHiQ p + 1 : Nat) (zHiN p H ρ) V' → V' 164 6 = zi 0 → Q (.inl (some (zi (zTgC ρ ρ.n.toNat)))) (s, V')) : zcall d 228 [.ref 164] (s, V) Q := by
  obtain ⟨n0, n1, c0, c1⟩ := hW.1
  have tM := hM.1
  have vm_s : V 164 0 = .ref 165 := (hM.2 0 (by decide)).1
  have tm_s : s.tg 165 = 20 := (hM.2 0 (by decide)).2.1
  have lm_s : s.ln 165 = 230 := (hM.2 0 (by decide)).2.2
  have vm_row : V 164 8 = .ref 170 := (hM.2 5 (by decide)).1
  have tm_row : s.tg 170 = 20 := (hM.2 5 (by decide)).2.1
  have lm_row : s.ln 170 = 12 := (hM.2 5 (by decide)).2.2
  have vm_bound : V 164 35 = .ref 186 := (hM.2 21 (by decide)).1
  have tm_bound : s.tg 186 = 20 := (hM.2 21 (by decide)).2.1
  have lm_bound : s.ln 186 = 12 := (hM.2 21 (by decide)).2.2
  have vm_aside : V 164 2 = .ref 167 := (hM.2 2 (by decide)).1
  have tm_aside : s.tg 167 = 20 := (hM.2 2 (by decide)).2.1
  have lm_aside : s.ln 167 = 230 := (hM.2 2 (by decide)).2.2
  obtain ⟨d, rfl⟩ : ∃ e, d = e + 1 := ⟨d - 1, by omega⟩
  simp (disch := first | assumption | omega) only [zc_228]
  simp (disch := first | assumption | exact zk_228 | ((repeat (first | exact z1n | refine z1I ?_ | refine z1R ?_)); done) | exact rfl | omega | decide) only [zb_228_0, r_aload_0, r_inv_1_0, r_inv_1_1, r_inv_1_2, r_inv_1_3, r_inv_1_4, r_K0, r_K1, r_iconst, r_istore_1i, r_istore_1r, r_istore_1j, r_goto_w, r_iload_1, r_gf_640, r_ial, r_ial30, r_ial32, r_icmp_ge, r_gf_648, r_istore_2i, r_istore_2r, r_istore_2j, r_iload_2, r_inv_2_0, r_inv_2_1, r_inv_2_2, r_inv_2_3, r_inv_2_4, r_istore_3i, r_istore_3r, r_istore_3j, r_iload_3, r_icmp_ne, r_imul, r_iadd, r_gf_675, r_goto, r_iastore, r_iinc_3i, r_iinc_3r, r_iinc_3j, r_iinc_1i, r_iinc_1r, r_iinc_1j, r_gf_642, r_iinc_2i, r_iinc_2r, r_iinc_2j, r_iret, r_bret_0, r_bret_1, vm_s, vm_row, vm_bound, vm_aside, ↓reduceIte, not_true_eq_false, not_false_eq_true, Int.reduceEq, Int.reduceLE, Int.reduceLT, Int.reduceAdd, Int.reduceNeg, Int.reduceMul, Int.reduceSub, Int.reduceToNat]
  refine m_hold (by omega) hM hI (fun V1 f1 a1 => ?_)
  simp (disch := first | assumption | exact zk_228 | ((repeat (first | exact z1n | refine z1I ?_ | refine z1R ?_)); done) | exact rfl | omega | decide) only [r_aload_0, r_inv_1_0, r_inv_1_1, r_inv_1_2, r_inv_1_3, r_inv_1_4, r_K0, r_K1, r_iconst, r_istore_1i, r_istore_1r, r_istore_1j, r_goto_w, r_iload_1, r_gf_640, r_ial, r_ial30, r_ial32, r_icmp_ge, r_gf_648, r_istore_2i, r_istore_2r, r_istore_2j, r_iload_2, r_inv_2_0, r_inv_2_1, r_inv_2_2, r_inv_2_3, r_inv_2_4, r_istore_3i, r_istore_3r, r_istore_3j, r_iload_3, r_icmp_ne, r_imul, r_iadd, r_gf_675, r_goto, r_iastore, r_iinc_3i, r_iinc_3r, r_iinc_3j, r_iinc_1i, r_iinc_1r, r_iinc_1j, r_gf_642, r_iinc_2i, r_iinc_2r, r_iinc_2j, r_iret, r_bret_0, r_bret_1, vm_s, vm_row, vm_bound, vm_aside, ↓reduceIte, not_true_eq_false, not_false_eq_true, Int.reduceEq, Int.reduceLE, Int.reduceLT, Int.reduceAdd, Int.reduceNeg, Int.reduceMul, Int.reduceSub, Int.reduceToNat]
  have hM1 : zMP s V1 := hM.fm f1 (by decide)
  have hC1 : zMC ρ V1 := hC.fm f1 (by decide)
  refine m_laysOrder (by omega) hM1 hC1 hW (fun V2 f2 e2 o2 => ?_)
  simp (disch := first | assumption | exact zk_228 | ((repeat (first | exact z1n | refine z1I ?_ | refine z1R ?_)); done) | exact rfl | omega | decide) only [r_aload_0, r_inv_1_0, r_inv_1_1, r_inv_1_2, r_inv_1_3, r_inv_1_4, r_K0, r_K1, r_iconst, r_istore_1i, r_istore_1r, r_istore_1j, r_goto_w, r_iload_1, r_gf_640, r_ial, r_ial30, r_ial32, r_icmp_ge, r_gf_648, r_istore_2i, r_istore_2r, r_istore_2j, r_iload_2, r_inv_2_0, r_inv_2_1, r_inv_2_2, r_inv_2_3, r_inv_2_4, r_istore_3i, r_istore_3r, r_istore_3j, r_iload_3, r_icmp_ne, r_imul, r_iadd, r_gf_675, r_goto, r_iastore, r_iinc_3i, r_iinc_3r, r_iinc_3j, r_iinc_1i, r_iinc_1r, r_iinc_1j, r_gf_642, r_iinc_2i, r_iinc_2r, r_iinc_2j, r_iret, r_bret_0, r_bret_1, vm_s, vm_row, vm_bound, vm_aside, ↓reduceIte, not_true_eq_false, not_false_eq_true, Int.reduceEq, Int.reduceLE, Int.reduceLT, Int.reduceAdd, Int.reduceNeg, Int.reduceMul, Int.reduceSub, Int.reduceToNat]
  have F2 : zFm [165, 167, 169, 170, 186] [] V V2 := (f1.mono (fun r hr => by simp at hr; simp [hr]) (fun _ h => h)).tr (f2.mono (fun r hr => by simp at hr; simp; omega) (fun _ h => h))
  have A2 : ∀ i, 0 ≤ i → i < 230 → V2 167 i = V 165 i := fun i i0 i1 => by rw [f2.1 167 (by omega) (by simp)]; exact a1 i i0 i1
  have I2 : zInts V2 165 230 := by
    unfold zInts
    rw [f2.1 165 (by omega) (by simp), f1.1 165 (by omega) (by simp)]
    exact hI
  have hx := z_iter (i := 0) (n := ρ.n) (I := fun k (q : zV × Value × Value) => zFm [165, 167, 169, 170, 186] [] V q.1 ∧ (∀ i, 0 ≤ i → i < 230 → q.1 167 i = V 165 i) ∧ zInts q.1 165 230 ∧ zMC (zTg ρ k.toNat).1 q.1 ∧ (∀ k, 0 ≤ k → k < ρ.n → q.1 170 k = zi (zPlc ρ k)) ∧ ∀ y, 0 ≤ y → zin (zDone ρ k.toNat) y = true → q.1 186 y = zi ((zTg ρ k.toNat).2 y)) (P := fun k q => zwp (zcall d) 228 Q (zB 228 1) [.ref 164, zi k, q.2.1, q.2.2] [] (s, q.1)) n0
  refine hx ?_ ?_ (V2, zJ, zJ) ⟨F2, A2, I2, hC1.fm f2 (by decide), o2, fun y _ hy => by rw [show zDone ρ (0 : Int).toNat = 0 from rfl, zin_zero] at hy; cases hy⟩
  · rintro k ⟨V3, w2, w3⟩ k0 k1 ⟨f3, a3, I3, hC3, o3, e3⟩ ih
    dsimp only at f3 a3 I3 hC3 o3 e3 ih ⊢
    obtain ⟨⟨x0, x1⟩, x2, x3, x4⟩ := zPlc_ok hW k0 k1
    obtain ⟨i1, i2, i3, i4⟩ := zTg_inv hW k.toNat (by omega)
    obtain ⟨s1, s2⟩ := zTg_s ρ k0
    have hM3 : zMP s V3 := hM.fm f3 (by decide)
    have g0 : V3 164 0 = .ref 165 := (f3.2 0 (by simp)).trans vm_s
    have g8 : V3 164 8 = .ref 170 := (f3.2 8 (by simp)).trans vm_row
    have g35 : V3 164 35 = .ref 186 := (f3.2 35 (by simp)).trans vm_bound
    have gn : V3 165 0 = zi ρ.n := hC3.1.trans (by rw [i1.n])
    have gk := o3 k k0 k1
    generalize hσ : (zTg ρ k.toNat).1 = σ at *
    generalize hA : (zTg ρ k.toNat).2 = A at *
    have hcee : zCee σ V3 186 A (zPlc ρ k) := by
      have := zCee_plc hW k0 k1 e3
      intro j j0 j1 hj
      rw [i1.c] at j1
      rw [i1.2.2.2 0 _ (by omega)] at hj
      rw [i1.2.2.2 1 _ (by omega)]
      exact this j j0 j1 hj
    generalize hx0 : zPlc ρ k = x at *
    have xn : x < σ.n := by rw [i1.n]; exact x1
    have b1 := zBnO_rng i2 i3 x0 xn
    have b2 := zBnO_low i2 (fun y => (i3 y).1) x0 xn
    have hcc : σ.c = ρ.c := i1.c
    have hsn : σ.n = ρ.n := i1.n
    conv => rw [zb_228_1]
    simp (disch := first | assumption | omega) only [r_iload_1, r_iload_2, r_istore_2i, r_aload_0, r_gf_640, r_gf_648, r_iconst, g0, g8, gn, gk, r_ial, r_icmp_ge]
    rw [if_neg (by omega : ¬ ρ.n ≤ k), r_inv_2_0 (z1I (z1R z1n)), m_bounds (d := d) (by omega) hM3 hC3 i2 x0 xn i3 hcee]
    generalize hb : zBnO σ A x = b at *
    simp (disch := first | assumption | exact zk_228 | ((repeat (first | exact z1n | refine z1I ?_ | refine z1R ?_)); done) | exact rfl | omega | decide) only [r_aload_0, r_inv_1_0, r_inv_1_1, r_inv_1_2, r_inv_1_3, r_inv_1_4, r_K0, r_K1, r_iconst, r_istore_1i, r_istore_1r, r_istore_1j, r_goto_w, r_iload_1, r_gf_640, r_ial, r_ial30, r_ial32, r_icmp_ge, r_gf_648, r_istore_2i, r_istore_2r, r_istore_2j, r_iload_2, r_inv_2_0, r_inv_2_1, r_inv_2_2, r_inv_2_3, r_inv_2_4, r_istore_3i, r_istore_3r, r_istore_3j, r_iload_3, r_icmp_ne, r_imul, r_iadd, r_gf_675, r_goto, r_iastore, r_iinc_3i, r_iinc_3r, r_iinc_3j, r_iinc_1i, r_iinc_1r, r_iinc_1j, r_gf_642, r_iinc_2i, r_iinc_2r, r_iinc_2j, r_iret, r_bret_0, r_bret_1, vm_s, vm_row, vm_bound, vm_aside, ↓reduceIte, not_true_eq_false, not_false_eq_true, Int.reduceEq, Int.reduceLE, Int.reduceLT, Int.reduceAdd, Int.reduceNeg, Int.reduceMul, Int.reduceSub, Int.reduceToNat]
    have fb : zFm [186] [] V3 (zput V3 186 x (zi b)) := zFm.rf.pr (by simp) (by omega)
    have hin := z_iter (i := 0) (n := ρ.c) (I := fun j (q : zV) => zFm [165] [] (zput V3 186 x (zi b)) q ∧ zInts q 165 230 ∧ zMC (zLim σ x (zMin5 b) j) q) (P := fun j q => zwp (zcall d) 228 Q (zB 228 2) [.ref 164, zi k, zi x, zi j] [] (s, q)) c0
    refine hin ?_ ?_ (zput V3 186 x (zi b)) ⟨zFm.rf, I3.put, (hC3.fm fb (by decide)).agree rfl rfl (fun _ _ => rfl) (fun w k k0 k1 => by rw [zLim_K, if_neg (fun q => by omega)])⟩
    · rintro j V4 j0 j1 ⟨f4, I4, hC4⟩ ih2
      have hM4 : zMP s V4 := (hM3.fm fb (by decide)).fm f4 (by decide)
      have g0 : V4 164 0 = .ref 165 := (f4.2 0 (by simp)).trans ((fb.2 0 (by simp)).trans g0)
      have g35 : V4 164 35 = .ref 186 := (f4.2 35 (by simp)).trans ((fb.2 35 (by simp)).trans g35)
      have gc : V4 165 1 = zi ρ.c := hC4.2.1.trans (congrArg zi hcc)
      have gb : V4 186 x = zi b := by rw [f4.1 186 (by omega) (by simp)]; exact zput_at
      have hC := hC4
      have cl : (zLim σ x (zMin5 b) j).c = ρ.c := hcc
      have w := i2.2.2.1 j j0 (by omega)
      have hK1 : (zLim σ x (zMin5 b) j).K 1 j = σ.K 1 j := zLim_o (by decide)
      conv => rw [zb_228_2]
      by_cases e : σ.K 1 j = x
      · have hp := hC4.sK (k := j) (v := zMin5 b) (show (zLim σ x (zMin5 b) j).n ≤ 12 by have : (zLim σ x (zMin5 b) j).n = σ.n := rfl; omega) j0
        have hag : zMC (zLim σ x (zMin5 b) (j + 1)) (zput V4 165 (110 + 5 * j + 2) (zi (zMin5 b))) := hp.agree rfl rfl (fun _ _ => rfl) (fun w i i0 i1 => by
          rw [zR.sK_K, zLim_K, zLim_K]
          by_cases q : w = 2 ∧ i = j
          · rw [if_pos q, if_pos ⟨⟨q.1, by rw [q.2]; exact e⟩, by omega⟩]
          · rw [if_neg q]
            by_cases q2 : (w = 2 ∧ σ.K 1 i = x) ∧ i < j
            · rw [if_pos q2, if_pos ⟨q2.1, by omega⟩]
            · rw [if_neg q2, if_neg (fun c => q2 ⟨c.1, by have := c.1.1; omega⟩)])
        have := ih2 _ ⟨f4.pr (by simp) (by omega), I4.put, hag⟩
        unfold zMin5 at this
        simp (disch := first | assumption | exact zk_228 | ((repeat (first | exact z1n | refine z1I ?_ | refine z1R ?_)); done) | exact rfl | omega | decide) only [zb_228_3, zb_228_4, zb_228_5, r_aload_0, r_inv_1_0, r_inv_1_1, r_inv_1_2, r_inv_1_3, r_inv_1_4, r_K0, r_K1, r_iconst, r_istore_1i, r_istore_1r, r_istore_1j, r_goto_w, r_iload_1, r_gf_640, r_ial, r_ial30, r_ial32, r_icmp_ge, r_gf_648, r_istore_2i, r_istore_2r, r_istore_2j, r_iload_2, r_inv_2_0, r_inv_2_1, r_inv_2_2, r_inv_2_3, r_inv_2_4, r_istore_3i, r_istore_3r, r_istore_3j, r_iload_3, r_icmp_ne, r_imul, r_iadd, r_gf_675, r_goto, r_iastore, r_iinc_3i, r_iinc_3r, r_iinc_3j, r_iinc_1i, r_iinc_1r, r_iinc_1j, r_gf_642, r_iinc_2i, r_iinc_2r, r_iinc_2j, r_iret, r_bret_0, r_bret_1, vm_s, vm_row, vm_bound, vm_aside, g0, g35, gc, gb, m_callee (hC := hC), hK1, e, ↓reduceIte, not_true_eq_false, not_false_eq_true, Int.reduceEq, Int.reduceLE, Int.reduceLT, Int.reduceAdd, Int.reduceNeg, Int.reduceMul, Int.reduceSub, Int.reduceToNat]
        rw [if_neg (by omega)]
        by_cases q : b < 500
        · rw [if_neg (by omega)]
          rw [if_pos q] at this
          exact this
        · rw [if_pos (by omega)]
          rw [if_neg q] at this
          exact this
      · have hag : zMC (zLim σ x (zMin5 b) (j + 1)) V4 := hC4.agree rfl rfl (fun _ _ => rfl) (fun w i i0 i1 => by
          rw [zLim_K, zLim_K]
          by_cases q2 : (w = 2 ∧ σ.K 1 i = x) ∧ i < j
          · rw [if_pos q2, if_pos ⟨q2.1, by omega⟩]
          · rw [if_neg q2, if_neg]
            rintro ⟨⟨c1, c2⟩, c3⟩
            by_cases q3 : i = j
            · rw [q3] at c2; exact e c2
            · exact q2 ⟨⟨c1, c2⟩, by omega⟩)
        have := ih2 _ ⟨f4, I4, hag⟩
        simp (disch := first | assumption | exact zk_228 | ((repeat (first | exact z1n | refine z1I ?_ | refine z1R ?_)); done) | exact rfl | omega | decide) only [zb_228_5, r_aload_0, r_inv_1_0, r_inv_1_1, r_inv_1_2, r_inv_1_3, r_inv_1_4, r_K0, r_K1, r_iconst, r_istore_1i, r_istore_1r, r_istore_1j, r_goto_w, r_iload_1, r_gf_640, r_ial, r_ial30, r_ial32, r_icmp_ge, r_gf_648, r_istore_2i, r_istore_2r, r_istore_2j, r_iload_2, r_inv_2_0, r_inv_2_1, r_inv_2_2, r_inv_2_3, r_inv_2_4, r_istore_3i, r_istore_3r, r_istore_3j, r_iload_3, r_icmp_ne, r_imul, r_iadd, r_gf_675, r_goto, r_iastore, r_iinc_3i, r_iinc_3r, r_iinc_3j, r_iinc_1i, r_iinc_1r, r_iinc_1j, r_gf_642, r_iinc_2i, r_iinc_2r, r_iinc_2j, r_iret, r_bret_0, r_bret_1, vm_s, vm_row, vm_bound, vm_aside, g0, gc, m_callee (hC := hC), hK1, e, ↓reduceIte, not_true_eq_false, not_false_eq_true, Int.reduceEq, Int.reduceLE, Int.reduceLT, Int.reduceAdd, Int.reduceNeg, Int.reduceMul, Int.reduceSub, Int.reduceToNat]
        rw [if_neg (by omega)]
        exact this
    · rintro V4 ⟨f4, I4, hC4⟩
      have g0 : V4 164 0 = .ref 165 := (f4.2 0 (by simp)).trans ((fb.2 0 (by simp)).trans g0)
      have gc : V4 165 1 = zi ρ.c := hC4.2.1.trans (congrArg zi hcc)
      simp (disch := first | assumption | exact zk_228 | ((repeat (first | exact z1n | refine z1I ?_ | refine z1R ?_)); done) | exact rfl | omega | decide) only [zb_228_2, zb_228_6, r_aload_0, r_inv_1_0, r_inv_1_1, r_inv_1_2, r_inv_1_3, r_inv_1_4, r_K0, r_K1, r_iconst, r_istore_1i, r_istore_1r, r_istore_1j, r_goto_w, r_iload_1, r_gf_640, r_ial, r_ial30, r_ial32, r_icmp_ge, r_gf_648, r_istore_2i, r_istore_2r, r_istore_2j, r_iload_2, r_inv_2_0, r_inv_2_1, r_inv_2_2, r_inv_2_3, r_inv_2_4, r_istore_3i, r_istore_3r, r_istore_3j, r_iload_3, r_icmp_ne, r_imul, r_iadd, r_gf_675, r_goto, r_iastore, r_iinc_3i, r_iinc_3r, r_iinc_3j, r_iinc_1i, r_iinc_1r, r_iinc_1j, r_gf_642, r_iinc_2i, r_iinc_2r, r_iinc_2j, r_iret, r_bret_0, r_bret_1, vm_s, vm_row, vm_bound, vm_aside, g0, gc, Int.le_refl, ↓reduceIte, not_true_eq_false, not_false_eq_true, Int.reduceEq, Int.reduceLE, Int.reduceLT, Int.reduceAdd, Int.reduceNeg, Int.reduceMul, Int.reduceSub, Int.reduceToNat]
      have F4 : zFm [165, 186] [] V3 V4 := (fb.mono (fun r hr => by simp at hr; simp [hr]) (fun _ h => h)).tr (f4.mono (fun r hr => by simp at hr; simp [hr]) (fun _ h => h))
      refine ih (V4, zi x, zi ρ.c) ⟨f3.tr (F4.mono (fun r hr => by simp at hr; simp; omega) (fun _ h => h)), fun i q0 q1 => ?_, I4, ?_, fun j j0 j1 => ?_, fun y y0 hy => ?_⟩
      · show V4 167 i = _
        rw [F4.1 167 (by omega) (by simp)]
        exact a3 i q0 q1
      · rw [s1]
        exact hC4
      · show V4 170 j = _
        rw [F4.1 170 (by omega) (by simp)]
        exact o3 j j0 j1
      · show V4 186 y = _
        rw [f4.1 186 (by omega) (by simp), s2]
        dsimp only
        by_cases q : y = x
        · rw [if_pos q, q, zput_at]
        · rw [if_neg q, zput_i q]
          exact e3 y y0 (zDone_s hW k0 k1 y0 hy (by rw [hx0]; exact q))
  · rintro ⟨V3, w2, w3⟩ ⟨f3, a3, I3, hC3, o3, e3⟩
    dsimp only at f3 a3 I3 hC3 o3 e3 ⊢
    obtain ⟨i1, i2, i3, i4⟩ := zTg_inv hW ρ.n.toNat (by omega)
    have hM3 : zMP s V3 := hM.fm f3 (by decide)
    have g0 : V3 164 0 = .ref 165 := (f3.2 0 (by simp)).trans vm_s
    have g2 : V3 164 2 = .ref 167 := (f3.2 2 (by simp)).trans vm_aside
    have gn : V3 165 0 = zi ρ.n := hC3.1.trans (by rw [i1.n])
    have gc : V3 165 1 = zi ρ.c := hC3.2.1.trans (by rw [i1.c])
    simp (disch := first | assumption | exact zk_228 | ((repeat (first | exact z1n | refine z1I ?_ | refine z1R ?_)); done) | exact rfl | omega | decide) only [zb_228_1, zb_228_7, r_aload_0, r_inv_1_0, r_inv_1_1, r_inv_1_2, r_inv_1_3, r_inv_1_4, r_K0, r_K1, r_iconst, r_istore_1i, r_istore_1r, r_istore_1j, r_goto_w, r_iload_1, r_gf_640, r_ial, r_ial30, r_ial32, r_icmp_ge, r_gf_648, r_istore_2i, r_istore_2r, r_istore_2j, r_iload_2, r_inv_2_0, r_inv_2_1, r_inv_2_2, r_inv_2_3, r_inv_2_4, r_istore_3i, r_istore_3r, r_istore_3j, r_iload_3, r_icmp_ne, r_imul, r_iadd, r_gf_675, r_goto, r_iastore, r_iinc_3i, r_iinc_3r, r_iinc_3j, r_iinc_1i, r_iinc_1r, r_iinc_1j, r_gf_642, r_iinc_2i, r_iinc_2r, r_iinc_2j, r_iret, r_bret_0, r_bret_1, vm_s, vm_row, vm_bound, vm_aside, g0, gn, Int.le_refl, ↓reduceIte, not_true_eq_false, not_false_eq_true, Int.reduceEq, Int.reduceLE, Int.reduceLT, Int.reduceAdd, Int.reduceNeg, Int.reduceMul, Int.reduceSub, Int.reduceToNat]
    have hPa3 : zPaC p H V3 := by
      obtain ⟨q1, q2, q3⟩ := hPa
      refine ⟨(f3.2 3 (by simp)).trans q1, ?_, fun k hk => ?_⟩
      · unfold zInts; rw [f3.1 166 (by omega) (by simp)]; exact q2
      · exact (q3 k hk).of (hH k hk) (fun i _ _ => by rw [f3.1 166 (by omega) (by simp)])
    have hI7 : zInts V3 167 230 := fun i i0 i1 => by rw [a3 i i0 i1]; exact hI i i0 i1
    have hC7 : zMCr ρ V3 167 0 := (zMC_r.mp hC).of ⟨n1, c1⟩ (fun i i0 i1 => by rw [Int.zero_add]; exact a3 i i0 i1)
    have hcount := z_iter (i := 0) (n := ρ.c) (I := fun _ (_ : Value) => True) (P := fun k q => zwp (zcall d) 228 Q (zB 228 8) [.ref 164, zi (zct (fun j => decide ((zTg ρ ρ.n.toNat).1.K 2 j ≠ ρ.K 2 j)) k), zi k, q] [] (s, V3)) c0
    refine hcount ?_ ?_ w3 trivial
    · rintro k w3 k0 k1 - ih
      have ea : V3 167 (110 + 5 * k + 2) = zi (ρ.K 2 k) := by rw [a3 _ (by omega) (by omega)]; exact hC.2.2.2 2 k (by omega) (by omega) k0 k1
      have es : V3 165 (110 + 5 * k + 2) = zi ((zTg ρ ρ.n.toNat).1.K 2 k) := hC3.2.2.2 2 k (by omega) (by omega) k0 (by rw [i1.c]; exact k1)
      have r1 := (hW.2.2.1 k k0 k1).2.2.1
      have r2 := (i2.2.2.1 k k0 (by rw [i1.c]; exact k1)).2.2.1
      have := ih (zi (110 + 5 * k + 2)) trivial
      rw [zct_s k0] at this
      conv => rw [zb_228_8]
      simp (disch := first | assumption | exact zk_228 | ((repeat (first | exact z1n | refine z1I ?_ | refine z1R ?_)); done) | exact rfl | omega | decide) only [zb_228_9, zb_228_10, r_aload_0, r_inv_1_0, r_inv_1_1, r_inv_1_2, r_inv_1_3, r_inv_1_4, r_K0, r_K1, r_iconst, r_istore_1i, r_istore_1r, r_istore_1j, r_goto_w, r_iload_1, r_gf_640, r_ial, r_ial30, r_ial32, r_icmp_ge, r_gf_648, r_istore_2i, r_istore_2r, r_istore_2j, r_iload_2, r_inv_2_0, r_inv_2_1, r_inv_2_2, r_inv_2_3, r_inv_2_4, r_istore_3i, r_istore_3r, r_istore_3j, r_iload_3, r_icmp_ne, r_imul, r_iadd, r_gf_675, r_goto, r_iastore, r_iinc_3i, r_iinc_3r, r_iinc_3j, r_iinc_1i, r_iinc_1r, r_iinc_1j, r_gf_642, r_iinc_2i, r_iinc_2r, r_iinc_2j, r_iret, r_bret_0, r_bret_1, vm_s, vm_row, vm_bound, vm_aside, g0, g2, gc, ea, es, ↓reduceIte, not_true_eq_false, not_false_eq_true, Int.reduceEq, Int.reduceLE, Int.reduceLT, Int.reduceAdd, Int.reduceNeg, Int.reduceMul, Int.reduceSub, Int.reduceToNat]
      rw [if_neg (by omega)]
      by_cases q : (zTg ρ ρ.n.toNat).1.K 2 k = ρ.K 2 k
      · rw [if_neg (by simpa using q), Int.add_zero]
        rw [if_neg (by simpa using q)] at this
        exact this
      · rw [if_pos q]
        rw [if_pos (by simpa using q)] at this
        exact this
    · rintro w3 -
      simp (disch := first | assumption | exact zk_228 | ((repeat (first | exact z1n | refine z1I ?_ | refine z1R ?_)); done) | exact rfl | omega | decide) only [zb_228_8, zb_228_11, r_aload_0, r_inv_1_0, r_inv_1_1, r_inv_1_2, r_inv_1_3, r_inv_1_4, r_K0, r_K1, r_iconst, r_istore_1i, r_istore_1r, r_istore_1j, r_goto_w, r_iload_1, r_gf_640, r_ial, r_ial30, r_ial32, r_icmp_ge, r_gf_648, r_istore_2i, r_istore_2r, r_istore_2j, r_iload_2, r_inv_2_0, r_inv_2_1, r_inv_2_2, r_inv_2_3, r_inv_2_4, r_istore_3i, r_istore_3r, r_istore_3j, r_iload_3, r_icmp_ne, r_imul, r_iadd, r_gf_675, r_goto, r_iastore, r_iinc_3i, r_iinc_3r, r_iinc_3j, r_iinc_1i, r_iinc_1r, r_iinc_1j, r_gf_642, r_iinc_2i, r_iinc_2r, r_iinc_2j, r_iret, r_bret_0, r_bret_1, vm_s, vm_row, vm_bound, vm_aside, g0, gc, Int.le_refl, ↓reduceIte, not_true_eq_false, not_false_eq_true, Int.reduceEq, Int.reduceLE, Int.reduceLT, Int.reduceAdd, Int.reduceNeg, Int.reduceMul, Int.reduceSub, Int.reduceToNat]
      refine m_ends (by omega) hM3 hPa3 p0 p1 hI7 hC7 ⟨n1, c1⟩ hH (fun V5 f5 q5 t5 => ?_)
      simp (disch := first | assumption | exact zk_228 | ((repeat (first | exact z1n | refine z1I ?_ | refine z1R ?_)); done) | exact rfl | omega | decide) only [r_aload_0, r_inv_1_0, r_inv_1_1, r_inv_1_2, r_inv_1_3, r_inv_1_4, r_K0, r_K1, r_iconst, r_istore_1i, r_istore_1r, r_istore_1j, r_goto_w, r_iload_1, r_gf_640, r_ial, r_ial30, r_ial32, r_icmp_ge, r_gf_648, r_istore_2i, r_istore_2r, r_istore_2j, r_iload_2, r_inv_2_0, r_inv_2_1, r_inv_2_2, r_inv_2_3, r_inv_2_4, r_istore_3i, r_istore_3r, r_istore_3j, r_iload_3, r_icmp_ne, r_imul, r_iadd, r_gf_675, r_goto, r_iastore, r_iinc_3i, r_iinc_3r, r_iinc_3j, r_iinc_1i, r_iinc_1r, r_iinc_1j, r_gf_642, r_iinc_2i, r_iinc_2r, r_iinc_2j, r_iret, r_bret_0, r_bret_1, vm_s, vm_row, vm_bound, vm_aside, ↓reduceIte, not_true_eq_false, not_false_eq_true, Int.reduceEq, Int.reduceLE, Int.reduceLT, Int.reduceAdd, Int.reduceNeg, Int.reduceMul, Int.reduceSub, Int.reduceToNat]
      refine hQ V5 ((f3.mono (fun r hr => by simp at hr; simp; omega) (fun _ h => by simp at h)).tr (f5.mono (fun r hr => by simp at hr; simp [hr]) (fun _ h => h))) ?_ ?_ q5 t5
      · exact hC3.fm f5 (by decide)
      · unfold zInts; rw [f5.1 165 (by omega) (by simp)]; exact I3
set_option maxRecDepth 20000 in
theorem m_setLimit (hd : 3 ≤ d) (hM : zMP s V) (hC : zMC ρ V) (hI : zInts V 165 230) (hW : zWF ρ) {p : Int} {H : Nat → zR} (hPa : zPaC p H V) (p0 : 0 ≤ p) (p1 : p ≤ 4) (hH : ∀ k : Nat, (k : Int) < p → (H k).n ≤ 12 ∧ (H k).c ≤ 24) {k v : Int} (hk : zI32 k) (hv : zI32 v)
    (h1 : ¬ (0 ≤ k ∧ k < ρ.c) → Q (.inl (some (zi 0))) (s, zput V 164 6 (zi 1))) (h2 : 0 ≤ k ∧ k < ρ.c → ¬ (1 ≤ v ∧ v ≤ 500) → Q (.inl (some (zi 0))) (s, zput V 164 6 (zi 2)))
    (h0 : 0 ≤ k ∧ k < ρ.c → 1 ≤ v ∧ v ≤ 500 → ∀ V', zFm [165, 166, 167] [3, 6] V V' → zMC (ρ.sK 2 k v) V' → zInts V' 165 230 → zPaC (zHiQ p + 1 : Nat) (zHiN p H ρ) V' → V' 164 6 = zi 0 → Q (.inl (some (zi (ρ.K 2 k)))) (s, V')) : zcall d 198 [.ref 164, zi k, zi v] (s, V) Q := by
  obtain ⟨n0, n1, c0, c1⟩ := hW.1
  have i1 : zI32 1 := ⟨by omega, by omega⟩
  have i2 : zI32 500 := ⟨by omega, by omega⟩
  have tM := hM.1
  have vm_s : V 164 0 = .ref 165 := (hM.2 0 (by decide)).1
  have tm_s : s.tg 165 = 20 := (hM.2 0 (by decide)).2.1
  have lm_s : s.ln 165 = 230 := (hM.2 0 (by decide)).2.2
  obtain ⟨d, rfl⟩ : ∃ e, d = e + 1 := ⟨d - 1, by omega⟩
  simp (disch := first | assumption | omega) only [zc_198]
  by_cases e1 : 0 ≤ k ∧ k < ρ.c
  · by_cases e2 : 1 ≤ v ∧ v ≤ 500
    · have h0' := h0 e1 e2
      obtain ⟨a1, a2⟩ := e1
      obtain ⟨b1, b2⟩ := e2
      simp (disch := first | assumption | exact zk_198 | ((repeat (first | exact z1n | refine z1I ?_ | refine z1R ?_)); done) | exact rfl | omega | decide) only [zb_198_0, zb_198_1, zb_198_2, r_aload_0, r_iload_1, r_inv_2_0, r_inv_2_1, r_inv_2_2, r_inv_2_3, r_inv_2_4, r_K0, r_K1, r_if_ne, r_iconst, r_iret, r_bret_0, r_bret_1, r_iload_2, r_inv_3_0, r_inv_3_1, r_inv_3_2, r_inv_3_3, r_inv_3_4, r_inv_1_0, r_inv_1_1, r_inv_1_2, r_inv_1_3, r_inv_1_4, r_istore_3i, r_istore_3r, r_istore_3j, r_gf_640, r_imul, r_iadd, r_iastore, r_iload_3, vm_s, m_isCall (hC := hC), m_in, a1, a2, b1, b2, and_self, ↓reduceIte, not_true_eq_false, not_false_eq_true, Int.reduceEq, Int.reduceLE, Int.reduceLT, Int.reduceAdd, Int.reduceNeg, Int.reduceMul, Int.reduceSub, Int.reduceToNat]
      refine m_hold (by omega) hM hI (fun V1 f1 e1 => ?_)
      have hM1 : zMP s V1 := hM.fm f1 (by decide)
      have hC1 : zMC ρ V1 := hC.fm f1 (by decide)
      have g0 : V1 164 0 = .ref 165 := (f1.2 0 (by simp)).trans vm_s
      simp (disch := first | assumption | exact zk_198 | ((repeat (first | exact z1n | refine z1I ?_ | refine z1R ?_)); done) | exact rfl | omega | decide) only [r_aload_0, r_iload_1, r_inv_2_0, r_inv_2_1, r_inv_2_2, r_inv_2_3, r_inv_2_4, r_K0, r_K1, r_if_ne, r_iconst, r_iret, r_bret_0, r_bret_1, r_iload_2, r_inv_3_0, r_inv_3_1, r_inv_3_2, r_inv_3_3, r_inv_3_4, r_inv_1_0, r_inv_1_1, r_inv_1_2, r_inv_1_3, r_inv_1_4, r_istore_3i, r_istore_3r, r_istore_3j, r_gf_640, r_imul, r_iadd, r_iastore, r_iload_3, vm_s, m_callOf (hC := hC1), g0, ↓reduceIte, not_true_eq_false, not_false_eq_true, Int.reduceEq, Int.reduceLE, Int.reduceLT, Int.reduceAdd, Int.reduceNeg, Int.reduceMul, Int.reduceSub, Int.reduceToNat]
      have f2 : zFm [165, 167] [] V (zput V1 165 (110 + 5 * k + 2) (zi v)) := (f1.mono (fun r hr => by simp at hr; simp [hr]) (fun _ h => h)).pr (by simp) (by omega)
      have hM2 := hM.fm f2 (by decide)
      have hPa2 : zPaC p H (zput V1 165 (110 + 5 * k + 2) (zi v)) := by
        obtain ⟨q1, q2, q3⟩ := hPa
        refine ⟨(f2.2 3 (by simp)).trans q1, ?_, fun k hk => ?_⟩
        · unfold zInts; rw [f2.1 166 (by omega) (by simp)]; exact q2
        · exact (q3 k hk).of (hH k hk) (fun i _ _ => by rw [f2.1 166 (by omega) (by simp)])
      have a7 : ∀ i, 0 ≤ i → i < 230 → zput V1 165 (110 + 5 * k + 2) (zi v) 167 i = V 165 i := fun i i0 i1 => by rw [zput_r (by omega)]; exact e1 i i0 i1
      have hI1 : zInts V1 165 230 := by unfold zInts; rw [f1.1 165 (by omega) (by simp)]; exact hI
      refine m_ends (by omega) hM2 hPa2 p0 p1 (fun i i0 i1 => by rw [a7 i i0 i1]; exact hI i i0 i1) ((zMC_r.mp hC).of ⟨n1, c1⟩ (fun i i0 i1 => by rw [Int.zero_add]; exact a7 i i0 i1)) ⟨n1, c1⟩ hH (fun V5 f5 q5 t5 => ?_)
      simp (disch := first | assumption | exact zk_198 | ((repeat (first | exact z1n | refine z1I ?_ | refine z1R ?_)); done) | exact rfl | omega | decide) only [r_aload_0, r_iload_1, r_inv_2_0, r_inv_2_1, r_inv_2_2, r_inv_2_3, r_inv_2_4, r_K0, r_K1, r_if_ne, r_iconst, r_iret, r_bret_0, r_bret_1, r_iload_2, r_inv_3_0, r_inv_3_1, r_inv_3_2, r_inv_3_3, r_inv_3_4, r_inv_1_0, r_inv_1_1, r_inv_1_2, r_inv_1_3, r_inv_1_4, r_istore_3i, r_istore_3r, r_istore_3j, r_gf_640, r_imul, r_iadd, r_iastore, r_iload_3, vm_s, ↓reduceIte, not_true_eq_false, not_false_eq_true, Int.reduceEq, Int.reduceLE, Int.reduceLT, Int.reduceAdd, Int.reduceNeg, Int.reduceMul, Int.reduceSub, Int.reduceToNat]
      refine h0' V5 ((f2.mono (fun r hr => by simp at hr; simp; omega) (fun _ h => by simp at h)).tr (f5.mono (fun r hr => by simp at hr; simp [hr]) (fun _ h => h))) ?_ ?_ q5 t5
      · exact (hC1.sK n1 a1).fm f5 (by decide)
      · have := hI1.put (r' := 165) (k := 110 + 5 * k + 2) (z := v)
        unfold zInts; rw [f5.1 165 (by omega) (by simp)]; exact this
    · have := h2 e1 e2
      simp (disch := first | assumption | exact zk_198 | ((repeat (first | exact z1n | refine z1I ?_ | refine z1R ?_)); done) | exact rfl | omega | decide) only [zb_198_0, zb_198_1, r_aload_0, r_iload_1, r_inv_2_0, r_inv_2_1, r_inv_2_2, r_inv_2_3, r_inv_2_4, r_K0, r_K1, r_if_ne, r_iconst, r_iret, r_bret_0, r_bret_1, r_iload_2, r_inv_3_0, r_inv_3_1, r_inv_3_2, r_inv_3_3, r_inv_3_4, r_inv_1_0, r_inv_1_1, r_inv_1_2, r_inv_1_3, r_inv_1_4, r_istore_3i, r_istore_3r, r_istore_3j, r_gf_640, r_imul, r_iadd, r_iastore, r_iload_3, vm_s, m_isCall (hC := hC), m_in, e1, e2, m_fails, ↓reduceIte, not_true_eq_false, not_false_eq_true, Int.reduceEq, Int.reduceLE, Int.reduceLT, Int.reduceAdd, Int.reduceNeg, Int.reduceMul, Int.reduceSub, Int.reduceToNat]
      exact this
  · have := h1 e1
    simp (disch := first | assumption | exact zk_198 | ((repeat (first | exact z1n | refine z1I ?_ | refine z1R ?_)); done) | exact rfl | omega | decide) only [zb_198_0, r_aload_0, r_iload_1, r_inv_2_0, r_inv_2_1, r_inv_2_2, r_inv_2_3, r_inv_2_4, r_K0, r_K1, r_if_ne, r_iconst, r_iret, r_bret_0, r_bret_1, r_iload_2, r_inv_3_0, r_inv_3_1, r_inv_3_2, r_inv_3_3, r_inv_3_4, r_inv_1_0, r_inv_1_1, r_inv_1_2, r_inv_1_3, r_inv_1_4, r_istore_3i, r_istore_3r, r_istore_3j, r_gf_640, r_imul, r_iadd, r_iastore, r_iload_3, vm_s, m_isCall (hC := hC), e1, m_fails, ↓reduceIte, not_true_eq_false, not_false_eq_true, Int.reduceEq, Int.reduceLE, Int.reduceLT, Int.reduceAdd, Int.reduceNeg, Int.reduceMul, Int.reduceSub, Int.reduceToNat]
    exact this
end
