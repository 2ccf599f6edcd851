/-! FAILURE SETS, 5: all rows filled -/
section
variable {d : Nat} {s : zS} {V : zV} {Q : zO → zH → Prop} {a : Nat} {ρ : zR} {h : zH}
theorem zFP.row {V V' : zV} (hF : zFP s V) (h1 : V' 139 = V 139) (h2 : V' 140 = V 140) : zFP s V' := by
  obtain ⟨f1, ⟨f2, f3⟩, f4, f6, f7⟩ := hF
  exact ⟨f1, ⟨by rw [h1]; exact f2, by rw [h1]; exact f3⟩, f4, fun y hy => by rw [h2]; exact f6 y hy, f7⟩
set_option maxRecDepth 20000 in
theorem c_fill (hd : 3 ≤ d) (ha : a + 18 ≤ 116) (hF : zFP s V) (hM : zSM s V) (hG : zGP s V) (hS : zSrd ρ V) (hP : zStP s V a) (hC : zStC ρ V a) (hW : zWF ρ) (hQ : ∀ V', zFrg 141 154 V V' → zFB ρ V' → Q (.inl none) (s, V')) : zcall d 7 [.ref 139, .ref a, .ref 116] (s, V) Q := by
  obtain ⟨n0, n1, c0, c1⟩ := hW.1
  have f1 := hF.1
  have tO := hP.1
  have g1 := hG.1
  have vn := hC.1
  have hw := zTwo_rng n1
  obtain ⟨w0, w1⟩ := zWd_rng n1
  have e1 : zshr (zTwo ρ.n) 6 = ((2 ^ ρ.n.toNat / 64 : Nat) : Int) := by
    unfold zTwo at hw ⊢
    rw [zshr_n (by omega) (by omega) (by omega)]
    show ((2 ^ ρ.n.toNat >>> 6 : Nat) : Int) = _
    rw [Nat.shiftRight_eq_div_pow]
  have e2 : (if (1 : Int) < ((2 ^ ρ.n.toNat / 64 : Nat) : Int) then ((2 ^ ρ.n.toNat / 64 : Nat) : Int) else 1) = zWd ρ.n := by
    unfold zWd
    split
    · rw [if_neg (by omega)]
    · rw [if_pos (by omega)]
  have i1 : zI32 1 := ⟨by omega, by omega⟩
  have i2 : zI32 ((2 ^ ρ.n.toNat / 64 : Nat) : Int) := by
    unfold zTwo at hw
    exact ⟨by omega, by omega⟩
  generalize hWd : zWd ρ.n = W at w0 w1 e2
  obtain ⟨d, rfl⟩ : ∃ e, d = e + 1 := ⟨d - 1, by omega⟩
  simp (disch := first | assumption | omega) only [zc_7]
  simp (disch := first | assumption | exact zk_7 | ((repeat (first | exact z1n | refine z1I ?_ | refine z1R ?_)); done) | exact rfl | omega | decide) only [zb_7_0, r_iconst, r_aload_1, r_gf_448, r_ishl, r_ishr, r_inv_2_0, r_inv_2_1, r_inv_2_2, r_inv_2_3, r_inv_2_4, r_K0, r_K1, r_istore_3i, r_istore_3r, r_istore_3j, r_istore_4i, r_istore_4r, r_istore_4j, r_goto_w, r_iload_4, r_aload_2, r_inv_1_0, r_inv_1_1, r_inv_1_2, r_inv_1_3, r_inv_1_4, r_icmp_ge, r_istore_5i, r_istore_5r, r_istore_5j, r_istore_6i, r_istore_6r, r_istore_6j, r_iload_6, r_iload_3, r_aload_0, r_gf_64, r_iload_5, r_aaload, r_lastore, r_lastoreR, r_iinc_6i, r_iinc_6r, r_iinc_6j, r_goto, r_gf_449, r_inv_3_0, r_inv_3_1, r_inv_3_2, r_inv_3_3, r_inv_3_4, r_if_eq, r_inv_4_0, r_inv_4_1, r_inv_4_2, r_inv_4_3, r_inv_4_4, r_iinc_4i, r_iinc_4r, r_iinc_4j, r_ret, vn, zshl_two, e1, c_max, e2, ↓reduceIte, not_true_eq_false, not_false_eq_true, Int.reduceEq, Int.reduceLE, Int.reduceLT, Int.reduceAdd, Int.reduceNeg, Int.reduceMul, Int.reduceSub, Int.reduceToNat]
  have lo := z_iter (i := 0) (n := ρ.n) (I := fun k (u : zV × Value × Value) => zFrg 141 154 V u.1 ∧ ∀ z : Nat, (z : Int) < ρ.n → zin (zDone ρ k.toNat) z = true → zRw u.1 (141 + z) W (fun v => zin (zFs ρ v k) z)) (P := fun k u => zwp (zcall d) 7 Q (zB 7 1) [.ref 139, .ref a, .ref 116, zi W, zi k, u.2.1, u.2.2] [] (s, u.1)) n0
  refine lo ?_ ?_ (V, zJ, zJ) ⟨zFrg.rf, fun z hz h => by
    rw [show zDone ρ (0 : Int).toNat = 0 from rfl, zin_zero] at h; cases h⟩
  · rintro k ⟨V1, w5, w6⟩ k0 k1 ⟨h1, h2⟩ ih
    dsimp only at h1 h2 ih ⊢
    obtain ⟨⟨x0, x1⟩, x2, x3, -⟩ := zPlc_ok hW k0 k1
    obtain ⟨-, -, -, -, dk⟩ := zDone_ok hW k.toNat (by omega)
    have hG1 : zGP s V1 := hG.of (by rw [h1 116 (by omega)]; exact ⟨rfl, rfl, rfl, rfl⟩)
    have hS1 : zSrd ρ V1 := ⟨by rw [h1 116 (by omega)]; exact hS.1, fun j a b => by rw [h1 118 (by omega)]; exact hS.2 j a b⟩
    have hcs := fun K => c_countSorted (Q := K) (d := d) (by omega) hG1 hS1
    have hsa : ∀ K : zO → zH → Prop, zcall d 21 [.ref 116, zi k] (s, V1) K = K (.inl (some (zi (zPlc ρ k)))) (s, V1) := fun K => by
      rw [c_sortedAt (by omega) hG1 hS1 hW ⟨by omega, by omega⟩, if_pos ⟨k0, k1⟩]
    obtain ⟨x, hx⟩ : ∃ x : Nat, zPlc ρ k = x := ⟨(zPlc ρ k).toNat, by omega⟩
    rw [hx] at hsa x0 x1 x2 x3
    have hdone : zDone ρ (k + 1).toNat = zDone ρ k.toNat ||| zone x := by
      rw [show (k + 1).toNat = k.toNat + 1 by omega, ← hx]
      rfl
    obtain ⟨f1', ⟨f2', -⟩, ⟨f4', f5'⟩, f6', -⟩ := id hF
    obtain ⟨y1, y2, y3⟩ := f6' x (by omega)
    have wt : s.tg 140 = 24 ∨ s.tg 140 = 25 ∨ s.tg 140 = 26 := Or.inr (Or.inl f4')
    -- the words of its own
    have l1 := z_iter (i := 0) (n := W) (I := fun i (u : zV) => (∀ r : Nat, r ≠ 141 + x → u r = V1 r) ∧ ∀ w : Nat, (w : Int) < i → ∃ t, u (141 + x) w = .long t ∧ zBt t w (fun v => zin v x)) (P := fun i u => zwp (zcall d) 7 Q (zB 7 2) [.ref 139, .ref a, .ref 116, zi W, zi k, zi (x : Nat), zi i] [] (s, u)) (by omega)
    have key := l1 ?_ ?_ V1 ⟨fun _ _ => rfl, fun w hw => by omega⟩
    · conv => rw [zb_7_1]
      simp (disch := first | assumption | exact zk_7 | ((repeat (first | exact z1n | refine z1I ?_ | refine z1R ?_)); done) | exact rfl | omega | decide) only [r_iconst, r_aload_1, r_gf_448, r_ishl, r_ishr, r_inv_2_0, r_inv_2_1, r_inv_2_2, r_inv_2_3, r_inv_2_4, r_K0, r_K1, r_istore_3i, r_istore_3r, r_istore_3j, r_istore_4i, r_istore_4r, r_istore_4j, r_goto_w, r_iload_4, r_aload_2, r_inv_1_0, r_inv_1_1, r_inv_1_2, r_inv_1_3, r_inv_1_4, r_icmp_ge, r_istore_5i, r_istore_5r, r_istore_5j, r_istore_6i, r_istore_6r, r_istore_6j, r_iload_6, r_iload_3, r_aload_0, r_gf_64, r_iload_5, r_aaload, r_lastore, r_lastoreR, r_iinc_6i, r_iinc_6r, r_iinc_6j, r_goto, r_gf_449, r_inv_3_0, r_inv_3_1, r_inv_3_2, r_inv_3_3, r_inv_3_4, r_if_eq, r_inv_4_0, r_inv_4_1, r_inv_4_2, r_inv_4_3, r_inv_4_4, r_iinc_4i, r_iinc_4r, r_iinc_4j, r_ret, hcs, hsa, ↓reduceIte, not_true_eq_false, not_false_eq_true, Int.reduceEq, Int.reduceLE, Int.reduceLT, Int.reduceAdd, Int.reduceNeg, Int.reduceMul, Int.reduceSub, Int.reduceToNat]
      rw [if_neg (by omega)]
      exact key
    · rintro i V2 i0 i1' ⟨m1, m2⟩ ih2
      obtain ⟨w, rfl⟩ : ∃ w : Nat, i = w := ⟨i.toNat, by omega⟩
      have hM2 : zSM s V2 := ⟨hM.1, hM.2.1, fun j hj => by rw [m1 3 (by omega), h1 3 (by omega)]; exact hM.2.2 j hj⟩
      have u0 : V2 139 0 = .ref 140 := by rw [m1 139 (by omega), h1 139 (by omega)]; exact f2'
      have u1 : V2 140 (x : Int) = .ref (141 + x) := by rw [m1 140 (by omega), h1 140 (by omega)]; exact y1
      conv => rw [zb_7_2]
      simp (disch := first | assumption | exact zk_7 | ((repeat (first | exact z1n | refine z1I ?_ | refine z1R ?_)); done) | exact rfl | omega | decide) only [r_iconst, r_aload_1, r_gf_448, r_ishl, r_ishr, r_inv_2_0, r_inv_2_1, r_inv_2_2, r_inv_2_3, r_inv_2_4, r_K0, r_K1, r_istore_3i, r_istore_3r, r_istore_3j, r_istore_4i, r_istore_4r, r_istore_4j, r_goto_w, r_iload_4, r_aload_2, r_inv_1_0, r_inv_1_1, r_inv_1_2, r_inv_1_3, r_inv_1_4, r_icmp_ge, r_istore_5i, r_istore_5r, r_istore_5j, r_istore_6i, r_istore_6r, r_istore_6j, r_iload_6, r_iload_3, r_aload_0, r_gf_64, r_iload_5, r_aaload, r_lastore, r_lastoreR, r_iinc_6i, r_iinc_6r, r_iinc_6j, r_goto, r_gf_449, r_inv_3_0, r_inv_3_1, r_inv_3_2, r_inv_3_3, r_inv_3_4, r_if_eq, r_inv_4_0, r_inv_4_1, r_inv_4_2, r_inv_4_3, r_inv_4_4, r_iinc_4i, r_iinc_4r, r_iinc_4j, r_ret, u0, u1, ↓reduceIte, not_true_eq_false, not_false_eq_true, Int.reduceEq, Int.reduceLE, Int.reduceLT, Int.reduceAdd, Int.reduceNeg, Int.reduceMul, Int.reduceSub, Int.reduceToNat]
      rw [if_neg (by omega)]
      refine c_members (by omega) hM2 (by omega) (by omega) (by omega) (fun t ht => ?_)
      have := ih2 (zput V2 (141 + x) (w : Int) (.long t)) ⟨fun r hr => (zput_row hr).trans (m1 r hr), fun w' hw' => by
        by_cases z : w' = w
        · subst z
          exact ⟨_, zput_at, ht⟩
        · rw [zput_i (by omega)]; exact m2 w' (by omega)⟩
      simp (disch := first | assumption | exact zk_7 | ((repeat (first | exact z1n | refine z1I ?_ | refine z1R ?_)); done) | exact rfl | omega | decide) only [r_iconst, r_aload_1, r_gf_448, r_ishl, r_ishr, r_inv_2_0, r_inv_2_1, r_inv_2_2, r_inv_2_3, r_inv_2_4, r_K0, r_K1, r_istore_3i, r_istore_3r, r_istore_3j, r_istore_4i, r_istore_4r, r_istore_4j, r_goto_w, r_iload_4, r_aload_2, r_inv_1_0, r_inv_1_1, r_inv_1_2, r_inv_1_3, r_inv_1_4, r_icmp_ge, r_istore_5i, r_istore_5r, r_istore_5j, r_istore_6i, r_istore_6r, r_istore_6j, r_iload_6, r_iload_3, r_aload_0, r_gf_64, r_iload_5, r_aaload, r_lastore, r_lastoreR, r_iinc_6i, r_iinc_6r, r_iinc_6j, r_goto, r_gf_449, r_inv_3_0, r_inv_3_1, r_inv_3_2, r_inv_3_3, r_inv_3_4, r_if_eq, r_inv_4_0, r_inv_4_1, r_inv_4_2, r_inv_4_3, r_inv_4_4, r_iinc_4i, r_iinc_4r, r_iinc_4j, r_ret, ↓reduceIte, not_true_eq_false, not_false_eq_true, Int.reduceEq, Int.reduceLE, Int.reduceLT, Int.reduceAdd, Int.reduceNeg, Int.reduceMul, Int.reduceSub, Int.reduceToNat]
      exact this
    · rintro V2 ⟨m1, m2⟩
      simp (disch := first | assumption | exact zk_7 | ((repeat (first | exact z1n | refine z1I ?_ | refine z1R ?_)); done) | exact rfl | omega | decide) only [zb_7_2, zb_7_3, r_iconst, r_aload_1, r_gf_448, r_ishl, r_ishr, r_inv_2_0, r_inv_2_1, r_inv_2_2, r_inv_2_3, r_inv_2_4, r_K0, r_K1, r_istore_3i, r_istore_3r, r_istore_3j, r_istore_4i, r_istore_4r, r_istore_4j, r_goto_w, r_iload_4, r_aload_2, r_inv_1_0, r_inv_1_1, r_inv_1_2, r_inv_1_3, r_inv_1_4, r_icmp_ge, r_istore_5i, r_istore_5r, r_istore_5j, r_istore_6i, r_istore_6r, r_istore_6j, r_iload_6, r_iload_3, r_aload_0, r_gf_64, r_iload_5, r_aaload, r_lastore, r_lastoreR, r_iinc_6i, r_iinc_6r, r_iinc_6j, r_goto, r_gf_449, r_inv_3_0, r_inv_3_1, r_inv_3_2, r_inv_3_3, r_inv_3_4, r_if_eq, r_inv_4_0, r_inv_4_1, r_inv_4_2, r_inv_4_3, r_inv_4_4, r_iinc_4i, r_iinc_4r, r_iinc_4j, r_ret, Int.le_refl, ↓reduceIte, not_true_eq_false, not_false_eq_true, Int.reduceEq, Int.reduceLE, Int.reduceLT, Int.reduceAdd, Int.reduceNeg, Int.reduceMul, Int.reduceSub, Int.reduceToNat]
      -- its groups
      have l2 := z_iter (i := 0) (n := ρ.c) (I := fun i (u : zV) => (∀ r : Nat, r ≠ 153 → r ≠ 141 + x → u r = V1 r) ∧ zRw u (141 + x) W (fun v => zin v x || zany (fun h => decide (ρ.K 0 h = x ∧ ρ.K 4 h = 0) && zGrp ρ h (zFs ρ v k)) 0 i)) (P := fun i u => zwp (zcall d) 7 Q (zB 7 4) [.ref 139, .ref a, .ref 116, zi W, zi k, zi (x : Nat), zi i] [] (s, u)) c0
      refine l2 ?_ ?_ V2 ⟨fun r _ hr => m1 r hr, fun w hw => by
        obtain ⟨t, t1, t2⟩ := m2 w hw
        exact ⟨t, t1, zBt_congr t2 (fun v _ => by rw [zany_0, Bool.or_false])⟩⟩
      · rintro i V3 i0 i1' ⟨p1, p2⟩ ih3
        have q1 : ∀ r, r < 141 ∨ 154 ≤ r → V3 r = V r := fun r hr => (p1 r (by omega) (by omega)).trans (h1 r hr)
        have hF3 : zFP s V3 := zFP.row hF (q1 139 (by omega)) (q1 140 (by omega))
        have hP3 : zStP s V3 a := hP.frg (lo := 141) (hi := 154) q1 (by omega)
        have hC3 : zStC ρ V3 a := hC.frg (lo := 141) (hi := 154) q1 (by omega)
        have vc := hC3.2.1
        have wk := hW.2.2.1 i i0 i1'
        have hih := fun K => c_isHeadOf (Q := K) (d := d) (by omega) hP3 hC3 hW (k := i) (x := x) i0 i1' (by omega) x1
        have hin := fun K => c_isNeeded (Q := K) (d := d) (by omega) hP3 hC3 hW (k := i) i0 i1'
        have skip : ¬ (ρ.K 0 i = x ∧ ρ.K 4 i = 0) → zwp (zcall d) 7 Q (zB 7 4) [.ref 139, .ref a, .ref 116, zi W, zi k, zi (x : Nat), zi (i + 1)] [] (s, V3) := fun hno =>
          ih3 V3 ⟨p1, p2.congr (fun v => by rw [zany_s i0, decide_eq_false hno, Bool.false_and, Bool.or_false])⟩
        conv => rw [zb_7_4]
        by_cases z1 : ρ.K 0 i = x ∧ ρ.K 4 i ≠ 2
        · by_cases z2 : ρ.K 4 i = 0
          · have hdep : ∀ k', 0 ≤ k' → k' < ρ.c → (k' = i ∨ zLead ρ k' = i) → zRw V3 (141 + (ρ.K 1 k').toNat) W (fun v => zin (zFs ρ v k) (ρ.K 1 k')) := by
              intro k' a0 a1 hk'
              have wk' := hW.2.2.1 k' a0 a1
              have hcaller : ρ.K 0 k' = x := by
                rcases hk' with rfl | hl
                · exact z1.1
                · unfold zLead at hl
                  by_cases c4 : ρ.K 4 k' = 2
                  · rw [if_pos c4] at hl
                    have := (zHd_is (ρ := ρ) (x := ρ.K 0 k') (j := k'.toNat) (by rw [hl]; exact i0)).1.1
                    rw [hl] at this
                    rw [← this]; exact z1.1
                  · rw [if_neg c4] at hl
                    omega
              have hd1 : zDep ρ x (ρ.K 1 k') := Relation.TransGen.single ⟨k', a0, a1, hcaller, rfl⟩
              have hdn := x3 (ρ.K 1 k') wk'.2.1.1 hd1
              have hne : ρ.K 1 k' ≠ x := fun c => by
                rw [c, x2] at hdn
                cases hdn
              obtain ⟨z, hz⟩ : ∃ z : Nat, ρ.K 1 k' = z := ⟨(ρ.K 1 k').toNat, by omega⟩
              rw [hz] at hdn hne ⊢
              rw [Int.toNat_natCast]
              exact (h2 z (by omega) hdn).row (p1 _ (by omega) (by omega))
            simp (disch := first | assumption | exact zk_7 | ((repeat (first | exact z1n | refine z1I ?_ | refine z1R ?_)); done) | exact rfl | omega | decide) only [r_iconst, r_aload_1, r_gf_448, r_ishl, r_ishr, r_inv_2_0, r_inv_2_1, r_inv_2_2, r_inv_2_3, r_inv_2_4, r_K0, r_K1, r_istore_3i, r_istore_3r, r_istore_3j, r_istore_4i, r_istore_4r, r_istore_4j, r_goto_w, r_iload_4, r_aload_2, r_inv_1_0, r_inv_1_1, r_inv_1_2, r_inv_1_3, r_inv_1_4, r_icmp_ge, r_istore_5i, r_istore_5r, r_istore_5j, r_istore_6i, r_istore_6r, r_istore_6j, r_iload_6, r_iload_3, r_aload_0, r_gf_64, r_iload_5, r_aaload, r_lastore, r_lastoreR, r_iinc_6i, r_iinc_6r, r_iinc_6j, r_goto, r_gf_449, r_inv_3_0, r_inv_3_1, r_inv_3_2, r_inv_3_3, r_inv_3_4, r_if_eq, r_inv_4_0, r_inv_4_1, r_inv_4_2, r_inv_4_3, r_inv_4_4, r_iinc_4i, r_iinc_4r, r_iinc_4j, r_ret, vc, hih, hin, z1, z2, and_self, ↓reduceIte, not_true_eq_false, not_false_eq_true, Int.reduceEq, Int.reduceLE, Int.reduceLT, Int.reduceAdd, Int.reduceNeg, Int.reduceMul, Int.reduceSub, Int.reduceToNat]
            rw [if_neg (by omega)]
            have wk4 : s.tg 153 = 21 ∧ s.ln 153 = 64 := hF3.2.2.2.2
            first
              | rw [if_pos z1]
              | skip
            first
              | simp (disch := first | assumption | exact zk_7 | ((repeat (first | exact z1n | refine z1I ?_ | refine z1R ?_)); done) | exact rfl | omega | decide) only [r_iconst, r_aload_1, r_gf_448, r_ishl, r_ishr, r_inv_2_0, r_inv_2_1, r_inv_2_2, r_inv_2_3, r_inv_2_4, r_K0, r_K1, r_istore_3i, r_istore_3r, r_istore_3j, r_istore_4i, r_istore_4r, r_istore_4j, r_goto_w, r_iload_4, r_aload_2, r_inv_1_0, r_inv_1_1, r_inv_1_2, r_inv_1_3, r_inv_1_4, r_icmp_ge, r_istore_5i, r_istore_5r, r_istore_5j, r_istore_6i, r_istore_6r, r_istore_6j, r_iload_6, r_iload_3, r_aload_0, r_gf_64, r_iload_5, r_aaload, r_lastore, r_lastoreR, r_iinc_6i, r_iinc_6r, r_iinc_6j, r_goto, r_gf_449, r_inv_3_0, r_inv_3_1, r_inv_3_2, r_inv_3_3, r_inv_3_4, r_if_eq, r_inv_4_0, r_inv_4_1, r_inv_4_2, r_inv_4_3, r_inv_4_4, r_iinc_4i, r_iinc_4r, r_iinc_4j, r_ret, hin, z2, ↓reduceIte, not_true_eq_false, not_false_eq_true, Int.reduceEq, Int.reduceLE, Int.reduceLT, Int.reduceAdd, Int.reduceNeg, Int.reduceMul, Int.reduceSub, Int.reduceToNat]
              | skip
            refine c_addGroup (d := d) (by omega) (by omega) hF3 hP3 hC3 hW i0 i1' w0 w1 (P := fun y v => zin (zFs ρ v k) y) (x := x) z1.1 hdep p2 (fun V4 b1 b2 => ?_)
            have := ih3 V4 ⟨fun r r1 r2 => (b1 r r1 r2).trans (p1 r r1 r2), b2.congr (fun v => by
              have hg : zGk ρ (fun y v => zin (zFs ρ v k) y) i ρ.c v = zGrp ρ i (zFs ρ v k) := rfl
              rw [zany_s i0, decide_eq_true (⟨z1.1, z2⟩ : ρ.K 0 i = x ∧ ρ.K 4 i = 0), Bool.true_and, hg, Bool.or_assoc])⟩
            simp (disch := first | assumption | exact zk_7 | ((repeat (first | exact z1n | refine z1I ?_ | refine z1R ?_)); done) | exact rfl | omega | decide) only [zb_7_5, r_iconst, r_aload_1, r_gf_448, r_ishl, r_ishr, r_inv_2_0, r_inv_2_1, r_inv_2_2, r_inv_2_3, r_inv_2_4, r_K0, r_K1, r_istore_3i, r_istore_3r, r_istore_3j, r_istore_4i, r_istore_4r, r_istore_4j, r_goto_w, r_iload_4, r_aload_2, r_inv_1_0, r_inv_1_1, r_inv_1_2, r_inv_1_3, r_inv_1_4, r_icmp_ge, r_istore_5i, r_istore_5r, r_istore_5j, r_istore_6i, r_istore_6r, r_istore_6j, r_iload_6, r_iload_3, r_aload_0, r_gf_64, r_iload_5, r_aaload, r_lastore, r_lastoreR, r_iinc_6i, r_iinc_6r, r_iinc_6j, r_goto, r_gf_449, r_inv_3_0, r_inv_3_1, r_inv_3_2, r_inv_3_3, r_inv_3_4, r_if_eq, r_inv_4_0, r_inv_4_1, r_inv_4_2, r_inv_4_3, r_inv_4_4, r_iinc_4i, r_iinc_4r, r_iinc_4j, r_ret, ↓reduceIte, not_true_eq_false, not_false_eq_true, Int.reduceEq, Int.reduceLE, Int.reduceLT, Int.reduceAdd, Int.reduceNeg, Int.reduceMul, Int.reduceSub, Int.reduceToNat]
            exact this
          · have := skip (fun c => z2 c.2)
            simp (disch := first | assumption | exact zk_7 | ((repeat (first | exact z1n | refine z1I ?_ | refine z1R ?_)); done) | exact rfl | omega | decide) only [zb_7_5, r_iconst, r_aload_1, r_gf_448, r_ishl, r_ishr, r_inv_2_0, r_inv_2_1, r_inv_2_2, r_inv_2_3, r_inv_2_4, r_K0, r_K1, r_istore_3i, r_istore_3r, r_istore_3j, r_istore_4i, r_istore_4r, r_istore_4j, r_goto_w, r_iload_4, r_aload_2, r_inv_1_0, r_inv_1_1, r_inv_1_2, r_inv_1_3, r_inv_1_4, r_icmp_ge, r_istore_5i, r_istore_5r, r_istore_5j, r_istore_6i, r_istore_6r, r_istore_6j, r_iload_6, r_iload_3, r_aload_0, r_gf_64, r_iload_5, r_aaload, r_lastore, r_lastoreR, r_iinc_6i, r_iinc_6r, r_iinc_6j, r_goto, r_gf_449, r_inv_3_0, r_inv_3_1, r_inv_3_2, r_inv_3_3, r_inv_3_4, r_if_eq, r_inv_4_0, r_inv_4_1, r_inv_4_2, r_inv_4_3, r_inv_4_4, r_iinc_4i, r_iinc_4r, r_iinc_4j, r_ret, vc, hih, hin, z1, z2, ↓reduceIte, not_true_eq_false, not_false_eq_true, Int.reduceEq, Int.reduceLE, Int.reduceLT, Int.reduceAdd, Int.reduceNeg, Int.reduceMul, Int.reduceSub, Int.reduceToNat]
            rw [if_neg (by omega)]
            first
              | exact this
              | (rw [if_pos z1]; exact this)
              | (split <;> exact this)
        · have := skip (fun c => z1 ⟨c.1, by omega⟩)
          simp (disch := first | assumption | exact zk_7 | ((repeat (first | exact z1n | refine z1I ?_ | refine z1R ?_)); done) | exact rfl | omega | decide) only [zb_7_5, r_iconst, r_aload_1, r_gf_448, r_ishl, r_ishr, r_inv_2_0, r_inv_2_1, r_inv_2_2, r_inv_2_3, r_inv_2_4, r_K0, r_K1, r_istore_3i, r_istore_3r, r_istore_3j, r_istore_4i, r_istore_4r, r_istore_4j, r_goto_w, r_iload_4, r_aload_2, r_inv_1_0, r_inv_1_1, r_inv_1_2, r_inv_1_3, r_inv_1_4, r_icmp_ge, r_istore_5i, r_istore_5r, r_istore_5j, r_istore_6i, r_istore_6r, r_istore_6j, r_iload_6, r_iload_3, r_aload_0, r_gf_64, r_iload_5, r_aaload, r_lastore, r_lastoreR, r_iinc_6i, r_iinc_6r, r_iinc_6j, r_goto, r_gf_449, r_inv_3_0, r_inv_3_1, r_inv_3_2, r_inv_3_3, r_inv_3_4, r_if_eq, r_inv_4_0, r_inv_4_1, r_inv_4_2, r_inv_4_3, r_inv_4_4, r_iinc_4i, r_iinc_4r, r_iinc_4j, r_ret, vc, hih, z1, ↓reduceIte, not_true_eq_false, not_false_eq_true, Int.reduceEq, Int.reduceLE, Int.reduceLT, Int.reduceAdd, Int.reduceNeg, Int.reduceMul, Int.reduceSub, Int.reduceToNat]
          rw [if_neg (by omega)]
          exact this
      · rintro V3 ⟨p1, p2⟩
        have hC3 : zStC ρ V3 a := hC.frg (lo := 141) (hi := 154) (fun r hr => (p1 r (by omega) (by omega)).trans (h1 r hr)) (by omega)
        have vc := hC3.2.1
        have := ih (V3, zi (x : Nat), zi ρ.c) ⟨fun r hr => (p1 r (by omega) (by omega)).trans (h1 r hr), fun z hz hd => by
          rw [hdone, zin_or, Bool.or_eq_true, zone_bit x0 (by omega), decide_eq_true_eq] at hd
          by_cases e : z = x
          · subst e
            refine p2.congr (fun v => ?_)
            rw [zFs_s k0, hx]
            have ho := zFs_out hW v k.toNat (by omega) x0 x2
            rw [Int.toNat_of_nonneg k0] at ho
            have hl : zLack ρ z (zFs ρ v k) = zany (fun h => decide (ρ.K 0 h = z ∧ ρ.K 4 h = 0) && zGrp ρ h (zFs ρ v k)) 0 ρ.c := rfl
            rw [← hl]
            by_cases c : zLack ρ z (zFs ρ v k) = true
            · rw [if_pos c, zin_or, zone_bit x0 x0, c]
              simp
            · rw [if_neg c, ho]
              have c : zLack ρ z (zFs ρ v k) = false := by simpa using c
              rw [c, Bool.or_false]
          · have hd : zin (zDone ρ k.toNat) z = true := hd.resolve_right (by omega)
            refine ((h2 z hz hd).row (p1 _ (by omega) (by omega))).congr (fun v => ?_)
            rw [zFs_s k0, hx]
            split
            · rw [zin_or, zone_bit x0 (by omega), decide_eq_false (by omega), Bool.or_false]
            · rfl⟩
        dsimp only at this
        simp (disch := first | assumption | exact zk_7 | ((repeat (first | exact z1n | refine z1I ?_ | refine z1R ?_)); done) | exact rfl | omega | decide) only [zb_7_4, zb_7_6, r_iconst, r_aload_1, r_gf_448, r_ishl, r_ishr, r_inv_2_0, r_inv_2_1, r_inv_2_2, r_inv_2_3, r_inv_2_4, r_K0, r_K1, r_istore_3i, r_istore_3r, r_istore_3j, r_istore_4i, r_istore_4r, r_istore_4j, r_goto_w, r_iload_4, r_aload_2, r_inv_1_0, r_inv_1_1, r_inv_1_2, r_inv_1_3, r_inv_1_4, r_icmp_ge, r_istore_5i, r_istore_5r, r_istore_5j, r_istore_6i, r_istore_6r, r_istore_6j, r_iload_6, r_iload_3, r_aload_0, r_gf_64, r_iload_5, r_aaload, r_lastore, r_lastoreR, r_iinc_6i, r_iinc_6r, r_iinc_6j, r_goto, r_gf_449, r_inv_3_0, r_inv_3_1, r_inv_3_2, r_inv_3_3, r_inv_3_4, r_if_eq, r_inv_4_0, r_inv_4_1, r_inv_4_2, r_inv_4_3, r_inv_4_4, r_iinc_4i, r_iinc_4r, r_iinc_4j, r_ret, vc, Int.le_refl, ↓reduceIte, not_true_eq_false, not_false_eq_true, Int.reduceEq, Int.reduceLE, Int.reduceLT, Int.reduceAdd, Int.reduceNeg, Int.reduceMul, Int.reduceSub, Int.reduceToNat]
        exact this
  · rintro ⟨V1, w5, w6⟩ ⟨h1, h2⟩
    dsimp only at h1 h2 ⊢
    have hG1 : zGP s V1 := hG.of (by rw [h1 116 (by omega)]; exact ⟨rfl, rfl, rfl, rfl⟩)
    have hS1 : zSrd ρ V1 := ⟨by rw [h1 116 (by omega)]; exact hS.1, fun j a b => by rw [h1 118 (by omega)]; exact hS.2 j a b⟩
    have hcs := fun K => c_countSorted (Q := K) (d := d) (by omega) hG1 hS1
    have := hQ V1 h1 (fun y hy w hw => by
      rw [hWd] at hw
      exact h2 y hy (zDone_all hW (by omega) hy) w hw)
    simp (disch := first | assumption | exact zk_7 | ((repeat (first | exact z1n | refine z1I ?_ | refine z1R ?_)); done) | exact rfl | omega | decide) only [zb_7_1, zb_7_7, r_iconst, r_aload_1, r_gf_448, r_ishl, r_ishr, r_inv_2_0, r_inv_2_1, r_inv_2_2, r_inv_2_3, r_inv_2_4, r_K0, r_K1, r_istore_3i, r_istore_3r, r_istore_3j, r_istore_4i, r_istore_4r, r_istore_4j, r_goto_w, r_iload_4, r_aload_2, r_inv_1_0, r_inv_1_1, r_inv_1_2, r_inv_1_3, r_inv_1_4, r_icmp_ge, r_istore_5i, r_istore_5r, r_istore_5j, r_istore_6i, r_istore_6r, r_istore_6j, r_iload_6, r_iload_3, r_aload_0, r_gf_64, r_iload_5, r_aaload, r_lastore, r_lastoreR, r_iinc_6i, r_iinc_6r, r_iinc_6j, r_goto, r_gf_449, r_inv_3_0, r_inv_3_1, r_inv_3_2, r_inv_3_3, r_inv_3_4, r_if_eq, r_inv_4_0, r_inv_4_1, r_inv_4_2, r_inv_4_3, r_inv_4_4, r_iinc_4i, r_iinc_4r, r_iinc_4j, r_ret, hcs, Int.le_refl, ↓reduceIte, not_true_eq_false, not_false_eq_true, Int.reduceEq, Int.reduceLE, Int.reduceLT, Int.reduceAdd, Int.reduceNeg, Int.reduceMul, Int.reduceSub, Int.reduceToNat]
    exact this
end
