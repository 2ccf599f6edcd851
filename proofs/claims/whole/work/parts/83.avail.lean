/-! AVAILABILITY, 2: in the class and in the model -/
/-- the class's row of chances, made -/
def zCh (s : zS) (V : zV) (r : Nat) : Prop := V 139 2 = .ref r ∧ (r = 154 ∨ 192 ≤ r) ∧ r < s.sz ∧ s.tg r = 22 ∧ s.ln r = 4096
section
variable {d : Nat} {s : zS} {V : zV} {Q : zO → zH → Prop} {a r : Nat} {ρ : zR} {h : zH}
set_option maxRecDepth 20000 in
theorem c_chances2 (hF : zFP s V) (hP : zStP s V a) (hC : zStC ρ V a) (hW : zWF ρ) (ha : a + 18 ≤ 139) (hr : zCh s V r) {pf : Int} (hp : zI32 pf) (hQ : ∀ V', (∀ q : Nat, q ≠ r → V' q = V q) → (∀ v : Nat, v < 2 ^ ρ.n.toNat → V' r v = .double (zavP ρ pf v ρ.n)) → Q (.inl none) (s, V')) : zwp (zcall d) 15 Q (zB 15 1) [.ref 139, .ref a, zi pf, zJ, zJ, zJ, zJ, zJ, zJ, zJ, zJ] [] (s, V) := by
  obtain ⟨n0, n1, c0, c1⟩ := hW.1
  obtain ⟨r1, r2, r3, r4, r5⟩ := hr
  obtain ⟨p1, p2⟩ := hp
  have f1 := hF.1
  have hw := zTwo_rng n1
  unfold zTwo at hw
  have tO := hP.1
  have vA := hP.2.1
  have tA := hP.2.2.1
  have lA := hP.2.2.2.1
  have vn := hC.1
  have vc := hC.2.1
  have vs5 : V (a + 1) 5 = .ref (a + 7) := (hP.2.2.2.2.2.2.2.1 5 (by omega)).1
  have ts5 : s.tg (a + 7) = 20 := (hP.2.2.2.2.2.2.2.1 5 (by omega)).2.1
  have ls5 : s.ln (a + 7) = 12 := (hP.2.2.2.2.2.2.2.1 5 (by omega)).2.2
  have es5 : ∀ x : Int, 0 ≤ x → x < ρ.n → V (a + 7) x = zi (ρ.S 5 x) := hC.2.2.1 5 (by omega)
  have r139 : r ≠ 139 := by omega
  have r139' : 139 ≠ r := by omega
  have lo := z_iter (i := 0) (n := ρ.n) (I := fun k (u : zV) => (∀ q : Nat, q ≠ r → u q = V q) ∧ ∀ v : Nat, v < 2 ^ k.toNat → u r v = .double (zavP ρ pf v k)) (P := fun k u => ∀ w4 w5 w6 w7 w8 w9 w10, zwp (zcall d) 15 Q (zB 15 2) [.ref 139, .ref a, zi pf, zi k, w4, w5, w6, w7, w8, w9, w10] [] (s, u)) n0
  have key := lo ?_ ?_ (zput V r 0 (.double z1d)) ⟨fun q hq => zput_row hq, fun v hv => by
    have : v = 0 := by simpa using hv
    subst this
    exact zput_at⟩ zJ zJ zJ zJ zJ zJ zJ
  · simp (disch := first | assumption | exact zk_15 | ((repeat (first | exact z1n | refine z1I ?_ | refine z1R ?_)); done) | exact rfl | omega | decide) only [zb_15_1, r_aload_0, r_gf_66, r_alen, r_if_ne, r_iconst, r_newa_double, r_pf_66, r_goto_w, r_dconst, r_dastore, r_istore_3i, r_istore_3r, r_istore_3j, r_iload_3, r_aload_1, r_gf_448, r_icmp_ge, r_iload_2, r_icmp_ne, r_goto, r_gf_450, r_aaload, r_ial, r_ial30, r_ial32, r_istore_4i, r_istore_4r, r_istore_4j, r_iload_4, r_i2d, r_ddiv, r_dstore_5i, r_dstore_5r, r_dstore_5j, r_isub, r_dstore_7i, r_dstore_7r, r_dstore_7j, r_ishl, r_istore_9i, r_istore_9r, r_istore_9j, r_istore_10i, r_istore_10r, r_istore_10j, r_iload_10, r_iload_9, r_iadd, r_daload, r_dload_7, r_dmul, r_dload_5, r_iinc_10i, r_iinc_10r, r_iinc_10j, r_iinc_3i, r_iinc_3r, r_iinc_3j, r_ret, vA, vn, vc, vs5, es5, r1, z1d_eq, ↓reduceIte, not_true_eq_false, not_false_eq_true, Int.reduceEq, Int.reduceLE, Int.reduceLT, Int.reduceAdd, Int.reduceNeg, Int.reduceMul, Int.reduceSub, Int.reduceToNat]
    exact key
  · rintro k V1 k0 k1 ⟨g1, g2⟩ ih w4 w5 w6 w7 w8 w9 w10
    obtain ⟨x, rfl⟩ : ∃ x : Nat, k = x := ⟨k.toNat, by omega⟩
    rw [Int.toNat_natCast] at g2
    have u1 : V1 139 2 = .ref r := by rw [g1 139 (by omega)]; exact r1
    have un : V1 a 0 = zi ρ.n := by rw [g1 a (by omega)]; exact vn
    have uA : V1 a 2 = .ref (a + 1) := by rw [g1 a (by omega)]; exact vA
    have u5 : V1 (a + 1) 5 = .ref (a + 7) := by rw [g1 _ (by omega)]; exact vs5
    have e5 : V1 (a + 7) x = zi (ρ.S 5 x) := by rw [g1 _ (by omega)]; exact es5 x k0 k1
    have t5 : s.tg (a + 7) = 20 := ts5
    have l5 : s.ln (a + 7) = 12 := ls5
    have hi := zavI_rng hW (pf := pf) k0 k1
    have hid : zavI ρ pf x = if (x : Int) = pf then 1000 else ρ.S 5 x := rfl
    have hx12 : x < 12 := by omega
    have hpl : 2 ^ (x + 1) ≤ 2 ^ 12 := Nat.pow_le_pow_right (by omega) (by omega)
    obtain ⟨X, hX⟩ : ∃ X : Nat, 2 ^ x = X := ⟨_, rfl⟩
    have h2k : 2 ^ (x + 1) = X + X := by rw [Nat.pow_succ, Nat.mul_two, hX]
    rw [h2k] at hpl
    have hpl : X ≤ 2048 := by omega
    rw [hX] at g2
    have zl1 : ∀ v : Nat, v < X → zin v (x : Int) = false := fun v hv => zin_lt_p2 (by omega)
    have zl2 : ∀ v : Nat, v < X → zin (X + v) (x : Int) = true := fun v hv => by rw [← hX]; exact zin_p2_eq (by omega)
    have zl3 : ∀ (v : Nat) (y : Int), 0 ≤ y → y < x → zin (X + v) y = zin v y := fun v y y0 y1 => by rw [← hX]; exact zin_p2_lt y0 y1
    have n1 := zFc_nn (n := zavI ρ pf x) hi.1 hi.2
    have n2 := zFc_nn (n := 1000 - zavI ρ pf x) (by omega) (by omega)
    have hsh : zshl 1 (x : Int) = (X : Int) := by
      have := zshl_1 (x := (x : Int)) (by omega) (by omega)
      rwa [Int.toNat_natCast, hX] at this
    generalize hI : zavI ρ pf x = I at hi hid n1 n2
    have inner := z_iter (i := 0) (n := (X : Int)) (I := fun j (u : zV) => (∀ q : Nat, q ≠ r → u q = V q) ∧ (∀ v : Nat, (v : Int) < j → u r v = .double (zavP ρ pf v (x + 1)) ∧ u r ((X + v : Nat) : Int) = .double (zavP ρ pf (X + v) (x + 1))) ∧ ∀ v : Nat, j ≤ (v : Int) → v < X → u r v = .double (zavP ρ pf v x)) (P := fun j u => zwp (zcall d) 15 Q (zB 15 5) [.ref 139, .ref a, zi pf, zi x, zi I, .double (zFc I), zJ, .double (zFc (1000 - I)), zJ, zi (X : Int), zi j] [] (s, u)) (by omega)
    have key2 := inner ?_ ?_ V1 ⟨g1, fun v hv => by omega, fun v _ hv => g2 v hv⟩
    · conv => rw [zb_15_2]
      by_cases q : (x : Int) = pf
      · rw [if_pos q] at hid
        rw [hid] at n1 n2 key2
        rw [show (1000 : Int) - 1000 = 0 from rfl] at n2 key2
        simp (disch := first | assumption | exact zk_15 | ((repeat (first | exact z1n | refine z1I ?_ | refine z1R ?_)); done) | exact rfl | omega | decide) only [zb_15_3, zb_15_4, r_aload_0, r_gf_66, r_alen, r_if_ne, r_iconst, r_newa_double, r_pf_66, r_goto_w, r_dconst, r_dastore, r_istore_3i, r_istore_3r, r_istore_3j, r_iload_3, r_aload_1, r_gf_448, r_icmp_ge, r_iload_2, r_icmp_ne, r_goto, r_gf_450, r_aaload, r_ial, r_ial30, r_ial32, r_istore_4i, r_istore_4r, r_istore_4j, r_iload_4, r_i2d, r_ddiv, r_dstore_5i, r_dstore_5r, r_dstore_5j, r_isub, r_dstore_7i, r_dstore_7r, r_dstore_7j, r_ishl, r_istore_9i, r_istore_9r, r_istore_9j, r_istore_10i, r_istore_10r, r_istore_10j, r_iload_10, r_iload_9, r_iadd, r_daload, r_dload_7, r_dmul, r_dload_5, r_iinc_10i, r_iinc_10r, r_iinc_10j, r_iinc_3i, r_iinc_3r, r_iinc_3j, r_ret, vA, vn, vc, vs5, es5, un, q, zK3_eq, n1, zFc_eq, hsh, ↓reduceIte, not_true_eq_false, not_false_eq_true, Int.reduceEq, Int.reduceLE, Int.reduceLT, Int.reduceAdd, Int.reduceNeg, Int.reduceMul, Int.reduceSub, Int.reduceToNat]
        rw [if_neg (by omega)]
        first
          | exact key2
          | (simp only [← q] at key2 ⊢
             rw [hsh]
             exact key2)
      · rw [if_neg q] at hid
        rw [hid] at n1 n2 key2 hi
        have i1 : -2147483648 ≤ ρ.S 5 x := by omega
        have i2 : ρ.S 5 x < 2147483648 := by omega
        simp (disch := first | assumption | exact zk_15 | ((repeat (first | exact z1n | refine z1I ?_ | refine z1R ?_)); done) | exact rfl | omega | decide) only [zb_15_3, zb_15_4, r_aload_0, r_gf_66, r_alen, r_if_ne, r_iconst, r_newa_double, r_pf_66, r_goto_w, r_dconst, r_dastore, r_istore_3i, r_istore_3r, r_istore_3j, r_iload_3, r_aload_1, r_gf_448, r_icmp_ge, r_iload_2, r_icmp_ne, r_goto, r_gf_450, r_aaload, r_ial, r_ial30, r_ial32, r_istore_4i, r_istore_4r, r_istore_4j, r_iload_4, r_i2d, r_ddiv, r_dstore_5i, r_dstore_5r, r_dstore_5j, r_isub, r_dstore_7i, r_dstore_7r, r_dstore_7j, r_ishl, r_istore_9i, r_istore_9r, r_istore_9j, r_istore_10i, r_istore_10r, r_istore_10j, r_iload_10, r_iload_9, r_iadd, r_daload, r_dload_7, r_dmul, r_dload_5, r_iinc_10i, r_iinc_10r, r_iinc_10j, r_iinc_3i, r_iinc_3r, r_iinc_3j, r_ret, vA, vn, vc, vs5, es5, un, q, uA, u5, e5, zK3_eq, n1, zFc_eq, hsh, ↓reduceIte, not_true_eq_false, not_false_eq_true, Int.reduceEq, Int.reduceLE, Int.reduceLT, Int.reduceAdd, Int.reduceNeg, Int.reduceMul, Int.reduceSub, Int.reduceToNat]
        rw [if_neg (by omega)]
        exact key2
    · rintro j V2 j0 j1 ⟨m1, m2, m3⟩ ih2
      obtain ⟨v, rfl⟩ : ∃ v : Nat, j = v := ⟨j.toNat, by omega⟩
      have hv : v < X := by omega
      have ev := m3 v (Int.le_refl _) hv
      have w1 : V2 139 2 = .ref r := by rw [m1 139 (by omega)]; exact r1
      have nv : zavN ρ pf v x = I := by unfold zavN; rw [zl1 v hv, hI]; rfl
      have nv2 : zavN ρ pf (X + v) x = 1000 - I := by unfold zavN; rw [zl2 v hv, hI]; rfl
      have pc : zavP ρ pf (X + v) x = zavP ρ pf v x := zavP_congr (by omega) (fun y y0 y1 => zl3 v y y0 y1)
      have d1 := zavP_nn hW (pf := pf) (v := v) k0 k1
      have d2 := zavP_nn hW (pf := pf) (v := X + v) k0 k1
      have s1 := zavP_s (ρ := ρ) (pf := pf) (v := v) k0
      have s2 := zavP_s (ρ := ρ) (pf := pf) (v := X + v) k0
      rw [nv] at d1 s1
      rw [nv2, pc] at d2 s2
      have ad : (X : Int) + (v : Int) = ((X + v : Nat) : Int) := by omega
      have ev2 : zput V2 r ((X + v : Nat) : Int) (.double (FP.dmul (zavP ρ pf v x) (zFc (1000 - I)))) r v = .double (zavP ρ pf v x) := by rw [zput_i (by omega)]; exact ev
      have w2 : zput V2 r ((X + v : Nat) : Int) (.double (FP.dmul (zavP ρ pf v x) (zFc (1000 - I)))) 139 2 = .ref r := by rw [zput_r (by omega)]; exact w1
      have := ih2 (zput (zput V2 r ((X + v : Nat) : Int) (.double (FP.dmul (zavP ρ pf v x) (zFc (1000 - I))))) r (v : Int) (.double (FP.dmul (zavP ρ pf v x) (zFc I)))) ⟨fun q hq => (zput_row hq).trans ((zput_row hq).trans (m1 q hq)), fun v' hv' => by
        by_cases z : v' = v
        · subst z
          refine ⟨by rw [zput_at, s1], ?_⟩
          rw [zput_i (by omega), zput_at, s2]
        · obtain ⟨b1, b2⟩ := m2 v' (by omega)
          exact ⟨by rw [zput_i (by omega), zput_i (by omega)]; exact b1, by rw [zput_i (by omega), zput_i (by omega)]; exact b2⟩, fun v' h1' h2' => by
        rw [zput_i (by omega), zput_i (by omega)]; exact m3 v' (by omega) h2'⟩
      conv => rw [zb_15_5]
      simp (disch := first | assumption | exact zk_15 | ((repeat (first | exact z1n | refine z1I ?_ | refine z1R ?_)); done) | exact rfl | omega | decide) only [r_aload_0, r_gf_66, r_alen, r_if_ne, r_iconst, r_newa_double, r_pf_66, r_goto_w, r_dconst, r_dastore, r_istore_3i, r_istore_3r, r_istore_3j, r_iload_3, r_aload_1, r_gf_448, r_icmp_ge, r_iload_2, r_icmp_ne, r_goto, r_gf_450, r_aaload, r_ial, r_ial30, r_ial32, r_istore_4i, r_istore_4r, r_istore_4j, r_iload_4, r_i2d, r_ddiv, r_dstore_5i, r_dstore_5r, r_dstore_5j, r_isub, r_dstore_7i, r_dstore_7r, r_dstore_7j, r_ishl, r_istore_9i, r_istore_9r, r_istore_9j, r_istore_10i, r_istore_10r, r_istore_10j, r_iload_10, r_iload_9, r_iadd, r_daload, r_dload_7, r_dmul, r_dload_5, r_iinc_10i, r_iinc_10r, r_iinc_10j, r_iinc_3i, r_iinc_3r, r_iinc_3j, r_ret, vA, vn, vc, vs5, es5, w1, ad, ev, d1, d2, w2, ev2, ↓reduceIte, not_true_eq_false, not_false_eq_true, Int.reduceEq, Int.reduceLE, Int.reduceLT, Int.reduceAdd, Int.reduceNeg, Int.reduceMul, Int.reduceSub, Int.reduceToNat]
      rw [if_neg (by omega)]
      exact this
    · rintro V2 ⟨m1, m2, m3⟩
      have := ih V2 ⟨m1, fun v hv => by
        rw [show ((x : Int) + 1).toNat = x + 1 by omega, h2k] at hv
        by_cases c : v < X
        · exact (m2 v (by omega)).1
        · have := (m2 (v - X) (by omega)).2
          rw [show X + (v - X) = v by omega] at this
          exact this⟩ (zi I) (.double (zFc I)) zJ (.double (zFc (1000 - I))) zJ (zi (X : Int)) (zi (X : Int))
      simp (disch := first | assumption | exact zk_15 | ((repeat (first | exact z1n | refine z1I ?_ | refine z1R ?_)); done) | exact rfl | omega | decide) only [zb_15_5, zb_15_6, r_aload_0, r_gf_66, r_alen, r_if_ne, r_iconst, r_newa_double, r_pf_66, r_goto_w, r_dconst, r_dastore, r_istore_3i, r_istore_3r, r_istore_3j, r_iload_3, r_aload_1, r_gf_448, r_icmp_ge, r_iload_2, r_icmp_ne, r_goto, r_gf_450, r_aaload, r_ial, r_ial30, r_ial32, r_istore_4i, r_istore_4r, r_istore_4j, r_iload_4, r_i2d, r_ddiv, r_dstore_5i, r_dstore_5r, r_dstore_5j, r_isub, r_dstore_7i, r_dstore_7r, r_dstore_7j, r_ishl, r_istore_9i, r_istore_9r, r_istore_9j, r_istore_10i, r_istore_10r, r_istore_10j, r_iload_10, r_iload_9, r_iadd, r_daload, r_dload_7, r_dmul, r_dload_5, r_iinc_10i, r_iinc_10r, r_iinc_10j, r_iinc_3i, r_iinc_3r, r_iinc_3j, r_ret, vA, vn, vc, vs5, es5, Int.le_refl, ↓reduceIte, not_true_eq_false, not_false_eq_true, Int.reduceEq, Int.reduceLE, Int.reduceLT, Int.reduceAdd, Int.reduceNeg, Int.reduceMul, Int.reduceSub, Int.reduceToNat]
      exact this
  · rintro V1 ⟨g1, g2⟩ w4 w5 w6 w7 w8 w9 w10
    have un : V1 a 0 = zi ρ.n := by rw [g1 a (by omega)]; exact vn
    have := hQ V1 g1 g2
    simp (disch := first | assumption | exact zk_15 | ((repeat (first | exact z1n | refine z1I ?_ | refine z1R ?_)); done) | exact rfl | omega | decide) only [zb_15_2, zb_15_7, r_aload_0, r_gf_66, r_alen, r_if_ne, r_iconst, r_newa_double, r_pf_66, r_goto_w, r_dconst, r_dastore, r_istore_3i, r_istore_3r, r_istore_3j, r_iload_3, r_aload_1, r_gf_448, r_icmp_ge, r_iload_2, r_icmp_ne, r_goto, r_gf_450, r_aaload, r_ial, r_ial30, r_ial32, r_istore_4i, r_istore_4r, r_istore_4j, r_iload_4, r_i2d, r_ddiv, r_dstore_5i, r_dstore_5r, r_dstore_5j, r_isub, r_dstore_7i, r_dstore_7r, r_dstore_7j, r_ishl, r_istore_9i, r_istore_9r, r_istore_9j, r_istore_10i, r_istore_10r, r_istore_10j, r_iload_10, r_iload_9, r_iadd, r_daload, r_dload_7, r_dmul, r_dload_5, r_iinc_10i, r_iinc_10r, r_iinc_10j, r_iinc_3i, r_iinc_3r, r_iinc_3j, r_ret, vA, vn, vc, vs5, es5, un, Int.le_refl, ↓reduceIte, not_true_eq_false, not_false_eq_true, Int.reduceEq, Int.reduceLE, Int.reduceLT, Int.reduceAdd, Int.reduceNeg, Int.reduceMul, Int.reduceSub, Int.reduceToNat]
    exact this
set_option maxRecDepth 20000 in
theorem c_fillM (hd : 1 ≤ d) (hF : zFP s V) (hP : zStP s V a) (hC : zStC ρ V a) (hW : zWF ρ) (ha : a + 18 ≤ 139) (hr : zCh s V r) {pf : Int} (hp : zI32 pf) (hQ : ∀ V', (∀ q : Nat, q ≠ r → V' q = V q) → (∀ v : Nat, v < 2 ^ ρ.n.toNat → V' r v = .double (zavP ρ pf v ρ.n)) → Q (.inl none) (s, V')) : zcall d 15 [.ref 139, .ref a, zi pf] (s, V) Q := by
  have f1 := hF.1
  have key := fun d => c_chances2 (Q := Q) (d := d) hF hP hC hW ha hr hp hQ
  obtain ⟨r1, r2, r3, r4, r5⟩ := hr
  obtain ⟨d, rfl⟩ : ∃ e, d = e + 1 := ⟨d - 1, by omega⟩
  simp (disch := first | assumption | omega) only [zc_15]
  simp (disch := first | assumption | exact zk_15 | ((repeat (first | exact z1n | refine z1I ?_ | refine z1R ?_)); done) | exact rfl | omega | decide) only [zb_15_0, r_aload_0, r_gf_66, r_alen, r_if_ne, r_iconst, r_newa_double, r_pf_66, r_goto_w, r_dconst, r_dastore, r_istore_3i, r_istore_3r, r_istore_3j, r_iload_3, r_aload_1, r_gf_448, r_icmp_ge, r_iload_2, r_icmp_ne, r_goto, r_gf_450, r_aaload, r_ial, r_ial30, r_ial32, r_istore_4i, r_istore_4r, r_istore_4j, r_iload_4, r_i2d, r_ddiv, r_dstore_5i, r_dstore_5r, r_dstore_5j, r_isub, r_dstore_7i, r_dstore_7r, r_dstore_7j, r_ishl, r_istore_9i, r_istore_9r, r_istore_9j, r_istore_10i, r_istore_10r, r_istore_10j, r_iload_10, r_iload_9, r_iadd, r_daload, r_dload_7, r_dmul, r_dload_5, r_iinc_10i, r_iinc_10r, r_iinc_10j, r_iinc_3i, r_iinc_3r, r_iinc_3j, r_ret, r1, r5, ↓reduceIte, not_true_eq_false, not_false_eq_true, Int.reduceEq, Int.reduceLE, Int.reduceLT, Int.reduceAdd, Int.reduceNeg, Int.reduceMul, Int.reduceSub, Int.reduceToNat]
  exact key d
theorem zFP.ext {s' : zS} {V' : zV} {n k : Nat} (hF : zFP s V) (hx : zExt s s' n k) (hs : 192 ≤ s.sz) (h1 : V' 139 0 = V 139 0 ∧ V' 139 1 = V 139 1) (h2 : V' 140 = V 140) : zFP s' V' := by
  obtain ⟨f1, ⟨f2, f3⟩, ⟨f4, f5⟩, f6, f7, f8⟩ := hF
  have e := hx.2.2
  exact ⟨(e 139 (by omega)).1.trans f1, ⟨h1.1.trans f2, h1.2.trans f3⟩, ⟨(e 140 (by omega)).1.trans f4, (e 140 (by omega)).2.trans f5⟩, fun y hy => by
    obtain ⟨y1, y2, y3⟩ := f6 y hy
    exact ⟨by rw [h2]; exact y1, (e _ (by omega)).1.trans y2, (e _ (by omega)).2.trans y3⟩, (e _ (by omega)).1.trans f7, (e _ (by omega)).2.trans f8⟩
set_option maxRecDepth 20000 in
theorem c_fillChances (hd : 1 ≤ d) (hF : zFP s V) (hP : zStP s V a) (hC : zStC ρ V a) (hW : zWF ρ) (ha : a + 18 ≤ 139) (hsz : 192 ≤ s.sz) (hL : zLz s V 139 2 22 154 4096) {pf : Int} (hp : zI32 pf) (hQ : ∀ s' V' r, zExt s s' 1 4096 → (∀ q : Nat, q < 192 → q ≠ 139 → q ≠ 154 → V' q = V q) → zFP s' V' → zCh s' V' r → (∀ v : Nat, v < 2 ^ ρ.n.toNat → V' r v = .double (zavP ρ pf v ρ.n)) → Q (.inl none) (s', V')) : zcall d 15 [.ref 139, .ref a, zi pf] (s, V) Q := by
  obtain ⟨n0, n1, c0, c1⟩ := hW.1
  have f1 := hF.1
  obtain ⟨r, r1, r2, r3, r4, r5⟩ := hL
  rcases r5 with r5 | r5
  · have f1 := hF.1
    obtain ⟨d, rfl⟩ : ∃ e, d = e + 1 := ⟨d - 1, by omega⟩
    simp (disch := first | assumption | omega) only [zc_15]
    have hx : zExt s (s.new 22 4096 4096) 1 4096 := zExt.new (by omega) (by omega)
    have e1 : ∀ q, q ≠ s.sz → q ≠ 139 → zput (zrow V s.sz (fun _ => .double 0)) 139 2 (.ref s.sz) q = V q := fun q q1 q2 => (zput_row q2).trans (zrow_r q1)
    have hP' := hP.ext hx (by omega) (V' := zput (zrow V s.sz (fun _ => .double 0)) 139 2 (.ref s.sz)) (fun q q0 q1 => e1 q (by omega) (by omega))
    have hC' := hC.rows (V' := zput (zrow V s.sz (fun _ => .double 0)) 139 2 (.ref s.sz)) (fun q q0 q1 => e1 q (by omega) (by omega))
    have h139 : ∀ j : Int, j ≠ 2 → zput (zrow V s.sz (fun _ => .double 0)) 139 2 (.ref s.sz) 139 j = V 139 j := fun j hj => by
      rw [zput_i hj, show zrow V s.sz (fun _ => .double 0) 139 = V 139 from zrow_r (by omega)]
    have hF' : zFP (s.new 22 4096 4096) (zput (zrow V s.sz (fun _ => .double 0)) 139 2 (.ref s.sz)) := hF.ext hx hsz ⟨h139 0 (by omega), h139 1 (by omega)⟩ (e1 140 (by omega) (by omega))
    have t22 : (s.new 22 4096 4096).tg s.sz = 22 := if_pos rfl
    have l22 : (s.new 22 4096 4096).ln s.sz = 4096 := if_pos rfl
    have z22 : (s.new 22 4096 4096).sz = s.sz + 1 := rfl
    have hr : zCh (s.new 22 4096 4096) (zput (zrow V s.sz (fun _ => .double 0)) 139 2 (.ref s.sz)) s.sz := ⟨zput_at, Or.inr hsz, by omega, t22, l22⟩
    have key := c_chances2 (Q := Q) (d := d) hF' hP' hC' hW ha hr hp (fun V' g1 g2 => hQ _ V' s.sz hx (fun q q1 q2 q3 => by rw [g1 q (by omega)]; exact e1 q (by omega) q2) (zFP.row hF' (g1 139 (by omega)) (g1 140 (by omega))) ⟨by rw [g1 139 (by omega)]; exact zput_at, Or.inr hsz, by omega, t22, l22⟩ g2)
    have e7 : (4096 : Int).toNat = 4096 := rfl
    have t139 : (s.new 22 4096 4096).tg 139 = 1 := hF'.1
    have t139' : ∀ z : zS, z = s.new 22 4096 4096 → z.tg 139 = 1 := fun z hz => by rw [hz]; exact t139
    simp (disch := first | assumption | exact zk_15 | ((repeat (first | exact z1n | refine z1I ?_ | refine z1R ?_)); done) | exact rfl | omega | decide) only [zb_15_0, r_aload_0, r_gf_66, r_alen, r_if_ne, r_iconst, r_newa_double, r_pf_66, r_goto_w, r_dconst, r_dastore, r_istore_3i, r_istore_3r, r_istore_3j, r_iload_3, r_aload_1, r_gf_448, r_icmp_ge, r_iload_2, r_icmp_ne, r_goto, r_gf_450, r_aaload, r_ial, r_ial30, r_ial32, r_istore_4i, r_istore_4r, r_istore_4j, r_iload_4, r_i2d, r_ddiv, r_dstore_5i, r_dstore_5r, r_dstore_5j, r_isub, r_dstore_7i, r_dstore_7r, r_dstore_7j, r_ishl, r_istore_9i, r_istore_9r, r_istore_9j, r_istore_10i, r_istore_10r, r_istore_10j, r_iload_10, r_iload_9, r_iadd, r_daload, r_dload_7, r_dmul, r_dload_5, r_iinc_10i, r_iinc_10r, r_iinc_10j, r_iinc_3i, r_iinc_3r, r_iinc_3j, r_ret, r1, r5, ↓reduceIte, not_true_eq_false, not_false_eq_true, Int.reduceEq, Int.reduceLE, Int.reduceLT, Int.reduceAdd, Int.reduceNeg, Int.reduceMul, Int.reduceSub, Int.reduceToNat]
    first
      | exact key
      | (simp (disch := first | assumption | exact t139 | exact t139' _ rfl | omega) only [r_pf_66, r_goto_w, e7]
         exact key)
  · exact c_fillM hd hF hP hC hW ha ⟨r1, r2, r3, r4, r5⟩ hp (fun V' g1 g2 => hQ s V' r zExt.rf (fun q q1 q2 q3 => g1 q (by omega)) (zFP.row hF (g1 139 (by omega)) (g1 140 (by omega))) ⟨by rw [g1 139 (by omega)]; exact r1, r2, r3, r4, r5⟩ g2)
set_option maxRecDepth 20000 in
/-- the loop behind -/
theorem c_chance2 (hd : 1 ≤ d) (hF : zFP s V) (hB : zFB ρ V) (hP : zStP s V a) (hC : zStC ρ V a) (hW : zWF ρ) (hr : zCh s V r) {x pf : Int} (x0 : 0 ≤ x) (x1 : x < ρ.n) (hv : ∀ v : Nat, v < 2 ^ ρ.n.toNat → V r v = .double (zavP ρ pf v ρ.n)) {w : Int} : zwp (zcall d) 14 Q (zB 14 1) [.ref 139, .ref a, zi x, zi w, .double z0d, zJ, zi 0] [] (s, V) = Q (.inl (some (.double (zavS ρ pf x (zTwo ρ.n))))) (s, V) := by
  obtain ⟨n0, n1, c0, c1⟩ := hW.1
  obtain ⟨r1, r2, r3, r4, r5⟩ := hr
  have f1 := hF.1
  have hw := zTwo_rng n1
  have vn := hC.1
  have tO := hP.1
  refine (z_chainI (F := fun k => zwp (zcall d) 14 Q (zB 14 1) [.ref 139, .ref a, zi x, zi w, .double (zavS ρ pf x k), zJ, zi k] [] (s, V)) (n := zTwo ρ.n) (by omega) (fun k k0 k1 => ?_)).trans ?_
  · obtain ⟨v, rfl⟩ : ∃ v : Nat, k = v := ⟨k.toNat, by omega⟩
    have hv2 : v < 2 ^ ρ.n.toNat := by unfold zTwo at k1; omega
    have ev := hv v hv2
    have hif := fun K => c_isFailing (Q := K) (d := d) (by omega) hF hB hW x0 x1 hv2
    rw [zavS_s k0, Int.toNat_natCast]
    conv => lhs; rw [zb_14_1]
    by_cases q : zin (zFail ρ v) x = true
    · simp (disch := first | assumption | exact zk_14 | ((repeat (first | exact z1n | refine z1I ?_ | refine z1R ?_)); done) | exact rfl | omega | decide) only [zb_14_2, r_aload_0, r_aload_1, r_iload_3, r_inv_3_0, r_inv_3_1, r_inv_3_2, r_inv_3_3, r_inv_3_4, r_K0, r_K1, r_dconst, r_dstore_4i, r_dstore_4r, r_dstore_4j, r_iconst, r_istore_6i, r_istore_6r, r_istore_6j, r_goto_w, r_iload_6, r_gf_448, r_ishl, r_icmp_ge, r_iload_2, r_if_ne, r_dload_4, r_gf_66, r_daload, r_dadd, r_iinc_6i, r_iinc_6r, r_iinc_6j, r_goto, r_dreturn, vn, zshl_two, hif, q, ↓reduceIte, not_true_eq_false, not_false_eq_true, Int.reduceEq, Int.reduceLE, Int.reduceLT, Int.reduceAdd, Int.reduceNeg, Int.reduceMul, Int.reduceSub, Int.reduceToNat]
      rw [if_neg (by omega)]
    · have q : zin (zFail ρ v) x = false := by simpa using q
      have hn := zavS_nn hW (pf := pf) hv2 q
      generalize zavS ρ pf x v = S at hn
      simp (disch := first | assumption | exact zk_14 | ((repeat (first | exact z1n | refine z1I ?_ | refine z1R ?_)); done) | exact rfl | omega | decide) only [zb_14_2, r_aload_0, r_aload_1, r_iload_3, r_inv_3_0, r_inv_3_1, r_inv_3_2, r_inv_3_3, r_inv_3_4, r_K0, r_K1, r_dconst, r_dstore_4i, r_dstore_4r, r_dstore_4j, r_iconst, r_istore_6i, r_istore_6r, r_istore_6j, r_goto_w, r_iload_6, r_gf_448, r_ishl, r_icmp_ge, r_iload_2, r_if_ne, r_dload_4, r_gf_66, r_daload, r_dadd, r_iinc_6i, r_iinc_6r, r_iinc_6j, r_goto, r_dreturn, vn, zshl_two, hif, q, r1, ev, Bool.false_eq_true, ↓reduceIte, not_true_eq_false, not_false_eq_true, Int.reduceEq, Int.reduceLE, Int.reduceLT, Int.reduceAdd, Int.reduceNeg, Int.reduceMul, Int.reduceSub, Int.reduceToNat]
      rw [if_neg (by omega)]
  · simp (disch := first | assumption | exact zk_14 | ((repeat (first | exact z1n | refine z1I ?_ | refine z1R ?_)); done) | exact rfl | omega | decide) only [zb_14_1, zb_14_3, r_aload_0, r_aload_1, r_iload_3, r_inv_3_0, r_inv_3_1, r_inv_3_2, r_inv_3_3, r_inv_3_4, r_K0, r_K1, r_dconst, r_dstore_4i, r_dstore_4r, r_dstore_4j, r_iconst, r_istore_6i, r_istore_6r, r_istore_6j, r_goto_w, r_iload_6, r_gf_448, r_ishl, r_icmp_ge, r_iload_2, r_if_ne, r_dload_4, r_gf_66, r_daload, r_dadd, r_iinc_6i, r_iinc_6r, r_iinc_6j, r_goto, r_dreturn, vn, zshl_two, Int.le_refl, ↓reduceIte, not_true_eq_false, not_false_eq_true, Int.reduceEq, Int.reduceLE, Int.reduceLT, Int.reduceAdd, Int.reduceNeg, Int.reduceMul, Int.reduceSub, Int.reduceToNat]
set_option maxRecDepth 20000 in
theorem c_chanceM (hd : 2 ≤ d) (hF : zFP s V) (hB : zFB ρ V) (hP : zStP s V a) (hC : zStC ρ V a) (hW : zWF ρ) (ha : a + 18 ≤ 139) (hr : zCh s V r) {x pf : Int} (x0 : 0 ≤ x) (x1 : x < ρ.n) (hp : zI32 pf) (hQ : ∀ V', (∀ q : Nat, q ≠ r → V' q = V q) → Q (.inl (some (.double (zavS ρ pf x (zTwo ρ.n))))) (s, V')) : zcall d 14 [.ref 139, .ref a, zi x, zi pf] (s, V) Q := by
  obtain ⟨n0, n1, c0, c1⟩ := hW.1
  have f1 := hF.1
  obtain ⟨d, rfl⟩ : ∃ e, d = e + 1 := ⟨d - 1, by omega⟩
  simp (disch := first | assumption | omega) only [zc_14]
  simp (disch := first | assumption | exact zk_14 | ((repeat (first | exact z1n | refine z1I ?_ | refine z1R ?_)); done) | exact rfl | omega | decide) only [zb_14_0, r_aload_0, r_aload_1, r_iload_3, r_inv_3_0, r_inv_3_1, r_inv_3_2, r_inv_3_3, r_inv_3_4, r_K0, r_K1, r_dconst, r_dstore_4i, r_dstore_4r, r_dstore_4j, r_iconst, r_istore_6i, r_istore_6r, r_istore_6j, r_goto_w, r_iload_6, r_gf_448, r_ishl, r_icmp_ge, r_iload_2, r_if_ne, r_dload_4, r_gf_66, r_daload, r_dadd, r_iinc_6i, r_iinc_6r, r_iinc_6j, r_goto, r_dreturn, ↓reduceIte, not_true_eq_false, not_false_eq_true, Int.reduceEq, Int.reduceLE, Int.reduceLT, Int.reduceAdd, Int.reduceNeg, Int.reduceMul, Int.reduceSub, Int.reduceToNat]
  obtain ⟨r1, r2, r3, r4, r5⟩ := id hr
  refine c_fillM (by omega) hF hP hC hW ha hr hp (fun V1 g1 g2 => ?_)
  have hF1 : zFP s V1 := zFP.row hF (g1 139 (by omega)) (g1 140 (by omega))
  have hB1 : zFB ρ V1 := fun y hy w hw => by rw [g1 (141 + y) (by omega)]; exact hB y hy w hw
  have hP1 : zStP s V1 a := hP.of (by rw [g1 a (by omega)]) (by rw [g1 a (by omega)]) (g1 _ (by omega)) (g1 _ (by omega))
  have hC1 : zStC ρ V1 a := hC.rows (fun z z0 z1 => g1 z (by omega))
  have key := c_chance2 (Q := Q) (d := d) (by omega) hF1 hB1 hP1 hC1 hW (r := r) ⟨by rw [g1 139 (by omega)]; exact r1, r2, r3, r4, r5⟩ x0 x1 g2 (w := pf)
  simp (disch := first | assumption | exact zk_14 | ((repeat (first | exact z1n | refine z1I ?_ | refine z1R ?_)); done) | exact rfl | omega | decide) only [r_aload_0, r_aload_1, r_iload_3, r_inv_3_0, r_inv_3_1, r_inv_3_2, r_inv_3_3, r_inv_3_4, r_K0, r_K1, r_dconst, r_dstore_4i, r_dstore_4r, r_dstore_4j, r_iconst, r_istore_6i, r_istore_6r, r_istore_6j, r_goto_w, r_iload_6, r_gf_448, r_ishl, r_icmp_ge, r_iload_2, r_if_ne, r_dload_4, r_gf_66, r_daload, r_dadd, r_iinc_6i, r_iinc_6r, r_iinc_6j, r_goto, r_dreturn, z0d_eq, ↓reduceIte, not_true_eq_false, not_false_eq_true, Int.reduceEq, Int.reduceLE, Int.reduceLT, Int.reduceAdd, Int.reduceNeg, Int.reduceMul, Int.reduceSub, Int.reduceToNat]
  rw [key]
  exact hQ V1 g1
set_option maxRecDepth 20000 in
theorem c_chanceOf (hd : 2 ≤ d) (hF : zFP s V) (hB : zFB ρ V) (hP : zStP s V a) (hC : zStC ρ V a) (hW : zWF ρ) (ha : a + 18 ≤ 139) (hsz : 192 ≤ s.sz) (hL : zLz s V 139 2 22 154 4096) {x pf : Int} (x0 : 0 ≤ x) (x1 : x < ρ.n) (hp : zI32 pf) (hQ : ∀ s' V' r, zExt s s' 1 4096 → (∀ q : Nat, q < 192 → q ≠ 139 → q ≠ 154 → V' q = V q) → zFP s' V' → zCh s' V' r → Q (.inl (some (.double (zavS ρ pf x (zTwo ρ.n))))) (s', V')) : zcall d 14 [.ref 139, .ref a, zi x, zi pf] (s, V) Q := by
  obtain ⟨n0, n1, c0, c1⟩ := hW.1
  have f1 := hF.1
  obtain ⟨d, rfl⟩ : ∃ e, d = e + 1 := ⟨d - 1, by omega⟩
  simp (disch := first | assumption | omega) only [zc_14]
  simp (disch := first | assumption | exact zk_14 | ((repeat (first | exact z1n | refine z1I ?_ | refine z1R ?_)); done) | exact rfl | omega | decide) only [zb_14_0, r_aload_0, r_aload_1, r_iload_3, r_inv_3_0, r_inv_3_1, r_inv_3_2, r_inv_3_3, r_inv_3_4, r_K0, r_K1, r_dconst, r_dstore_4i, r_dstore_4r, r_dstore_4j, r_iconst, r_istore_6i, r_istore_6r, r_istore_6j, r_goto_w, r_iload_6, r_gf_448, r_ishl, r_icmp_ge, r_iload_2, r_if_ne, r_dload_4, r_gf_66, r_daload, r_dadd, r_iinc_6i, r_iinc_6r, r_iinc_6j, r_goto, r_dreturn, ↓reduceIte, not_true_eq_false, not_false_eq_true, Int.reduceEq, Int.reduceLE, Int.reduceLT, Int.reduceAdd, Int.reduceNeg, Int.reduceMul, Int.reduceSub, Int.reduceToNat]
  refine c_fillChances (by omega) hF hP hC hW ha hsz hL hp (fun s1 V1 r hx g1 hF1 hr1 g2 => ?_)
  have hB1 : zFB ρ V1 := fun y hy w hw => by rw [g1 (141 + y) (by omega) (by omega) (by omega)]; exact hB y hy w hw
  have hP1 : zStP s1 V1 a := hP.ext hx (by omega) (fun q q0 q1 => g1 q (by omega) (by omega) (by omega))
  have hC1 : zStC ρ V1 a := hC.rows (fun z z0 z1 => g1 z (by omega) (by omega) (by omega))
  have key := c_chance2 (Q := Q) (d := d) (by omega) hF1 hB1 hP1 hC1 hW hr1 x0 x1 g2 (w := pf)
  simp (disch := first | assumption | exact zk_14 | ((repeat (first | exact z1n | refine z1I ?_ | refine z1R ?_)); done) | exact rfl | omega | decide) only [r_aload_0, r_aload_1, r_iload_3, r_inv_3_0, r_inv_3_1, r_inv_3_2, r_inv_3_3, r_inv_3_4, r_K0, r_K1, r_dconst, r_dstore_4i, r_dstore_4r, r_dstore_4j, r_iconst, r_istore_6i, r_istore_6r, r_istore_6j, r_goto_w, r_iload_6, r_gf_448, r_ishl, r_icmp_ge, r_iload_2, r_if_ne, r_dload_4, r_gf_66, r_daload, r_dadd, r_iinc_6i, r_iinc_6r, r_iinc_6j, r_goto, r_dreturn, z0d_eq, ↓reduceIte, not_true_eq_false, not_false_eq_true, Int.reduceEq, Int.reduceLE, Int.reduceLT, Int.reduceAdd, Int.reduceNeg, Int.reduceMul, Int.reduceSub, Int.reduceToNat]
  rw [key]
  exact hQ s1 V1 r hx g1 hF1 hr1
end
