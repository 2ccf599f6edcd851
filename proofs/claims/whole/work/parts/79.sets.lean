/-! FAILURE SETS, 4: how the class fills its rows -/
theorem zFs_out {ρ : zR} (hW : zWF ρ) (v : Nat) (k : Nat) (hk : (k : Int) ≤ ρ.n) {y : Int} (y0 : 0 ≤ y) (hy : zin (zDone ρ k) y = false) : zin (zFs ρ v k) y = zin v y := by
  induction k with
  | zero => rfl
  | succ k ih =>
    obtain ⟨-, -, -, -, i5⟩ := zDone_ok hW (k + 1) hk
    obtain ⟨-, -, -, -, j5⟩ := zDone_ok hW k (by omega)
    obtain ⟨⟨x0, x1⟩, -⟩ := zPlc_ok hW (k := k) (by omega) (by omega)
    have h1 : zin (zDone ρ k) y = false := by
      cases c : zin (zDone ρ k) y
      · rfl
      · obtain ⟨j, a, b⟩ := (j5 y y0).mp c
        rw [(i5 y y0).mpr ⟨j, by omega, b⟩] at hy
        cases hy
    have h2 : zPlc ρ k ≠ y := fun c => by
      rw [(i5 y y0).mpr ⟨k, by omega, c⟩] at hy
      cases hy
    rw [show ((k + 1 : Nat) : Int) = (k : Int) + 1 from rfl, zFs_s (by omega)]
    split
    · rw [zin_or, ih (by omega) h1, zone_bit x0 y0]
      simp [h2]
    · exact ih (by omega) h1
/-- a row of words whose bits are p -/
def zRw (V : zV) (r : Nat) (W : Int) (p : Nat → Bool) : Prop := ∀ w : Nat, (w : Int) < W → ∃ t, V r w = .long t ∧ zBt t w p
theorem zRw.congr {V : zV} {r : Nat} {W : Int} {p q : Nat → Bool} (h : zRw V r W p) (e : ∀ v, p v = q v) : zRw V r W q := fun w hw => by
  obtain ⟨t, a, b⟩ := h w hw
  exact ⟨t, a, zBt_congr b (fun v _ => e v)⟩
theorem zRw.row {V V' : zV} {r : Nat} {W : Int} {p : Nat → Bool} (h : zRw V r W p) (e : V' r = V r) : zRw V' r W p := fun w hw => by rw [e]; exact h w hw
def zSM (s : zS) (V : zV) : Prop := s.tg 3 = 31 ∧ s.ln 3 = 6 ∧ ∀ j : Nat, j < 6 → V 3 j = zStV 3 j
theorem zMb1 : ∀ x : Nat, x < 6 → ∀ b : Nat, b < 64 → (match zStV 3 x with | .long t => t.toBitVec.getLsbD b | _ => false) = b.testBit x := by decide +kernel
theorem zMb2 : ∀ x : Nat, x < 6 → ∃ t, zStV 3 x = .long t := by
  intro x hx
  rcases (by omega : x = 0 ∨ x = 1 ∨ x = 2 ∨ x = 3 ∨ x = 4 ∨ x = 5) with rfl | rfl | rfl | rfl | rfl | rfl <;> exact ⟨_, rfl⟩
/-- the bits of the group of j -/
def zGk (ρ : zR) (P : Int → Nat → Bool) (j k : Int) (v : Nat) : Bool := !zany (fun i => (decide (i = j) || decide (zLead ρ i = j)) && !P (ρ.K 1 i) v) j k
theorem zany_s {p : Int → Bool} {i k : Int} (h : i ≤ k) : zany p i (k + 1) = (zany p i k || p k) := by
  rw [Bool.eq_iff_iff, Bool.or_eq_true, zany_iff, zany_iff]
  constructor
  · rintro ⟨z, a, b, c⟩
    by_cases e : z = k
    · subst e; exact Or.inr c
    · exact Or.inl ⟨z, a, by omega, c⟩
  · rintro (⟨z, a, b, c⟩ | c)
    · exact ⟨z, a, by omega, c⟩
    · exact ⟨k, h, by omega, c⟩
theorem zany_0 {p : Int → Bool} {i : Int} : zany p i i = false := by
  rw [zany_f]
  intro k a b
  omega
section
variable {d : Nat} {s : zS} {V : zV} {Q : zO → zH → Prop} {a : Nat} {ρ : zR} {h : zH}
set_option maxRecDepth 20000 in
theorem c_countSorted (hd : 1 ≤ d) (hG : zGP s V) (hS : zSrd ρ V) : zcall d 22 [.ref 116] (s, V) Q = Q (.inl (some (zi ρ.n))) (s, V) := by
  have g1 := hG.1
  have sn := hS.1
  obtain ⟨d, rfl⟩ : ∃ e, d = e + 1 := ⟨d - 1, by omega⟩
  simp (disch := first | assumption | omega) only [zc_22]
  simp (disch := first | assumption | exact zk_22 | ((repeat (first | exact z1n | refine z1I ?_ | refine z1R ?_)); done) | exact rfl | omega | decide) only [zb_22_0, r_aload_0, r_gf_130, r_iret, r_bret_0, r_bret_1, sn, ↓reduceIte, not_true_eq_false, not_false_eq_true, Int.reduceEq, Int.reduceLE, Int.reduceLT, Int.reduceAdd, Int.reduceNeg, Int.reduceMul, Int.reduceSub, Int.reduceToNat]
set_option maxRecDepth 20000 in
theorem c_sortedAt (hd : 1 ≤ d) (hG : zGP s V) (hS : zSrd ρ V) (hW : zWF ρ) {p : Int} (hp : zI32 p) : zcall d 21 [.ref 116, zi p] (s, V) Q = if 0 ≤ p ∧ p < ρ.n then Q (.inl (some (zi (zPlc ρ p)))) (s, V) else Q (.inl (some (zi (-1)))) (s, V) := by
  obtain ⟨n0, n1, c0, c1⟩ := hW.1
  obtain ⟨p1, p2⟩ := hp
  obtain ⟨g1, ⟨-, g2, -, -⟩, ⟨-, g3, -, -⟩, -, g4, -⟩ := hG
  obtain ⟨sn, sp⟩ := hS
  obtain ⟨d, rfl⟩ : ∃ e, d = e + 1 := ⟨d - 1, by omega⟩
  simp (disch := first | assumption | omega) only [zc_21]
  by_cases q : 0 ≤ p ∧ p < ρ.n
  · obtain ⟨q1, q2⟩ := q
    have hk := sp p q1 q2
    obtain ⟨⟨x0, x1⟩, -⟩ := zPlc_ok hW q1 q2
    rw [if_pos ⟨q1, q2⟩]
    generalize zPlc ρ p = x at hk x0 x1
    simp (disch := first | assumption | exact zk_21 | ((repeat (first | exact z1n | refine z1I ?_ | refine z1R ?_)); done) | exact rfl | omega | decide) only [zb_21_0, zb_21_1, zb_21_2, zb_21_3, r_iload_1, r_if_lt, r_aload_0, r_gf_130, r_icmp_lt, r_goto_w, r_iconst, r_goto, r_gf_129, r_ial, r_ial30, r_ial32, r_iret, r_bret_0, r_bret_1, sn, g2, hk, ↓reduceIte, not_true_eq_false, not_false_eq_true, Int.reduceEq, Int.reduceLE, Int.reduceLT, Int.reduceAdd, Int.reduceNeg, Int.reduceMul, Int.reduceSub, Int.reduceToNat]
    rw [if_neg (by omega), if_pos q2]
  · rw [if_neg q]
    simp (disch := first | assumption | exact zk_21 | ((repeat (first | exact z1n | refine z1I ?_ | refine z1R ?_)); done) | exact rfl | omega | decide) only [zb_21_0, zb_21_1, zb_21_2, zb_21_3, r_iload_1, r_if_lt, r_aload_0, r_gf_130, r_icmp_lt, r_goto_w, r_iconst, r_goto, r_gf_129, r_ial, r_ial30, r_ial32, r_iret, r_bret_0, r_bret_1, sn, g2, ↓reduceIte, not_true_eq_false, not_false_eq_true, Int.reduceEq, Int.reduceLE, Int.reduceLT, Int.reduceAdd, Int.reduceNeg, Int.reduceMul, Int.reduceSub, Int.reduceToNat]
    by_cases q1 : p < 0
    · rw [if_pos q1]
    · rw [if_neg q1, if_neg (by omega)]
set_option maxRecDepth 20000 in
theorem c_members (hd : 2 ≤ d) (hM : zSM s V) {x : Int} (x0 : 0 ≤ x) (x1 : x < 12) {w : Nat} (hw : w < 64) (hQ : ∀ t, zBt t w (fun v => zin v x) → Q (.inl (some (.long t))) (s, V)) : zcall d 8 [zi x, zi (w : Nat)] (s, V) Q := by
  obtain ⟨m1, m2, m3⟩ := hM
  obtain ⟨y, rfl⟩ : ∃ y : Nat, x = y := ⟨x.toNat, by omega⟩
  have hbit : ∀ b : Nat, b < 64 → zin (64 * w + b) y = if y < 6 then b.testBit y else w.testBit (y - 6) := fun b hb => by
    unfold zin
    rw [Int.toNat_natCast]
    exact Nat.testBit_two_pow_mul_add (i := 6) w hb y
  obtain ⟨d, rfl⟩ : ∃ e, d = e + 1 := ⟨d - 1, by omega⟩
  simp (disch := first | assumption | omega) only [zc_8]
  by_cases q : y < 6
  · have e := m3 y q
    obtain ⟨t, ht⟩ := zMb2 y q
    have hb := zMb1 y q
    rw [ht] at e hb
    have := hQ t (fun b hb2 => by
      show _ = zin (64 * w + b) (y : Int)
      rw [hbit b hb2, if_pos q]
      exact hb b hb2)
    have w7 : s.tg 3 = 21 ∨ s.tg 3 = 31 := Or.inr m1
    simp (disch := first | assumption | exact zk_8 | ((repeat (first | exact z1n | refine z1I ?_ | refine z1R ?_)); done) | exact rfl | omega | decide) only [zb_8_0, zb_8_1, zb_8_2, zb_8_3, r_iload_0, r_iconst, r_icmp_ge, r_gets, r_laload, r_lreturn, r_lretI, r_iload_1, r_isub, r_inv_2_0, r_inv_2_1, r_inv_2_2, r_inv_2_3, r_inv_2_4, r_K0, r_K1, r_if_eq, r_lconst, r_goto, r_goto_w, e, ↓reduceIte, not_true_eq_false, not_false_eq_true, Int.reduceEq, Int.reduceLE, Int.reduceLT, Int.reduceAdd, Int.reduceNeg, Int.reduceMul, Int.reduceSub, Int.reduceToNat]
    rw [if_neg (by omega)]
    exact this
  · have hcon : ∀ K : zO → zH → Prop, zcall d 158 [zi (w : Nat), zi ((y : Int) - 6)] (s, V) K = if w.testBit (y - 6) = true then K (.inl (some (zi 1))) (s, V) else K (.inl (some (zi 0))) (s, V) := fun K => by
      rw [c_contains (by omega) (by omega) (by omega) (by omega)]
      unfold zin
      rw [show ((y : Int) - 6).toNat = y - 6 by omega]
    by_cases c : w.testBit (y - 6) = true
    · have := hQ (Int64.ofInt (-1)) (zBt_congr zBt_all (fun v hv => by
        rw [show v = 64 * w + v % 64 by omega, hbit _ (by omega), if_neg q]; exact c.symm))
      simp (disch := first | assumption | exact zk_8 | ((repeat (first | exact z1n | refine z1I ?_ | refine z1R ?_)); done) | exact rfl | omega | decide) only [zb_8_0, zb_8_1, zb_8_2, zb_8_3, r_iload_0, r_iconst, r_icmp_ge, r_gets, r_laload, r_lreturn, r_lretI, r_iload_1, r_isub, r_inv_2_0, r_inv_2_1, r_inv_2_2, r_inv_2_3, r_inv_2_4, r_K0, r_K1, r_if_eq, r_lconst, r_goto, r_goto_w, hcon, c, ↓reduceIte, not_true_eq_false, not_false_eq_true, Int.reduceEq, Int.reduceLE, Int.reduceLT, Int.reduceAdd, Int.reduceNeg, Int.reduceMul, Int.reduceSub, Int.reduceToNat]
      rw [if_pos (by omega)]
      exact this
    · have c : w.testBit (y - 6) = false := by simpa using c
      have := hQ (Int64.ofInt 0) (zBt_congr zBt_none (fun v hv => by
        rw [show v = 64 * w + v % 64 by omega, hbit _ (by omega), if_neg q]; exact c.symm))
      simp (disch := first | assumption | exact zk_8 | ((repeat (first | exact z1n | refine z1I ?_ | refine z1R ?_)); done) | exact rfl | omega | decide) only [zb_8_0, zb_8_1, zb_8_2, zb_8_3, r_iload_0, r_iconst, r_icmp_ge, r_gets, r_laload, r_lreturn, r_lretI, r_iload_1, r_isub, r_inv_2_0, r_inv_2_1, r_inv_2_2, r_inv_2_3, r_inv_2_4, r_K0, r_K1, r_if_eq, r_lconst, r_goto, r_goto_w, hcon, c, Bool.false_eq_true, ↓reduceIte, not_true_eq_false, not_false_eq_true, Int.reduceEq, Int.reduceLE, Int.reduceLT, Int.reduceAdd, Int.reduceNeg, Int.reduceMul, Int.reduceSub, Int.reduceToNat]
      rw [if_pos (by omega)]
      exact this
set_option maxRecDepth 20000 in
theorem c_addGroup (hd : 2 ≤ d) (ha : a + 18 ≤ 139) (hF : zFP s V) (hP : zStP s V a) (hC : zStC ρ V a) (hW : zWF ρ) {j W : Int} (j0 : 0 ≤ j) (j1 : j < ρ.c) (w0 : 1 ≤ W) (w1 : W ≤ 64) {P : Int → Nat → Bool} {x : Nat} (hx : ρ.K 0 j = x) (hR : ∀ k, 0 ≤ k → k < ρ.c → (k = j ∨ zLead ρ k = j) → zRw V (141 + (ρ.K 1 k).toNat) W (P (ρ.K 1 k))) {q : Nat → Bool} (hX : zRw V (141 + x) W q)
    (hQ : ∀ V', (∀ r : Nat, r ≠ 153 → r ≠ 141 + x → V' r = V r) → zRw V' (141 + x) W (fun v => q v || zGk ρ P j ρ.c v) → Q (.inl none) (s, V')) : zcall d 9 [.ref 139, .ref a, zi j, zi W] (s, V) Q := by
  obtain ⟨n0, n1, c0, c1⟩ := hW.1
  obtain ⟨f1, ⟨f2, f3⟩, ⟨f4, f5⟩, f6, f7, f8⟩ := hF
  have tO := hP.1
  have wj := hW.2.2.1 j j0 j1
  have w7 : s.tg 140 = 24 ∨ s.tg 140 = 25 ∨ s.tg 140 = 26 := Or.inr (Or.inl f4)
  have w8 : s.tg 153 = 21 ∨ s.tg 153 = 31 := Or.inl f7
  obtain ⟨d, rfl⟩ : ∃ e, d = e + 1 := ⟨d - 1, by omega⟩
  simp (disch := first | assumption | omega) only [zc_9]
  simp (disch := first | assumption | exact zk_9 | ((repeat (first | exact z1n | refine z1I ?_ | refine z1R ?_)); done) | exact rfl | omega | decide) only [zb_9_0, r_iconst, r_istore_4i, r_istore_4r, r_istore_4j, r_goto_w, r_iload_4, r_iload_3, r_icmp_ge, r_aload_0, r_gf_65, r_lconst, r_lastore, r_lastoreR, r_iinc_4i, r_iinc_4r, r_iinc_4j, r_goto, r_iload_2, r_aload_1, r_gf_449, r_inv_3_0, r_inv_3_1, r_inv_3_2, r_inv_3_3, r_inv_3_4, r_K0, r_K1, r_if_eq, r_gf_64, r_gf_451, r_aaload, r_ial, r_ial30, r_ial32, r_astore_5i, r_astore_5r, r_astore_5j, r_istore_6i, r_istore_6r, r_istore_6j, r_iload_6, r_dup2, r_laload, r_aload_5, r_land, r_iinc_6i, r_iinc_6r, r_iinc_6j, r_astore_4i, r_astore_4r, r_astore_4j, r_istore_5i, r_istore_5r, r_istore_5j, r_iload_5, r_aload_4, r_lor, r_iinc_5i, r_iinc_5r, r_iinc_5j, r_ret, ↓reduceIte, not_true_eq_false, not_false_eq_true, Int.reduceEq, Int.reduceLE, Int.reduceLT, Int.reduceAdd, Int.reduceNeg, Int.reduceMul, Int.reduceSub, Int.reduceToNat]
  have l1 := z_iter (i := 0) (n := W) (I := fun k (u : zV) => (∀ r : Nat, r ≠ 153 → u r = V r) ∧ ∀ w : Nat, (w : Int) < k → ∃ t, u 153 w = .long t ∧ zBt t w (fun _ => true)) (P := fun k u => zwp (zcall d) 9 Q (zB 9 1) [.ref 139, .ref a, zi j, zi W, zi k, zJ, zJ] [] (s, u)) (by omega)
  refine l1 ?_ ?_ V ⟨fun _ _ => rfl, fun w hw => by omega⟩
  · rintro k V1 k0 k1 ⟨g1, g2⟩ ih
    have u1 : V1 139 1 = .ref 153 := by rw [g1 139 (by omega)]; exact f3
    have := ih (zput V1 153 k (zl (-1))) ⟨fun r hr => (zput_row hr).trans (g1 r hr), fun w hw => by
      by_cases e : (w : Int) = k
      · exact ⟨Int64.ofInt (-1), by rw [e, zput_at]; rfl, zBt_all⟩
      · rw [zput_i e]; exact g2 w (by omega)⟩
    conv => rw [zb_9_1]
    simp (disch := first | assumption | exact zk_9 | ((repeat (first | exact z1n | refine z1I ?_ | refine z1R ?_)); done) | exact rfl | omega | decide) only [r_iconst, r_istore_4i, r_istore_4r, r_istore_4j, r_goto_w, r_iload_4, r_iload_3, r_icmp_ge, r_aload_0, r_gf_65, r_lconst, r_lastore, r_lastoreR, r_iinc_4i, r_iinc_4r, r_iinc_4j, r_goto, r_iload_2, r_aload_1, r_gf_449, r_inv_3_0, r_inv_3_1, r_inv_3_2, r_inv_3_3, r_inv_3_4, r_K0, r_K1, r_if_eq, r_gf_64, r_gf_451, r_aaload, r_ial, r_ial30, r_ial32, r_astore_5i, r_astore_5r, r_astore_5j, r_istore_6i, r_istore_6r, r_istore_6j, r_iload_6, r_dup2, r_laload, r_aload_5, r_land, r_iinc_6i, r_iinc_6r, r_iinc_6j, r_astore_4i, r_astore_4r, r_astore_4j, r_istore_5i, r_istore_5r, r_istore_5j, r_iload_5, r_aload_4, r_lor, r_iinc_5i, r_iinc_5r, r_iinc_5j, r_ret, u1, ↓reduceIte, not_true_eq_false, not_false_eq_true, Int.reduceEq, Int.reduceLE, Int.reduceLT, Int.reduceAdd, Int.reduceNeg, Int.reduceMul, Int.reduceSub, Int.reduceToNat]
    rw [if_neg (by omega)]
    exact this
  rintro V1 ⟨g1, g2⟩
  simp (disch := first | assumption | exact zk_9 | ((repeat (first | exact z1n | refine z1I ?_ | refine z1R ?_)); done) | exact rfl | omega | decide) only [zb_9_1, zb_9_2, r_iconst, r_istore_4i, r_istore_4r, r_istore_4j, r_goto_w, r_iload_4, r_iload_3, r_icmp_ge, r_aload_0, r_gf_65, r_lconst, r_lastore, r_lastoreR, r_iinc_4i, r_iinc_4r, r_iinc_4j, r_goto, r_iload_2, r_aload_1, r_gf_449, r_inv_3_0, r_inv_3_1, r_inv_3_2, r_inv_3_3, r_inv_3_4, r_K0, r_K1, r_if_eq, r_gf_64, r_gf_451, r_aaload, r_ial, r_ial30, r_ial32, r_astore_5i, r_astore_5r, r_astore_5j, r_istore_6i, r_istore_6r, r_istore_6j, r_iload_6, r_dup2, r_laload, r_aload_5, r_land, r_iinc_6i, r_iinc_6r, r_iinc_6j, r_astore_4i, r_astore_4r, r_astore_4j, r_istore_5i, r_istore_5r, r_istore_5j, r_iload_5, r_aload_4, r_lor, r_iinc_5i, r_iinc_5r, r_iinc_5j, r_ret, Int.le_refl, ↓reduceIte, not_true_eq_false, not_false_eq_true, Int.reduceEq, Int.reduceLE, Int.reduceLT, Int.reduceAdd, Int.reduceNeg, Int.reduceMul, Int.reduceSub, Int.reduceToNat]
  have l2 := z_iter (i := j) (n := ρ.c) (I := fun k (u : zV × Value × Value) => (∀ r : Nat, r ≠ 153 → u.1 r = V r) ∧ zRw u.1 153 W (zGk ρ P j k)) (P := fun k u => zwp (zcall d) 9 Q (zB 9 3) [.ref 139, .ref a, zi j, zi W, zi k, u.2.1, u.2.2] [] (s, u.1)) (by omega)
  refine l2 ?_ ?_ (V1, zJ, zJ) ⟨g1, fun w hw => by
    obtain ⟨t, e1, e2⟩ := g2 w hw
    exact ⟨t, e1, zBt_congr e2 (fun v _ => by unfold zGk; rw [zany_0]; rfl)⟩⟩
  · rintro k ⟨V2, w5, w6⟩ k0 k1 ⟨h1, h2⟩ ih
    dsimp only at h1 h2 ih ⊢
    have wk := hW.2.2.1 k (by omega) k1
    have hP2 : zStP s V2 a := hP.of (by rw [h1 a (by omega)]) (by rw [h1 a (by omega)]) (h1 _ (by omega)) (h1 _ (by omega))
    have hC2 : zStC ρ V2 a := hC.rows (fun z z0 z1 => h1 z (by omega))
    have u0 : V2 139 0 = .ref 140 := by rw [h1 139 (by omega)]; exact f2
    have vc := hC2.2.1
    have hin := fun K => c_isInGroup (Q := K) (d := d) (by omega) hP2 hC2 hW (k := k) (j := j) (by omega) k1 j0 j1
    have hgs : ∀ v, zGk ρ P j (k + 1) v = (zGk ρ P j k v && !((decide (k = j) || decide (zLead ρ k = j)) && !P (ρ.K 1 k) v)) := fun v => by
      unfold zGk
      rw [zany_s k0, Bool.not_or]
    by_cases e : k = j ∨ zLead ρ k = j
    · have eb : (decide (k = j) || decide (zLead ρ k = j)) = true := by simpa using e
      have vB : V2 a 3 = .ref (a + 11) := hP2.2.2.2.2.1
      have tB := hP2.2.2.2.2.2.1
      have lB := hP2.2.2.2.2.2.2.1
      obtain ⟨v1, t1, l1⟩ := hP2.2.2.2.2.2.2.2.2 1 (by omega)
      have v1 : V2 (a + 11) 1 = .ref (a + 13) := v1
      have t1 : s.tg (a + 13) = 20 := t1
      have l1 : s.ln (a + 13) = 24 := l1
      have e1 : V2 (a + 13) k = zi (ρ.K 1 k) := hC2.2.2.2.1 1 (by omega) k (by omega) k1
      obtain ⟨y, hy⟩ : ∃ y : Nat, ρ.K 1 k = y := ⟨(ρ.K 1 k).toNat, by omega⟩
      obtain ⟨y1, y2, y3⟩ := f6 y (by omega)
      have u1 : V2 140 (y : Int) = .ref (141 + y) := by rw [h1 140 (by omega)]; exact y1
      have hRk := hR k (by omega) k1 e
      rw [hy] at e1 hRk
      rw [Int.toNat_natCast] at hRk
      have hB2 : s.tg (a + 11) = 24 ∨ s.tg (a + 11) = 25 ∨ s.tg (a + 11) = 26 := Or.inl tB
      have t9 : s.tg (141 + y) = 21 ∨ s.tg (141 + y) = 31 := Or.inl y2
      have l3 := z_iter (i := 0) (n := W) (I := fun i (u : zV) => (∀ r : Nat, r ≠ 153 → u r = V r) ∧ (∀ w : Nat, (w : Int) < i → ∃ t, u 153 w = .long t ∧ zBt t w (fun v => zGk ρ P j k v && P y v)) ∧ ∀ w : Nat, i ≤ (w : Int) → (w : Int) < W → ∃ t, u 153 w = .long t ∧ zBt t w (zGk ρ P j k)) (P := fun i u => zwp (zcall d) 9 Q (zB 9 4) [.ref 139, .ref a, zi j, zi W, zi k, .ref (141 + y), zi i] [] (s, u)) (by omega)
      have key := l3 ?_ ?_ V2 ⟨h1, fun w hw => by omega, fun w _ hw => h2 w hw⟩
      · conv => rw [zb_9_3]
        simp (disch := first | assumption | exact zk_9 | ((repeat (first | exact z1n | refine z1I ?_ | refine z1R ?_)); done) | exact rfl | omega | decide) only [r_iconst, r_istore_4i, r_istore_4r, r_istore_4j, r_goto_w, r_iload_4, r_iload_3, r_icmp_ge, r_aload_0, r_gf_65, r_lconst, r_lastore, r_lastoreR, r_iinc_4i, r_iinc_4r, r_iinc_4j, r_goto, r_iload_2, r_aload_1, r_gf_449, r_inv_3_0, r_inv_3_1, r_inv_3_2, r_inv_3_3, r_inv_3_4, r_K0, r_K1, r_if_eq, r_gf_64, r_gf_451, r_aaload, r_ial, r_ial30, r_ial32, r_astore_5i, r_astore_5r, r_astore_5j, r_istore_6i, r_istore_6r, r_istore_6j, r_iload_6, r_dup2, r_laload, r_aload_5, r_land, r_iinc_6i, r_iinc_6r, r_iinc_6j, r_astore_4i, r_astore_4r, r_astore_4j, r_istore_5i, r_istore_5r, r_istore_5j, r_iload_5, r_aload_4, r_lor, r_iinc_5i, r_iinc_5r, r_iinc_5j, r_ret, vc, hin, vB, v1, e1, u0, u1, ↓reduceIte, not_true_eq_false, not_false_eq_true, Int.reduceEq, Int.reduceLE, Int.reduceLT, Int.reduceAdd, Int.reduceNeg, Int.reduceMul, Int.reduceSub, Int.reduceToNat]
        rw [if_neg (by omega)]
        rw [if_pos e]
        exact key
      · rintro i V3 i0 i1 ⟨m1, m2, m3⟩ ih3
        obtain ⟨w, rfl⟩ : ∃ w : Nat, i = w := ⟨i.toNat, by omega⟩
        obtain ⟨t, t1, t2⟩ := m3 w (Int.le_refl _) i1
        obtain ⟨u, u2, u3⟩ := hRk w i1
        have u2 : V3 (141 + y) (w : Int) = .long u := by rw [m1 _ (by omega)]; exact u2
        have u4 : V3 139 1 = .ref 153 := by rw [m1 139 (by omega)]; exact f3
        have := ih3 (zput V3 153 (w : Int) (.long (t &&& u))) ⟨fun r hr => (zput_row hr).trans (m1 r hr), fun w' hw' => by
          by_cases z : w' = w
          · subst z
            exact ⟨_, zput_at, zBt_and t2 u3⟩
          · rw [zput_i (by omega)]; exact m2 w' (by omega), fun w' h1' h2' => by
          rw [zput_i (by omega)]; exact m3 w' (by omega) h2'⟩
        conv => rw [zb_9_4]
        simp (disch := first | assumption | exact zk_9 | ((repeat (first | exact z1n | refine z1I ?_ | refine z1R ?_)); done) | exact rfl | omega | decide) only [r_iconst, r_istore_4i, r_istore_4r, r_istore_4j, r_goto_w, r_iload_4, r_iload_3, r_icmp_ge, r_aload_0, r_gf_65, r_lconst, r_lastore, r_lastoreR, r_iinc_4i, r_iinc_4r, r_iinc_4j, r_goto, r_iload_2, r_aload_1, r_gf_449, r_inv_3_0, r_inv_3_1, r_inv_3_2, r_inv_3_3, r_inv_3_4, r_K0, r_K1, r_if_eq, r_gf_64, r_gf_451, r_aaload, r_ial, r_ial30, r_ial32, r_astore_5i, r_astore_5r, r_astore_5j, r_istore_6i, r_istore_6r, r_istore_6j, r_iload_6, r_dup2, r_laload, r_aload_5, r_land, r_iinc_6i, r_iinc_6r, r_iinc_6j, r_astore_4i, r_astore_4r, r_astore_4j, r_istore_5i, r_istore_5r, r_istore_5j, r_iload_5, r_aload_4, r_lor, r_iinc_5i, r_iinc_5r, r_iinc_5j, r_ret, u4, t1, u2, ↓reduceIte, not_true_eq_false, not_false_eq_true, Int.reduceEq, Int.reduceLE, Int.reduceLT, Int.reduceAdd, Int.reduceNeg, Int.reduceMul, Int.reduceSub, Int.reduceToNat]
        rw [if_neg (by omega)]
        exact this
      · rintro V3 ⟨m1, m2, m3⟩
        have := ih (V3, .ref (141 + y), zi W) ⟨m1, fun w hw => by
          obtain ⟨t, t1, t2⟩ := m2 w hw
          exact ⟨t, t1, zBt_congr t2 (fun v _ => by rw [hgs, eb, hy, Bool.true_and, Bool.not_not])⟩⟩
        dsimp only at this
        simp (disch := first | assumption | exact zk_9 | ((repeat (first | exact z1n | refine z1I ?_ | refine z1R ?_)); done) | exact rfl | omega | decide) only [zb_9_4, zb_9_5, r_iconst, r_istore_4i, r_istore_4r, r_istore_4j, r_goto_w, r_iload_4, r_iload_3, r_icmp_ge, r_aload_0, r_gf_65, r_lconst, r_lastore, r_lastoreR, r_iinc_4i, r_iinc_4r, r_iinc_4j, r_goto, r_iload_2, r_aload_1, r_gf_449, r_inv_3_0, r_inv_3_1, r_inv_3_2, r_inv_3_3, r_inv_3_4, r_K0, r_K1, r_if_eq, r_gf_64, r_gf_451, r_aaload, r_ial, r_ial30, r_ial32, r_astore_5i, r_astore_5r, r_astore_5j, r_istore_6i, r_istore_6r, r_istore_6j, r_iload_6, r_dup2, r_laload, r_aload_5, r_land, r_iinc_6i, r_iinc_6r, r_iinc_6j, r_astore_4i, r_astore_4r, r_astore_4j, r_istore_5i, r_istore_5r, r_istore_5j, r_iload_5, r_aload_4, r_lor, r_iinc_5i, r_iinc_5r, r_iinc_5j, r_ret, Int.le_refl, ↓reduceIte, not_true_eq_false, not_false_eq_true, Int.reduceEq, Int.reduceLE, Int.reduceLT, Int.reduceAdd, Int.reduceNeg, Int.reduceMul, Int.reduceSub, Int.reduceToNat]
        exact this
    · have eb : (decide (k = j) || decide (zLead ρ k = j)) = false := by simpa using e
      have := ih (V2, w5, w6) ⟨h1, h2.congr (fun v => by rw [hgs, eb, Bool.false_and, Bool.not_false, Bool.and_true])⟩
      dsimp only at this
      conv => rw [zb_9_3]
      simp (disch := first | assumption | exact zk_9 | ((repeat (first | exact z1n | refine z1I ?_ | refine z1R ?_)); done) | exact rfl | omega | decide) only [zb_9_5, r_iconst, r_istore_4i, r_istore_4r, r_istore_4j, r_goto_w, r_iload_4, r_iload_3, r_icmp_ge, r_aload_0, r_gf_65, r_lconst, r_lastore, r_lastoreR, r_iinc_4i, r_iinc_4r, r_iinc_4j, r_goto, r_iload_2, r_aload_1, r_gf_449, r_inv_3_0, r_inv_3_1, r_inv_3_2, r_inv_3_3, r_inv_3_4, r_K0, r_K1, r_if_eq, r_gf_64, r_gf_451, r_aaload, r_ial, r_ial30, r_ial32, r_astore_5i, r_astore_5r, r_astore_5j, r_istore_6i, r_istore_6r, r_istore_6j, r_iload_6, r_dup2, r_laload, r_aload_5, r_land, r_iinc_6i, r_iinc_6r, r_iinc_6j, r_astore_4i, r_astore_4r, r_astore_4j, r_istore_5i, r_istore_5r, r_istore_5j, r_iload_5, r_aload_4, r_lor, r_iinc_5i, r_iinc_5r, r_iinc_5j, r_ret, vc, hin, e, ↓reduceIte, not_true_eq_false, not_false_eq_true, Int.reduceEq, Int.reduceLE, Int.reduceLT, Int.reduceAdd, Int.reduceNeg, Int.reduceMul, Int.reduceSub, Int.reduceToNat]
      rw [if_neg (by omega)]
      exact this
  · rintro ⟨V2, w5, w6⟩ ⟨h1, h2⟩
    dsimp only at h1 h2 ⊢
    have hP2 : zStP s V2 a := hP.of (by rw [h1 a (by omega)]) (by rw [h1 a (by omega)]) (h1 _ (by omega)) (h1 _ (by omega))
    have hC2 : zStC ρ V2 a := hC.rows (fun z z0 z1 => h1 z (by omega))
    have u0 : V2 139 0 = .ref 140 := by rw [h1 139 (by omega)]; exact f2
    have vc := hC2.2.1
    have vB : V2 a 3 = .ref (a + 11) := hP2.2.2.2.2.1
    have tB := hP2.2.2.2.2.2.1
    have lB := hP2.2.2.2.2.2.2.1
    obtain ⟨v1, t1, l1⟩ := hP2.2.2.2.2.2.2.2.2 0 (by omega)
    have v1 : V2 (a + 11) 0 = .ref (a + 12) := v1
    have t1 : s.tg (a + 12) = 20 := t1
    have l1 : s.ln (a + 12) = 24 := l1
    have e1 : V2 (a + 12) j = zi (ρ.K 0 j) := hC2.2.2.2.1 0 (by omega) j j0 j1
    rw [hx] at e1
    obtain ⟨y1, y2, y3⟩ := f6 x (by omega)
    have u1 : V2 140 (x : Int) = .ref (141 + x) := by rw [h1 140 (by omega)]; exact y1
    have hB2 : s.tg (a + 11) = 24 ∨ s.tg (a + 11) = 25 ∨ s.tg (a + 11) = 26 := Or.inl tB
    have t9 : s.tg (141 + x) = 21 ∨ s.tg (141 + x) = 31 := Or.inl y2
    have x12 : x < 12 := by omega
    have l4 := z_iter (i := 0) (n := W) (I := fun i (u : zV) => (∀ r : Nat, r ≠ 153 → r ≠ 141 + x → u r = V r) ∧ zRw u 153 W (zGk ρ P j ρ.c) ∧ (∀ w : Nat, (w : Int) < i → ∃ t, u (141 + x) w = .long t ∧ zBt t w (fun v => q v || zGk ρ P j ρ.c v)) ∧ ∀ w : Nat, i ≤ (w : Int) → (w : Int) < W → ∃ t, u (141 + x) w = .long t ∧ zBt t w q) (P := fun i u => zwp (zcall d) 9 Q (zB 9 7) [.ref 139, .ref a, zi j, zi W, .ref (141 + x), zi i, w6] [] (s, u)) (by omega)
    have key := l4 ?_ ?_ V2 ⟨fun r hr _ => h1 r hr, h2, fun w hw => by omega, fun w _ hw => by rw [h1 _ (by omega)]; exact hX w hw⟩
    · simp (disch := first | assumption | exact zk_9 | ((repeat (first | exact z1n | refine z1I ?_ | refine z1R ?_)); done) | exact rfl | omega | decide) only [zb_9_3, zb_9_6, r_iconst, r_istore_4i, r_istore_4r, r_istore_4j, r_goto_w, r_iload_4, r_iload_3, r_icmp_ge, r_aload_0, r_gf_65, r_lconst, r_lastore, r_lastoreR, r_iinc_4i, r_iinc_4r, r_iinc_4j, r_goto, r_iload_2, r_aload_1, r_gf_449, r_inv_3_0, r_inv_3_1, r_inv_3_2, r_inv_3_3, r_inv_3_4, r_K0, r_K1, r_if_eq, r_gf_64, r_gf_451, r_aaload, r_ial, r_ial30, r_ial32, r_astore_5i, r_astore_5r, r_astore_5j, r_istore_6i, r_istore_6r, r_istore_6j, r_iload_6, r_dup2, r_laload, r_aload_5, r_land, r_iinc_6i, r_iinc_6r, r_iinc_6j, r_astore_4i, r_astore_4r, r_astore_4j, r_istore_5i, r_istore_5r, r_istore_5j, r_iload_5, r_aload_4, r_lor, r_iinc_5i, r_iinc_5r, r_iinc_5j, r_ret, vc, vB, v1, e1, u0, u1, Int.le_refl, ↓reduceIte, not_true_eq_false, not_false_eq_true, Int.reduceEq, Int.reduceLE, Int.reduceLT, Int.reduceAdd, Int.reduceNeg, Int.reduceMul, Int.reduceSub, Int.reduceToNat]
      exact key
    · rintro i V3 i0 i1 ⟨m1, m2, m3, m4⟩ ih3
      obtain ⟨w, rfl⟩ : ∃ w : Nat, i = w := ⟨i.toNat, by omega⟩
      obtain ⟨t, t1, t2⟩ := m4 w (Int.le_refl _) i1
      obtain ⟨u, u2, u3⟩ := m2 w i1
      have u4 : V3 139 1 = .ref 153 := by rw [m1 139 (by omega) (by omega)]; exact f3
      have := ih3 (zput V3 (141 + x) (w : Int) (.long (t ||| u))) ⟨fun r hr hr2 => (zput_row hr2).trans (m1 r hr hr2), fun w' hw' => by
        rw [zput_r (by omega)]; exact m2 w' hw', fun w' hw' => by
        by_cases z : w' = w
        · subst z
          exact ⟨_, zput_at, zBt_or t2 u3⟩
        · rw [zput_i (by omega)]; exact m3 w' (by omega), fun w' h1' h2' => by
        rw [zput_i (by omega)]; exact m4 w' (by omega) h2'⟩
      conv => rw [zb_9_7]
      simp (disch := first | assumption | exact zk_9 | ((repeat (first | exact z1n | refine z1I ?_ | refine z1R ?_)); done) | exact rfl | omega | decide) only [r_iconst, r_istore_4i, r_istore_4r, r_istore_4j, r_goto_w, r_iload_4, r_iload_3, r_icmp_ge, r_aload_0, r_gf_65, r_lconst, r_lastore, r_lastoreR, r_iinc_4i, r_iinc_4r, r_iinc_4j, r_goto, r_iload_2, r_aload_1, r_gf_449, r_inv_3_0, r_inv_3_1, r_inv_3_2, r_inv_3_3, r_inv_3_4, r_K0, r_K1, r_if_eq, r_gf_64, r_gf_451, r_aaload, r_ial, r_ial30, r_ial32, r_astore_5i, r_astore_5r, r_astore_5j, r_istore_6i, r_istore_6r, r_istore_6j, r_iload_6, r_dup2, r_laload, r_aload_5, r_land, r_iinc_6i, r_iinc_6r, r_iinc_6j, r_astore_4i, r_astore_4r, r_astore_4j, r_istore_5i, r_istore_5r, r_istore_5j, r_iload_5, r_aload_4, r_lor, r_iinc_5i, r_iinc_5r, r_iinc_5j, r_ret, u4, t1, u2, ↓reduceIte, not_true_eq_false, not_false_eq_true, Int.reduceEq, Int.reduceLE, Int.reduceLT, Int.reduceAdd, Int.reduceNeg, Int.reduceMul, Int.reduceSub, Int.reduceToNat]
      rw [if_neg (by omega)]
      exact this
    · rintro V3 ⟨m1, m2, m3, m4⟩
      have := hQ V3 m1 m3
      simp (disch := first | assumption | exact zk_9 | ((repeat (first | exact z1n | refine z1I ?_ | refine z1R ?_)); done) | exact rfl | omega | decide) only [zb_9_7, zb_9_8, r_iconst, r_istore_4i, r_istore_4r, r_istore_4j, r_goto_w, r_iload_4, r_iload_3, r_icmp_ge, r_aload_0, r_gf_65, r_lconst, r_lastore, r_lastoreR, r_iinc_4i, r_iinc_4r, r_iinc_4j, r_goto, r_iload_2, r_aload_1, r_gf_449, r_inv_3_0, r_inv_3_1, r_inv_3_2, r_inv_3_3, r_inv_3_4, r_K0, r_K1, r_if_eq, r_gf_64, r_gf_451, r_aaload, r_ial, r_ial30, r_ial32, r_astore_5i, r_astore_5r, r_astore_5j, r_istore_6i, r_istore_6r, r_istore_6j, r_iload_6, r_dup2, r_laload, r_aload_5, r_land, r_iinc_6i, r_iinc_6r, r_iinc_6j, r_astore_4i, r_astore_4r, r_astore_4j, r_istore_5i, r_istore_5r, r_istore_5j, r_iload_5, r_aload_4, r_lor, r_iinc_5i, r_iinc_5r, r_iinc_5j, r_ret, Int.le_refl, ↓reduceIte, not_true_eq_false, not_false_eq_true, Int.reduceEq, Int.reduceLE, Int.reduceLT, Int.reduceAdd, Int.reduceNeg, Int.reduceMul, Int.reduceSub, Int.reduceToNat]
      exact this
end
