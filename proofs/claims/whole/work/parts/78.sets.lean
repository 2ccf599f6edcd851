/-! FAILURE SETS, 3: words of 64 sets; cuts in the class -/
/-- the bits of the word w of a row about sets -/
def zBt (t : Int64) (w : Nat) (p : Nat → Bool) : Prop := ∀ b : Nat, b < 64 → t.toBitVec.getLsbD b = p (64 * w + b)
theorem zBt_all {w : Nat} : zBt (Int64.ofInt (-1)) w (fun _ => true) := by
  intro b hb
  show (BitVec.allOnes 64).getLsbD b = true
  rw [BitVec.getLsbD_allOnes]
  simpa using hb
theorem zBt_none {w : Nat} : zBt (Int64.ofInt 0) w (fun _ => false) := by
  intro b hb
  show (0#64).getLsbD b = false
  simp
theorem zBt_and {t u : Int64} {w : Nat} {p q : Nat → Bool} (h1 : zBt t w p) (h2 : zBt u w q) : zBt (t &&& u) w (fun v => p v && q v) := by
  intro b hb
  rw [Int64.toBitVec_and, BitVec.getLsbD_and, h1 b hb, h2 b hb]
theorem zBt_or {t u : Int64} {w : Nat} {p q : Nat → Bool} (h1 : zBt t w p) (h2 : zBt u w q) : zBt (t ||| u) w (fun v => p v || q v) := by
  intro b hb
  rw [Int64.toBitVec_or, BitVec.getLsbD_or, h1 b hb, h2 b hb]
theorem zBt_congr {t : Int64} {w : Nat} {p q : Nat → Bool} (h : zBt t w p) (e : ∀ v, v / 64 = w → p v = q v) : zBt t w q := by
  intro b hb
  rw [h b hb]
  exact e _ (by omega)
theorem z_lbit' : ∀ b : Nat, b < 64 → ((Int32.ofInt (b : Int)).toInt64.toUInt64 &&& Int64.toUInt64 63).toNat = b := by decide +kernel
theorem z_lbit {t : Int64} {b : Nat} (hb : b < 64) : lg_cmp ((t.toUInt64 >>> ((Int32.ofInt (b : Int)).toInt64.toUInt64 &&& Int64.toUInt64 63)).toInt64 &&& Int64.ofInt 1) (Int64.ofInt 0) = Int32.ofInt (zb1 (t.toBitVec.getLsbD b)) := by
  have h1 := z_lbit' b hb
  generalize hz : (Int32.ofInt (b : Int)).toInt64.toUInt64 &&& Int64.toUInt64 63 = z at h1
  have h2 : ((t.toUInt64 >>> z).toInt64 &&& Int64.ofInt 1) = if t.toBitVec.getLsbD b = true then (1 : Int64) else 0 := by
    apply Int64.toBitVec_inj.mp
    apply BitVec.eq_of_getLsbD_eq
    intro i hi
    rw [Int64.toBitVec_and, BitVec.getLsbD_and]
    have e1 : (Int64.ofInt 1).toBitVec.getLsbD i = decide (i = 0) := by
      show (1#64).getLsbD i = _
      rw [BitVec.getLsbD_one]
      simp
    have e2 : ((t.toUInt64 >>> z).toInt64).toBitVec.getLsbD i = t.toBitVec.getLsbD (b + i) := by
      show (t.toUInt64 >>> z).toBitVec.getLsbD i = _
      rw [UInt64.toBitVec_shiftRight]
      have : (z.toBitVec % 64).toNat = b := by
        rw [BitVec.toNat_umod]
        show z.toNat % 64 = b
        omega
      show (t.toBitVec >>> (z.toBitVec % 64).toNat).getLsbD i = _
      rw [this, BitVec.getLsbD_ushiftRight]
    rw [e1, e2]
    by_cases h0 : i = 0
    · subst h0
      rw [Nat.add_zero]
      cases c : t.toBitVec.getLsbD b <;> decide
    · have e3 : decide (i = 0) = false := by simpa using h0
      rw [e3, Bool.and_false]
      cases c : t.toBitVec.getLsbD b
      · show _ = (0#64).getLsbD i
        simp
      · show _ = (1#64).getLsbD i
        rw [BitVec.getLsbD_one]
        simp [h0]
  rw [h2]
  cases t.toBitVec.getLsbD b <;> decide
/-- words of a row -/
def zWd (n : Int) : Int := if 2 ^ n.toNat / 64 ≤ 1 then 1 else ((2 ^ n.toNat / 64 : Nat) : Int)
theorem zWd_rng {n : Int} (n1 : n ≤ 12) : 1 ≤ zWd n ∧ zWd n ≤ 64 := by
  have h := zTwo_rng n1
  unfold zTwo at h
  unfold zWd
  split <;> omega
theorem zWd_in' : ∀ n : Nat, n ≤ 12 → 2 ^ n % 64 = 0 ∨ 2 ^ n < 64 := by decide +kernel
theorem zWd_in {n : Int} (n0 : 0 ≤ n) (n1 : n ≤ 12) {v : Nat} (hv : v < 2 ^ n.toNat) : ((v / 64 : Nat) : Int) < zWd n := by
  have := zWd_in' n.toNat (by omega)
  unfold zWd
  split <;> omega
/-- the class's FailureSets -/
def zFP (s : zS) (V : zV) : Prop := s.tg 139 = 1 ∧ (V 139 0 = .ref 140 ∧ V 139 1 = .ref 153) ∧ (s.tg 140 = 25 ∧ s.ln 140 = 12) ∧ (∀ y : Nat, y < 12 → V 140 y = .ref (141 + y) ∧ s.tg (141 + y) = 21 ∧ s.ln (141 + y) = 64) ∧ s.tg 153 = 21 ∧ s.ln 153 = 64
/-- its rows tell what fails -/
def zFB (ρ : zR) (V : zV) : Prop := ∀ y : Nat, (y : Int) < ρ.n → ∀ w : Nat, (w : Int) < zWd ρ.n → ∃ t, V (141 + y) w = .long t ∧ zBt t w (fun v => zin (zFail ρ v) y)
section
variable {d : Nat} {s : zS} {V : zV} {Q : zO → zH → Prop} {a : Nat} {ρ : zR} {h : zH}
set_option maxRecDepth 20000 in
theorem c_isFailing (hd : 1 ≤ d) (hF : zFP s V) (hB : zFB ρ V) (hW : zWF ρ) {x : Int} (x0 : 0 ≤ x) (x1 : x < ρ.n) {v : Nat} (hv : v < 2 ^ ρ.n.toNat) : zcall d 10 [.ref 139, zi x, zi (v : Nat)] (s, V) Q = if zin (zFail ρ v) x = true then Q (.inl (some (zi 1))) (s, V) else Q (.inl (some (zi 0))) (s, V) := by
  obtain ⟨n0, n1, c0, c1⟩ := hW.1
  obtain ⟨f1, ⟨f2, -⟩, ⟨f3, f4⟩, f5, -⟩ := hF
  have hw := zTwo_rng n1
  unfold zTwo at hw
  obtain ⟨y, rfl⟩ : ∃ y : Nat, x = y := ⟨x.toNat, by omega⟩
  obtain ⟨g1, g2, g3⟩ := f5 y (by omega)
  have hin := zWd_in n0 n1 hv
  have hwr := zWd_rng n1
  obtain ⟨t, ht, hb⟩ := hB y x1 (v / 64) hin
  have e1 : zshr ((v : Nat) : Int) 6 = ((v / 64 : Nat) : Int) := by
    rw [zshr_n (by omega) (by omega) (by omega)]
    show ((v >>> 6 : Nat) : Int) = _
    rw [Nat.shiftRight_eq_div_pow]
  have e2 : zand ((v : Nat) : Int) 63 = ((v % 64 : Nat) : Int) := by
    rw [show (63 : Int) = ((63 : Nat) : Int) from rfl, zand_n (by omega) (by omega), show (63 : Nat) = 2 ^ 6 - 1 from rfl, Nat.and_two_pow_sub_one_eq_mod]
  have e3 := z_lbit (t := t) (b := v % 64) (by omega)
  have e4 : t.toBitVec.getLsbD (v % 64) = zin (zFail ρ v) y := by
    have := hb (v % 64) (by omega)
    rw [Nat.div_add_mod] at this
    exact this
  have e5 : Value.int (lg_cmp ((t.toUInt64 >>> ((Int32.ofInt ((v % 64 : Nat) : Int)).toInt64.toUInt64 &&& Int64.toUInt64 63)).toInt64 &&& Int64.ofInt 1) (Int64.ofInt 0)) = zi (zb1 (zin (zFail ρ v) y)) := by
    rw [e3, e4]
    rfl
  generalize hq : v / 64 = q at hin ht e1
  generalize hr : v % 64 = r at e2 e5
  have q64 : (q : Int) < 64 := by omega
  obtain ⟨d, rfl⟩ : ∃ e, d = e + 1 := ⟨d - 1, by omega⟩
  simp (disch := first | assumption | omega) only [zc_10]
  have w7 : s.tg 140 = 24 ∨ s.tg 140 = 25 ∨ s.tg 140 = 26 := Or.inr (Or.inl f3)
  have w8 : s.tg (141 + y) = 21 ∨ s.tg (141 + y) = 31 := Or.inl g2
  cases c : zin (zFail ρ v) y
  · rw [c] at e5
    rw [show zb1 false = 0 from rfl] at e5
    simp (disch := first | assumption | exact zk_10 | ((repeat (first | exact z1n | refine z1I ?_ | refine z1R ?_)); done) | exact rfl | omega | decide) only [zb_10_0, zb_10_1, zb_10_2, r_aload_0, r_gf_64, r_iload_1, r_aaload, r_iload_2, r_iconst, r_ishr, r_laload, r_iand, r_lushr, r_lconst, r_land, r_lcmp, r_lcmpR, r_if_eq, r_goto, r_goto_w, r_iret, r_bret_0, r_bret_1, f2, g1, e1, e2, ht, zl, e5, Bool.false_eq_true, ↓reduceIte, not_true_eq_false, not_false_eq_true, Int.reduceEq, Int.reduceLE, Int.reduceLT, Int.reduceAdd, Int.reduceNeg, Int.reduceMul, Int.reduceSub, Int.reduceToNat]
  · rw [c] at e5
    rw [show zb1 true = 1 from rfl] at e5
    simp (disch := first | assumption | exact zk_10 | ((repeat (first | exact z1n | refine z1I ?_ | refine z1R ?_)); done) | exact rfl | omega | decide) only [zb_10_0, zb_10_1, zb_10_2, r_aload_0, r_gf_64, r_iload_1, r_aaload, r_iload_2, r_iconst, r_ishr, r_laload, r_iand, r_lushr, r_lconst, r_land, r_lcmp, r_lcmpR, r_if_eq, r_goto, r_goto_w, r_iret, r_bret_0, r_bret_1, f2, g1, e1, e2, ht, zl, e5, ↓reduceIte, not_true_eq_false, not_false_eq_true, Int.reduceEq, Int.reduceLE, Int.reduceLT, Int.reduceAdd, Int.reduceNeg, Int.reduceMul, Int.reduceSub, Int.reduceToNat]
set_option maxRecDepth 20000 in
theorem c_isCut (hd : 2 ≤ d) (hF : zFP s V) (hB : zFB ρ V) (hP : zStP s V a) (hC : zStC ρ V a) (hW : zWF ρ) {x : Int} (x0 : 0 ≤ x) (x1 : x < ρ.n) {v : Nat} (hv : v < 2 ^ ρ.n.toNat) : zcall d 11 [.ref 139, .ref a, zi x, zi (v : Nat)] (s, V) Q = if zCut ρ x v = true then Q (.inl (some (zi 1))) (s, V) else Q (.inl (some (zi 0))) (s, V) := by
  obtain ⟨n0, n1, c0, c1⟩ := hW.1
  have f1 := hF.1
  have hw := zTwo_rng n1
  unfold zTwo at hw
  have vn := hC.1
  have tO := hP.1
  rw [zCut_n hW hv]
  obtain ⟨d, rfl⟩ : ∃ e, d = e + 1 := ⟨d - 1, by omega⟩
  simp (disch := first | assumption | omega) only [zc_11]
  have hif : ∀ (u : Nat) K, u < 2 ^ ρ.n.toNat → zcall d 10 [.ref 139, zi x, zi (u : Nat)] (s, V) K = if zin (zFail ρ u) x = true then K (.inl (some (zi 1))) (s, V) else K (.inl (some (zi 0))) (s, V) := fun u K hu => c_isFailing (by omega) hF hB hW x0 x1 hu
  have hv4 : v < 4096 := by omega
  by_cases q : zin (zFail ρ v) x = true
  · simp (disch := first | assumption | exact zk_11 | ((repeat (first | exact z1n | refine z1I ?_ | refine z1R ?_)); done) | exact rfl | omega | decide) only [zb_11_0, zb_11_1, r_aload_0, r_iload_2, r_iload_3, r_inv_3_0, r_inv_3_1, r_inv_3_2, r_inv_3_3, r_inv_3_4, r_K0, r_K1, r_if_ne, r_iconst, r_iret, r_bret_0, r_bret_1, r_istore_4i, r_istore_4r, r_istore_4j, r_goto_w, r_iload_4, r_aload_1, r_gf_448, r_icmp_ge, r_inv_2_0, r_inv_2_1, r_inv_2_2, r_inv_2_3, r_inv_2_4, r_if_eq, r_ishl, r_ixor, r_iand, r_iinc_4i, r_iinc_4r, r_iinc_4j, r_goto, hif, q, Bool.true_and, ↓reduceIte, not_true_eq_false, not_false_eq_true, Int.reduceEq, Int.reduceLE, Int.reduceLT, Int.reduceAdd, Int.reduceNeg, Int.reduceMul, Int.reduceSub, Int.reduceToNat]
    refine (z_searchB (F := fun k => zwp (zcall d) 11 Q (zB 11 2) [.ref 139, .ref a, zi x, zi (v : Nat), zi k] [] (s, V)) (p := fun y => zin v y && zin (zFail ρ (zdf v (zone y))) x) (A := Q (.inl (some (zi 0))) (s, V)) (B := Q (.inl (some (zi 1))) (s, V)) (i := 0) (n := ρ.n) (by omega) (fun k k0 k1 => ?_) ?_).trans ?_
    · have hle := zdf_le v (zone k)
      have hdl : zdf v (zone k) < 2 ^ ρ.n.toNat := by omega
      have ho := zone_lt (x := k) (by omega)
      conv => lhs; rw [zb_11_2]
      by_cases c : zin v k = true
      · by_cases c2 : zin (zFail ρ (zdf v (zone k))) x = true
        · simp (disch := first | assumption | exact zk_11 | ((repeat (first | exact z1n | refine z1I ?_ | refine z1R ?_)); done) | exact rfl | omega | decide) only [zb_11_3, r_aload_0, r_iload_2, r_iload_3, r_inv_3_0, r_inv_3_1, r_inv_3_2, r_inv_3_3, r_inv_3_4, r_K0, r_K1, r_if_ne, r_iconst, r_iret, r_bret_0, r_bret_1, r_istore_4i, r_istore_4r, r_istore_4j, r_goto_w, r_iload_4, r_aload_1, r_gf_448, r_icmp_ge, r_inv_2_0, r_inv_2_1, r_inv_2_2, r_inv_2_3, r_inv_2_4, r_if_eq, r_ishl, r_ixor, r_iand, r_iinc_4i, r_iinc_4r, r_iinc_4j, r_goto, vn, c_contains, c, c2, zshl_z, zandn_n, hif, Bool.and_self, ↓reduceIte, not_true_eq_false, not_false_eq_true, Int.reduceEq, Int.reduceLE, Int.reduceLT, Int.reduceAdd, Int.reduceNeg, Int.reduceMul, Int.reduceSub, Int.reduceToNat]
          rw [if_neg (by omega)]
        · have c2 : zin (zFail ρ (zdf v (zone k))) x = false := by simpa using c2
          simp (disch := first | assumption | exact zk_11 | ((repeat (first | exact z1n | refine z1I ?_ | refine z1R ?_)); done) | exact rfl | omega | decide) only [zb_11_3, r_aload_0, r_iload_2, r_iload_3, r_inv_3_0, r_inv_3_1, r_inv_3_2, r_inv_3_3, r_inv_3_4, r_K0, r_K1, r_if_ne, r_iconst, r_iret, r_bret_0, r_bret_1, r_istore_4i, r_istore_4r, r_istore_4j, r_goto_w, r_iload_4, r_aload_1, r_gf_448, r_icmp_ge, r_inv_2_0, r_inv_2_1, r_inv_2_2, r_inv_2_3, r_inv_2_4, r_if_eq, r_ishl, r_ixor, r_iand, r_iinc_4i, r_iinc_4r, r_iinc_4j, r_goto, vn, c_contains, c, c2, zshl_z, zandn_n, hif, Bool.and_false, Bool.false_eq_true, ↓reduceIte, not_true_eq_false, not_false_eq_true, Int.reduceEq, Int.reduceLE, Int.reduceLT, Int.reduceAdd, Int.reduceNeg, Int.reduceMul, Int.reduceSub, Int.reduceToNat]
          rw [if_neg (by omega)]
      · have c : zin v k = false := by simpa using c
        simp (disch := first | assumption | exact zk_11 | ((repeat (first | exact z1n | refine z1I ?_ | refine z1R ?_)); done) | exact rfl | omega | decide) only [zb_11_3, r_aload_0, r_iload_2, r_iload_3, r_inv_3_0, r_inv_3_1, r_inv_3_2, r_inv_3_3, r_inv_3_4, r_K0, r_K1, r_if_ne, r_iconst, r_iret, r_bret_0, r_bret_1, r_istore_4i, r_istore_4r, r_istore_4j, r_goto_w, r_iload_4, r_aload_1, r_gf_448, r_icmp_ge, r_inv_2_0, r_inv_2_1, r_inv_2_2, r_inv_2_3, r_inv_2_4, r_if_eq, r_ishl, r_ixor, r_iand, r_iinc_4i, r_iinc_4r, r_iinc_4j, r_goto, vn, c_contains, c, Bool.false_and, Bool.false_eq_true, ↓reduceIte, not_true_eq_false, not_false_eq_true, Int.reduceEq, Int.reduceLE, Int.reduceLT, Int.reduceAdd, Int.reduceNeg, Int.reduceMul, Int.reduceSub, Int.reduceToNat]
        rw [if_neg (by omega)]
    · simp (disch := first | assumption | exact zk_11 | ((repeat (first | exact z1n | refine z1I ?_ | refine z1R ?_)); done) | exact rfl | omega | decide) only [zb_11_2, zb_11_4, r_aload_0, r_iload_2, r_iload_3, r_inv_3_0, r_inv_3_1, r_inv_3_2, r_inv_3_3, r_inv_3_4, r_K0, r_K1, r_if_ne, r_iconst, r_iret, r_bret_0, r_bret_1, r_istore_4i, r_istore_4r, r_istore_4j, r_goto_w, r_iload_4, r_aload_1, r_gf_448, r_icmp_ge, r_inv_2_0, r_inv_2_1, r_inv_2_2, r_inv_2_3, r_inv_2_4, r_if_eq, r_ishl, r_ixor, r_iand, r_iinc_4i, r_iinc_4r, r_iinc_4j, r_goto, vn, Int.le_refl, ↓reduceIte, not_true_eq_false, not_false_eq_true, Int.reduceEq, Int.reduceLE, Int.reduceLT, Int.reduceAdd, Int.reduceNeg, Int.reduceMul, Int.reduceSub, Int.reduceToNat]
    · cases zany (fun y => zin v y && zin (zFail ρ (zdf v (zone y))) x) 0 ρ.n <;> rfl
  · have q : zin (zFail ρ v) x = false := by simpa using q
    simp (disch := first | assumption | exact zk_11 | ((repeat (first | exact z1n | refine z1I ?_ | refine z1R ?_)); done) | exact rfl | omega | decide) only [zb_11_0, r_aload_0, r_iload_2, r_iload_3, r_inv_3_0, r_inv_3_1, r_inv_3_2, r_inv_3_3, r_inv_3_4, r_K0, r_K1, r_if_ne, r_iconst, r_iret, r_bret_0, r_bret_1, r_istore_4i, r_istore_4r, r_istore_4j, r_goto_w, r_iload_4, r_aload_1, r_gf_448, r_icmp_ge, r_inv_2_0, r_inv_2_1, r_inv_2_2, r_inv_2_3, r_inv_2_4, r_if_eq, r_ishl, r_ixor, r_iand, r_iinc_4i, r_iinc_4r, r_iinc_4j, r_goto, hif, q, Bool.false_and, Bool.false_eq_true, ↓reduceIte, not_true_eq_false, not_false_eq_true, Int.reduceEq, Int.reduceLE, Int.reduceLT, Int.reduceAdd, Int.reduceNeg, Int.reduceMul, Int.reduceSub, Int.reduceToNat]
set_option maxRecDepth 20000 in
theorem c_countCuts (hd : 3 ≤ d) (hF : zFP s V) (hB : zFB ρ V) (hP : zStP s V a) (hC : zStC ρ V a) (hW : zWF ρ) {x z : Int} (x0 : 0 ≤ x) (x1 : x < ρ.n) (hz : zI32 z) : zcall d 12 [.ref 139, .ref a, zi x, zi z] (s, V) Q = Q (.inl (some (zi (zCuts ρ x z)))) (s, V) := by
  obtain ⟨n0, n1, c0, c1⟩ := hW.1
  obtain ⟨z1, z2⟩ := hz
  have f1 := hF.1
  have hw := zTwo_rng n1
  have vn := hC.1
  have tO := hP.1
  obtain ⟨d, rfl⟩ : ∃ e, d = e + 1 := ⟨d - 1, by omega⟩
  simp (disch := first | assumption | omega) only [zc_12]
  simp (disch := first | assumption | exact zk_12 | ((repeat (first | exact z1n | refine z1I ?_ | refine z1R ?_)); done) | exact rfl | omega | decide) only [zb_12_0, r_iconst, r_istore_4i, r_istore_4r, r_istore_4j, r_istore_5i, r_istore_5r, r_istore_5j, r_goto_w, r_iload_5, r_aload_1, r_gf_448, r_ishl, r_icmp_ge, r_inv_1_0, r_inv_1_1, r_inv_1_2, r_inv_1_3, r_inv_1_4, r_K0, r_K1, r_iload_3, r_icmp_ne, r_aload_0, r_iload_2, r_inv_4_0, r_inv_4_1, r_inv_4_2, r_inv_4_3, r_inv_4_4, r_if_eq, r_iinc_4i, r_iinc_4r, r_iinc_4j, r_iinc_5i, r_iinc_5r, r_iinc_5j, r_goto, r_iload_4, r_iret, r_bret_0, r_bret_1, ↓reduceIte, not_true_eq_false, not_false_eq_true, Int.reduceEq, Int.reduceLE, Int.reduceLT, Int.reduceAdd, Int.reduceNeg, Int.reduceMul, Int.reduceSub, Int.reduceToNat]
  unfold zCuts
  refine (z_chainI (F := fun k => zwp (zcall d) 12 Q (zB 12 1) [.ref 139, .ref a, zi x, zi z, zi (zct (zCz ρ x z) k), zi k] [] (s, V)) (n := zTwo ρ.n) (by omega) (fun k k0 k1 => ?_)).trans ?_
  · obtain ⟨v, rfl⟩ : ∃ v : Nat, k = v := ⟨k.toNat, by omega⟩
    have hv : v < 2 ^ ρ.n.toNat := by unfold zTwo at k1; omega
    have hcr := zct_rng (p := zCz ρ x z) k0
    have hpr := zpop_rng (v := v)
    have hv4 : v < 4096 := by omega
    have hcut : ∀ K, zcall d 11 [.ref 139, .ref a, zi x, zi (v : Nat)] (s, V) K = if zCut ρ x v = true then K (.inl (some (zi 1))) (s, V) else K (.inl (some (zi 0))) (s, V) := fun K => c_isCut (by omega) hF hB hP hC hW x0 x1 hv
    rw [zct_s k0]
    have hcz : zCz ρ x z (v : Int) = (decide (zpop v = z) && zCut ρ x v) := by unfold zCz; rw [Int.toNat_natCast]
    rw [hcz]
    generalize zct (zCz ρ x z) (v : Int) = m at hcr
    conv => lhs; rw [zb_12_1]
    by_cases e1 : zpop v = z
    · subst e1
      by_cases e2 : zCut ρ x v = true
      · simp (disch := first | assumption | exact zk_12 | ((repeat (first | exact z1n | refine z1I ?_ | refine z1R ?_)); done) | exact rfl | omega | decide) only [zb_12_2, r_iconst, r_istore_4i, r_istore_4r, r_istore_4j, r_istore_5i, r_istore_5r, r_istore_5j, r_goto_w, r_iload_5, r_aload_1, r_gf_448, r_ishl, r_icmp_ge, r_inv_1_0, r_inv_1_1, r_inv_1_2, r_inv_1_3, r_inv_1_4, r_K0, r_K1, r_iload_3, r_icmp_ne, r_aload_0, r_iload_2, r_inv_4_0, r_inv_4_1, r_inv_4_2, r_inv_4_3, r_inv_4_4, r_if_eq, r_iinc_4i, r_iinc_4r, r_iinc_4j, r_iinc_5i, r_iinc_5r, r_iinc_5j, r_goto, r_iload_4, r_iret, r_bret_0, r_bret_1, vn, zshl_two, c_bitCount, hcut, e2, decide_true, Bool.and_self, ↓reduceIte, not_true_eq_false, not_false_eq_true, Int.reduceEq, Int.reduceLE, Int.reduceLT, Int.reduceAdd, Int.reduceNeg, Int.reduceMul, Int.reduceSub, Int.reduceToNat]
        rw [if_neg (by omega)]
      · have e2 : zCut ρ x v = false := by simpa using e2
        simp (disch := first | assumption | exact zk_12 | ((repeat (first | exact z1n | refine z1I ?_ | refine z1R ?_)); done) | exact rfl | omega | decide) only [zb_12_2, r_iconst, r_istore_4i, r_istore_4r, r_istore_4j, r_istore_5i, r_istore_5r, r_istore_5j, r_goto_w, r_iload_5, r_aload_1, r_gf_448, r_ishl, r_icmp_ge, r_inv_1_0, r_inv_1_1, r_inv_1_2, r_inv_1_3, r_inv_1_4, r_K0, r_K1, r_iload_3, r_icmp_ne, r_aload_0, r_iload_2, r_inv_4_0, r_inv_4_1, r_inv_4_2, r_inv_4_3, r_inv_4_4, r_if_eq, r_iinc_4i, r_iinc_4r, r_iinc_4j, r_iinc_5i, r_iinc_5r, r_iinc_5j, r_goto, r_iload_4, r_iret, r_bret_0, r_bret_1, vn, zshl_two, c_bitCount, hcut, e2, decide_true, Bool.and_false, Bool.false_eq_true, ↓reduceIte, not_true_eq_false, not_false_eq_true, Int.reduceEq, Int.reduceLE, Int.reduceLT, Int.reduceAdd, Int.reduceNeg, Int.reduceMul, Int.reduceSub, Int.reduceToNat]
        rw [if_neg (by omega)]
    · simp (disch := first | assumption | exact zk_12 | ((repeat (first | exact z1n | refine z1I ?_ | refine z1R ?_)); done) | exact rfl | omega | decide) only [zb_12_2, r_iconst, r_istore_4i, r_istore_4r, r_istore_4j, r_istore_5i, r_istore_5r, r_istore_5j, r_goto_w, r_iload_5, r_aload_1, r_gf_448, r_ishl, r_icmp_ge, r_inv_1_0, r_inv_1_1, r_inv_1_2, r_inv_1_3, r_inv_1_4, r_K0, r_K1, r_iload_3, r_icmp_ne, r_aload_0, r_iload_2, r_inv_4_0, r_inv_4_1, r_inv_4_2, r_inv_4_3, r_inv_4_4, r_if_eq, r_iinc_4i, r_iinc_4r, r_iinc_4j, r_iinc_5i, r_iinc_5r, r_iinc_5j, r_goto, r_iload_4, r_iret, r_bret_0, r_bret_1, vn, zshl_two, c_bitCount, e1, decide_false, Bool.false_and, Bool.false_eq_true, ↓reduceIte, not_true_eq_false, not_false_eq_true, Int.reduceEq, Int.reduceLE, Int.reduceLT, Int.reduceAdd, Int.reduceNeg, Int.reduceMul, Int.reduceSub, Int.reduceToNat]
      rw [if_neg (by omega)]
  · simp (disch := first | assumption | exact zk_12 | ((repeat (first | exact z1n | refine z1I ?_ | refine z1R ?_)); done) | exact rfl | omega | decide) only [zb_12_1, zb_12_3, r_iconst, r_istore_4i, r_istore_4r, r_istore_4j, r_istore_5i, r_istore_5r, r_istore_5j, r_goto_w, r_iload_5, r_aload_1, r_gf_448, r_ishl, r_icmp_ge, r_inv_1_0, r_inv_1_1, r_inv_1_2, r_inv_1_3, r_inv_1_4, r_K0, r_K1, r_iload_3, r_icmp_ne, r_aload_0, r_iload_2, r_inv_4_0, r_inv_4_1, r_inv_4_2, r_inv_4_3, r_inv_4_4, r_if_eq, r_iinc_4i, r_iinc_4r, r_iinc_4j, r_iinc_5i, r_iinc_5r, r_iinc_5j, r_goto, r_iload_4, r_iret, r_bret_0, r_bret_1, vn, zshl_two, Int.le_refl, ↓reduceIte, not_true_eq_false, not_false_eq_true, Int.reduceEq, Int.reduceLE, Int.reduceLT, Int.reduceAdd, Int.reduceNeg, Int.reduceMul, Int.reduceSub, Int.reduceToNat]
set_option maxRecDepth 20000 in
theorem c_findCut (hd : 3 ≤ d) (hF : zFP s V) (hB : zFB ρ V) (hP : zStP s V a) (hC : zStC ρ V a) (hW : zWF ρ) {x z j : Int} (x0 : 0 ≤ x) (x1 : x < ρ.n) (hz : zI32 z) (hj : zI32 j) : zcall d 13 [.ref 139, .ref a, zi x, zi z, zi j] (s, V) Q = Q (.inl (some (zi (zCutj ρ x z j)))) (s, V) := by
  obtain ⟨n0, n1, c0, c1⟩ := hW.1
  obtain ⟨z1, z2⟩ := hz
  obtain ⟨j1, j2⟩ := hj
  have f1 := hF.1
  have hw := zTwo_rng n1
  have vn := hC.1
  have tO := hP.1
  obtain ⟨d, rfl⟩ : ∃ e, d = e + 1 := ⟨d - 1, by omega⟩
  simp (disch := first | assumption | omega) only [zc_13]
  simp (disch := first | assumption | exact zk_13 | ((repeat (first | exact z1n | refine z1I ?_ | refine z1R ?_)); done) | exact rfl | omega | decide) only [zb_13_0, r_iconst, r_istore_5i, r_istore_5r, r_istore_5j, r_istore_6i, r_istore_6r, r_istore_6j, r_goto_w, r_iload_6, r_aload_1, r_gf_448, r_ishl, r_icmp_ge, r_inv_1_0, r_inv_1_1, r_inv_1_2, r_inv_1_3, r_inv_1_4, r_K0, r_K1, r_iload_3, r_icmp_ne, r_aload_0, r_iload_2, r_inv_4_0, r_inv_4_1, r_inv_4_2, r_inv_4_3, r_inv_4_4, r_if_eq, r_iload_5, r_iload_4, r_iret, r_bret_0, r_bret_1, r_iinc_5i, r_iinc_5r, r_iinc_5j, r_iinc_6i, r_iinc_6r, r_iinc_6j, r_goto, ↓reduceIte, not_true_eq_false, not_false_eq_true, Int.reduceEq, Int.reduceLE, Int.reduceLT, Int.reduceAdd, Int.reduceNeg, Int.reduceMul, Int.reduceSub, Int.reduceToNat]
  obtain ⟨r1, r2⟩ := z_search (F := fun k => zwp (zcall d) 13 Q (zB 13 1) [.ref 139, .ref a, zi x, zi z, zi j, zi (zct (zCz ρ x z) k), zi k] [] (s, V)) (E := fun k => Q (.inl (some (zi k))) (s, V)) (p := zCtj ρ x z j) (i := 0) (n := zTwo ρ.n) (by omega) (fun k k0 k1 => by
    obtain ⟨v, rfl⟩ : ∃ v : Nat, k = v := ⟨k.toNat, by omega⟩
    have hv : v < 2 ^ ρ.n.toNat := by unfold zTwo at k1; omega
    have hcr := zct_rng (p := zCz ρ x z) k0
    have hpr := zpop_rng (v := v)
    have hv4 : v < 4096 := by omega
    have hcut : ∀ K, zcall d 11 [.ref 139, .ref a, zi x, zi (v : Nat)] (s, V) K = if zCut ρ x v = true then K (.inl (some (zi 1))) (s, V) else K (.inl (some (zi 0))) (s, V) := fun K => c_isCut (by omega) hF hB hP hC hW x0 x1 hv
    have hcz : zCz ρ x z (v : Int) = (decide (zpop v = z) && zCut ρ x v) := by unfold zCz; rw [Int.toNat_natCast]
    have hct : zCtj ρ x z j (v : Int) = (zCz ρ x z v && decide (zct (zCz ρ x z) v = j)) := rfl
    rw [zct_s k0, hct, hcz]
    generalize zct (zCz ρ x z) (v : Int) = m at hcr
    constructor
    · intro q
      simp only [Bool.and_eq_true, decide_eq_true_eq] at q
      obtain ⟨⟨e1, e2⟩, e3⟩ := q
      subst e1 e3
      conv => lhs; rw [zb_13_1]
      simp (disch := first | assumption | exact zk_13 | ((repeat (first | exact z1n | refine z1I ?_ | refine z1R ?_)); done) | exact rfl | omega | decide) only [r_iconst, r_istore_5i, r_istore_5r, r_istore_5j, r_istore_6i, r_istore_6r, r_istore_6j, r_goto_w, r_iload_6, r_aload_1, r_gf_448, r_ishl, r_icmp_ge, r_inv_1_0, r_inv_1_1, r_inv_1_2, r_inv_1_3, r_inv_1_4, r_K0, r_K1, r_iload_3, r_icmp_ne, r_aload_0, r_iload_2, r_inv_4_0, r_inv_4_1, r_inv_4_2, r_inv_4_3, r_inv_4_4, r_if_eq, r_iload_5, r_iload_4, r_iret, r_bret_0, r_bret_1, r_iinc_5i, r_iinc_5r, r_iinc_5j, r_iinc_6i, r_iinc_6r, r_iinc_6j, r_goto, vn, zshl_two, c_bitCount, hcut, e2, ↓reduceIte, not_true_eq_false, not_false_eq_true, Int.reduceEq, Int.reduceLE, Int.reduceLT, Int.reduceAdd, Int.reduceNeg, Int.reduceMul, Int.reduceSub, Int.reduceToNat]
      rw [if_neg (by omega)]
    · intro q
      conv => lhs; rw [zb_13_1]
      by_cases e1 : zpop v = z
      · subst e1
        by_cases e2 : zCut ρ x v = true
        · have e3 : m ≠ j := by simpa [e2] using q
          simp (disch := first | assumption | exact zk_13 | ((repeat (first | exact z1n | refine z1I ?_ | refine z1R ?_)); done) | exact rfl | omega | decide) only [zb_13_2, zb_13_3, r_iconst, r_istore_5i, r_istore_5r, r_istore_5j, r_istore_6i, r_istore_6r, r_istore_6j, r_goto_w, r_iload_6, r_aload_1, r_gf_448, r_ishl, r_icmp_ge, r_inv_1_0, r_inv_1_1, r_inv_1_2, r_inv_1_3, r_inv_1_4, r_K0, r_K1, r_iload_3, r_icmp_ne, r_aload_0, r_iload_2, r_inv_4_0, r_inv_4_1, r_inv_4_2, r_inv_4_3, r_inv_4_4, r_if_eq, r_iload_5, r_iload_4, r_iret, r_bret_0, r_bret_1, r_iinc_5i, r_iinc_5r, r_iinc_5j, r_iinc_6i, r_iinc_6r, r_iinc_6j, r_goto, vn, zshl_two, c_bitCount, hcut, e2, e3, decide_true, Bool.and_self, ↓reduceIte, not_true_eq_false, not_false_eq_true, Int.reduceEq, Int.reduceLE, Int.reduceLT, Int.reduceAdd, Int.reduceNeg, Int.reduceMul, Int.reduceSub, Int.reduceToNat]
          rw [if_neg (by omega)]
        · have e2 : zCut ρ x v = false := by simpa using e2
          simp (disch := first | assumption | exact zk_13 | ((repeat (first | exact z1n | refine z1I ?_ | refine z1R ?_)); done) | exact rfl | omega | decide) only [zb_13_2, zb_13_3, r_iconst, r_istore_5i, r_istore_5r, r_istore_5j, r_istore_6i, r_istore_6r, r_istore_6j, r_goto_w, r_iload_6, r_aload_1, r_gf_448, r_ishl, r_icmp_ge, r_inv_1_0, r_inv_1_1, r_inv_1_2, r_inv_1_3, r_inv_1_4, r_K0, r_K1, r_iload_3, r_icmp_ne, r_aload_0, r_iload_2, r_inv_4_0, r_inv_4_1, r_inv_4_2, r_inv_4_3, r_inv_4_4, r_if_eq, r_iload_5, r_iload_4, r_iret, r_bret_0, r_bret_1, r_iinc_5i, r_iinc_5r, r_iinc_5j, r_iinc_6i, r_iinc_6r, r_iinc_6j, r_goto, vn, zshl_two, c_bitCount, hcut, e2, decide_true, Bool.and_false, Bool.false_eq_true, ↓reduceIte, not_true_eq_false, not_false_eq_true, Int.reduceEq, Int.reduceLE, Int.reduceLT, Int.reduceAdd, Int.reduceNeg, Int.reduceMul, Int.reduceSub, Int.reduceToNat]
          rw [if_neg (by omega)]
      · simp (disch := first | assumption | exact zk_13 | ((repeat (first | exact z1n | refine z1I ?_ | refine z1R ?_)); done) | exact rfl | omega | decide) only [zb_13_2, zb_13_3, r_iconst, r_istore_5i, r_istore_5r, r_istore_5j, r_istore_6i, r_istore_6r, r_istore_6j, r_goto_w, r_iload_6, r_aload_1, r_gf_448, r_ishl, r_icmp_ge, r_inv_1_0, r_inv_1_1, r_inv_1_2, r_inv_1_3, r_inv_1_4, r_K0, r_K1, r_iload_3, r_icmp_ne, r_aload_0, r_iload_2, r_inv_4_0, r_inv_4_1, r_inv_4_2, r_inv_4_3, r_inv_4_4, r_if_eq, r_iload_5, r_iload_4, r_iret, r_bret_0, r_bret_1, r_iinc_5i, r_iinc_5r, r_iinc_5j, r_iinc_6i, r_iinc_6r, r_iinc_6j, r_goto, vn, zshl_two, c_bitCount, e1, decide_false, Bool.false_and, Bool.false_eq_true, ↓reduceIte, not_true_eq_false, not_false_eq_true, Int.reduceEq, Int.reduceLE, Int.reduceLT, Int.reduceAdd, Int.reduceNeg, Int.reduceMul, Int.reduceSub, Int.reduceToNat]
        rw [if_neg (by omega)])
  have e0 : zct (zCz ρ x z) 0 = 0 := rfl
  rw [e0] at r1 r2
  obtain ⟨b1, b2, -, -⟩ := zfst_is (zCtj ρ x z j) (i := 0) (n := zTwo ρ.n) (by omega)
  unfold zCutj zTh
  by_cases q : zfst (zCtj ρ x z j) 0 (zTwo ρ.n) < zTwo ρ.n
  · rw [if_pos q]
    exact r1 q
  · rw [if_neg q]
    refine (r2 (by omega)).trans ?_
    have hcr := zct_rng (p := zCz ρ x z) (k := zTwo ρ.n) (by omega)
    simp (disch := first | assumption | exact zk_13 | ((repeat (first | exact z1n | refine z1I ?_ | refine z1R ?_)); done) | exact rfl | omega | decide) only [zb_13_1, zb_13_4, r_iconst, r_istore_5i, r_istore_5r, r_istore_5j, r_istore_6i, r_istore_6r, r_istore_6j, r_goto_w, r_iload_6, r_aload_1, r_gf_448, r_ishl, r_icmp_ge, r_inv_1_0, r_inv_1_1, r_inv_1_2, r_inv_1_3, r_inv_1_4, r_K0, r_K1, r_iload_3, r_icmp_ne, r_aload_0, r_iload_2, r_inv_4_0, r_inv_4_1, r_inv_4_2, r_inv_4_3, r_inv_4_4, r_if_eq, r_iload_5, r_iload_4, r_iret, r_bret_0, r_bret_1, r_iinc_5i, r_iinc_5r, r_iinc_5j, r_iinc_6i, r_iinc_6r, r_iinc_6j, r_goto, vn, zshl_two, Int.le_refl, ↓reduceIte, not_true_eq_false, not_false_eq_true, Int.reduceEq, Int.reduceLE, Int.reduceLT, Int.reduceAdd, Int.reduceNeg, Int.reduceMul, Int.reduceSub, Int.reduceToNat]
end
