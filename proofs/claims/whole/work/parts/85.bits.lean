/-! FLOATS, 2: exact values; the bits of a float below 2 -/
theorem zRx {f : FP.Core.Fmt} (hf : FP.Core.Good f) (s : Bool) {A c N : Nat} {e q : Int} (he : -(N : Int) ≤ e) (hq : f.qmin ≤ q) (hN : -(N : Int) ≤ f.qmin) (hc : c < 2 ^ f.p) (hm : q < f.qmax) (hv : A * 2 ^ (e + N).toNat = c * 2 ^ (q + N).toNat) : ∃ c1 q1, FP.Core.roundRatio f s A 1 e = .fin s c1 q1 ∧ f.qmin ≤ q1 ∧ c1 * 2 ^ (q1 - f.qmin).toNat = c * 2 ^ (q - f.qmin).toNat := by
  have hp := hf.2
  unfold FP.Core.roundRatio
  by_cases hA : A = 0
  · rw [if_pos hA]
    rw [hA, Nat.zero_mul] at hv
    have h0 : c = 0 := by
      rcases Nat.mul_eq_zero.mp hv.symm with h | h
      · exact h
      · exact absurd h (Nat.ne_of_gt (Nat.two_pow_pos _))
    exact ⟨0, f.qmin, rfl, Int.le_refl _, by rw [h0, Nat.zero_mul, Nat.zero_mul]⟩
  · rw [if_neg hA]
    have hA : 0 < A := by omega
    have hb : FP.Core.Below A 1 (q - e + f.p) := by
      rw [show q - e + f.p = ((f.p + (q + N).toNat : Nat) : Int) - ((e + N).toNat : Nat) by omega, FP.Core.below_iff, hv, Nat.one_mul, Nat.pow_add]
      exact Nat.mul_lt_mul_of_pos_right hc (Nat.two_pow_pos _)
    have hl := FP.Core.lt_of_below (FP.Core.leading_spec hA (by decide : 0 < 1)).1 hb
    have hq0 := FP.Core.quantum_ge f A 1 e
    have hq1 : FP.Core.quantum f A 1 e ≤ q := by unfold FP.Core.quantum; omega
    have hmm := FP.Core.nearest_units_le (f := f) hA (by decide : 0 < 1) e
    generalize FP.Core.quantum f A 1 e = z at hq0 hq1 hmm
    have hn : FP.Core.unitsNum A e z = c * 2 ^ (q - z).toNat * FP.Core.unitsDen 1 e z := by
      unfold FP.Core.unitsNum FP.Core.unitsDen
      refine Nat.eq_of_mul_eq_mul_right (Nat.two_pow_pos (z + N).toNat) ?_
      have h1 : (e - z).toNat + (z + N).toNat = (e + N).toNat + (z - e).toNat := by omega
      have h2 : (q - z).toNat + (z + N).toNat = (q + N).toNat := by omega
      rw [Nat.mul_assoc, ← Nat.pow_add, h1, Nat.pow_add, ← Nat.mul_assoc, hv, ← h2, Nat.pow_add, Nat.one_mul]
      ac_rfl
    unfold FP.Core.roundAt FP.Core.settle FP.Core.bound
    rw [hn, FP.Core.nearest_exact _ (FP.Core.unitsDen_pos (by decide) ..)]
    rw [hn, FP.Core.nearest_exact _ (FP.Core.unitsDen_pos (by decide) ..)] at hmm
    have ht : (q - f.qmin).toNat = (q - z).toNat + (z - f.qmin).toNat := by omega
    by_cases k : c * 2 ^ (q - z).toNat < 2 ^ f.p
    · rw [if_pos k, if_pos (by omega)]
      exact ⟨_, z, rfl, hq0, by rw [ht, Nat.pow_add, Nat.mul_assoc]⟩
    · rw [if_neg k, if_pos (by omega)]
      refine ⟨f.tails, z + 1, rfl, by omega, ?_⟩
      have hmq : c * 2 ^ (q - z).toNat = 2 * f.tails := by rw [← FP.Core.two_tails hf]; omega
      rw [show (z + 1 - f.qmin).toNat = (z - f.qmin).toNat + 1 by omega, ht, Nat.pow_succ, Nat.pow_add 2 (q - z).toNat, ← Nat.mul_assoc c, hmq]
      ac_rfl
/-- a double that is just c * 2^q -/
def zDvl (a : UInt64) (c : Nat) (q : Int) : Prop := ∃ c1 q1, FP.Core.val64 a = .fin false c1 q1 ∧ c1 * 2 ^ (q1 + 1074).toNat = c * 2 ^ (q + 1074).toNat
theorem zDvl_of {a : UInt64} {A c N : Nat} {e q : Int} (h : FP.Core.val64 a = FP.Core.roundRatio FP.Core.b64 false A 1 e) (he : -(N : Int) ≤ e) (hN : 1074 ≤ N) (hq : -1074 ≤ q) (hc : c < 2 ^ 53) (hm : q < 971) (hv : A * 2 ^ (e + N).toNat = c * 2 ^ (q + N).toNat) : zDvl a c q := by
  obtain ⟨c1, q1, h1, h2, h3⟩ := zRx FP.Core.good_b64 false (A := A) (c := c) (N := N) (e := e) (q := q) he (by rw [z64min]; exact hq) (by rw [z64min]; omega) hc (by rw [z64max]; exact hm) hv
  rw [z64min] at h2 h3
  rw [show q1 - -1074 = q1 + 1074 by omega, show q - -1074 = q + 1074 by omega] at h3
  exact ⟨c1, q1, h.trans h1, h3⟩
theorem zDvl.nn {a : UInt64} {c : Nat} {q : Int} (h : zDvl a c q) : vf_n64 a := by
  obtain ⟨c1, q1, e1, -⟩ := h
  exact zDu.nn (k := c1 * 2 ^ (q1 + 1074).toNat) ⟨c1, q1, e1, Nat.le_mul_of_pos_right _ (Nat.two_pow_pos _)⟩
theorem zDvl_mul {a b : UInt64} {c : Nat} {q r : Int} (ha : zDvl a c q) (hb : FP.Core.val64 b = .fin false (2 ^ 52) r) (r0 : -52 ≤ r) (q0 : -1074 ≤ q) (hc : c < 2 ^ 53) (hm : q + 52 + r < 971) : zDvl (FP.dmul a b) c (q + 52 + r) := by
  obtain ⟨c1, q1, e1, e2⟩ := ha
  have q10 := zDu_q e1
  have hv : FP.Core.val64 (FP.dmul a b) = FP.Core.roundRatio FP.Core.b64 false (c1 * 2 ^ 52) 1 (q1 + r) := by
    show FP.Core.val64 (FP.Core.dmul a b) = _
    rw [FP.Core.val64_dmul, e1, hb]
    rfl
  refine zDvl_of (N := 1126) hv (by omega) (by omega) (by omega) hc hm ?_
  rw [show (q1 + r + (1126 : Nat)).toNat = (q1 + 1074).toNat + (52 + r).toNat by omega, show (q + 52 + r + (1126 : Nat)).toNat = (q + 1074).toNat + (52 + (52 + r).toNat) by omega, Nat.pow_add, Nat.pow_add 2 (q + 1074).toNat, Nat.pow_add 2 52, ← Nat.mul_assoc c, ← e2]
  generalize 2 ^ (q1 + 1074).toNat = x
  generalize 2 ^ (52 + r).toNat = y
  generalize (2 : Nat) ^ 52 = z
  ac_rfl
theorem zDvl_sub {a b : UInt64} {T : Nat} (ha : zDvl a (2 ^ 23 + T) (-23)) (hT : T < 2 ^ 23) (hb : FP.Core.val64 b = .fin false (2 ^ 52) (-52)) : zDvl (FP.dsub a b) T (-23) := by
  obtain ⟨c1, q1, e1, e2⟩ := ha
  have q10 := zDu_q e1
  rw [show ((-23 : Int) + 1074).toNat = 1051 from rfl] at e2
  obtain ⟨m, hm⟩ : ∃ m, m = min q1 (-52) := ⟨_, rfl⟩
  have k1 : c1 * 2 ^ (q1 - m).toNat * 2 ^ (m + 1074).toNat = (2 ^ 23 + T) * 2 ^ 1051 := by
    rw [Nat.mul_assoc, ← Nat.pow_add, show (q1 - m).toNat + (m + 1074).toNat = (q1 + 1074).toNat by omega, e2]
  have k2 : 2 ^ 52 * 2 ^ (-52 - m).toNat * 2 ^ (m + 1074).toNat = 2 ^ 23 * 2 ^ 1051 := by
    rw [Nat.mul_assoc, ← Nat.pow_add, show (-52 - m).toNat + (m + 1074).toNat = 1022 by omega, ← Nat.pow_add, ← Nat.pow_add]
  have hpos : 0 < 2 ^ (m + 1074).toNat := Nat.two_pow_pos _
  have hle : 2 ^ 52 * 2 ^ (-52 - m).toNat ≤ c1 * 2 ^ (q1 - m).toNat := by
    refine Nat.le_of_mul_le_mul_right ?_ hpos
    rw [k1, k2]
    exact Nat.mul_le_mul_right _ (Nat.le_add_right _ _)
  have hsu : FP.Core.sumUnits false c1 q1 true (2 ^ 52) (-52) m = ((c1 * 2 ^ (q1 - m).toNat - 2 ^ 52 * 2 ^ (-52 - m).toNat : Nat) : Int) := by
    have : FP.Core.sumUnits false c1 q1 true (2 ^ 52) (-52) m = ((c1 * 2 ^ (q1 - m).toNat : Nat) : Int) + -((2 ^ 52 * 2 ^ (-52 - m).toNat : Nat) : Int) := rfl
    rw [this]
    generalize c1 * 2 ^ (q1 - m).toNat = X at hle
    generalize 2 ^ 52 * 2 ^ (-52 - m).toNat = Y at hle
    omega
  have k3 : (c1 * 2 ^ (q1 - m).toNat - 2 ^ 52 * 2 ^ (-52 - m).toNat) * 2 ^ (m + 1074).toNat = T * 2 ^ 1051 := by
    rw [Nat.sub_mul, k1, k2, Nat.add_mul, Nat.add_sub_cancel_left]
  have hss : ∀ z : Nat, FP.Core.sumSign false true (z : Int) = false := fun z => by
    unfold FP.Core.sumSign
    split
    · rfl
    · exact decide_eq_false (by omega)
  have hv : FP.Core.val64 (FP.dsub a b) = FP.Core.roundRatio FP.Core.b64 false (c1 * 2 ^ (q1 - m).toNat - 2 ^ 52 * 2 ^ (-52 - m).toNat) 1 m := by
    show FP.Core.val64 (FP.Core.dsub a b) = _
    rw [FP.Core.val64_dsub, e1, hb]
    show FP.Core.round FP.Core.b64 (.fin (FP.Core.sumSign false true (FP.Core.sumUnits false c1 q1 true (2 ^ 52) (-52) (min q1 (-52)))) (FP.Core.sumUnits false c1 q1 true (2 ^ 52) (-52) (min q1 (-52))).natAbs (min q1 (-52))) = _
    rw [← hm, hsu, hss, Int.natAbs_natCast]
    rfl
  refine zDvl_of (N := 1074) hv (by omega) (by omega) (by omega) (by omega) (by omega) ?_
  exact k3
theorem zDvl_cmp {a b : UInt64} {c e : Nat} {q r : Int} (ha : zDvl a c q) (hb : zDvl b e r) : FP.dcmp a b = some (compare ((c * 2 ^ (q + 1074).toNat : Nat) : Int) ((e * 2 ^ (r + 1074).toNat : Nat) : Int)) := by
  obtain ⟨c1, q1, e1, e2⟩ := ha
  obtain ⟨c2, q2, e3, e4⟩ := hb
  have q10 := zDu_q e1
  have q20 := zDu_q e3
  show FP.Core.order (FP.Core.val64 a) (FP.Core.val64 b) = _
  rw [e1, e3]
  obtain ⟨m, hm⟩ : ∃ m, m = min q1 q2 := ⟨_, rfl⟩
  show some (compare ((c1 * 2 ^ (q1 - min q1 q2).toNat : Nat) : Int) ((c2 * 2 ^ (q2 - min q1 q2).toNat : Nat) : Int)) = _
  rw [← hm, ← FP.Core.compare_mul_pos _ _ ((2 ^ (m + 1074).toNat : Nat) : Int) (by have := Nat.two_pow_pos (m + 1074).toNat; omega), ← Int.natCast_mul, ← Int.natCast_mul, Nat.mul_assoc, Nat.mul_assoc, ← Nat.pow_add, ← Nat.pow_add, show (q1 - m).toNat + (m + 1074).toNat = (q1 + 1074).toNat by omega, show (q2 - m).toNat + (m + 1074).toNat = (q2 + 1074).toNat by omega, e2, e4]
theorem zDvl_int {a : UInt64} {T : Nat} (h : zDvl a T 0) (hT : T < 2 ^ 31) : FP.d2i a = Int32.ofInt T := by
  obtain ⟨c1, q1, e1, e2⟩ := h
  have q10 := zDu_q e1
  have hw : FP.Core.DInt (Int32.ofInt (T : Int)).toInt a := by
    rw [z_rng (by omega) (by omega)]
    show FP.Core.Whole _ (FP.Core.val64 a)
    rw [e1]
    show ((c1 * 2 ^ q1.toNat : Nat) : Int) = (T : Int) * ((2 ^ (-q1).toNat : Nat) : Int)
    rw [← Int.natCast_mul]
    congr 1
    refine Nat.eq_of_mul_eq_mul_right (Nat.two_pow_pos (min q1 0 + 1074).toNat) ?_
    rw [Nat.mul_assoc, ← Nat.pow_add, Nat.mul_assoc, ← Nat.pow_add, show q1.toNat + (min q1 0 + 1074).toNat = (q1 + 1074).toNat by omega, e2, show (-q1).toNat + (min q1 0 + 1074).toNat = ((0 : Int) + 1074).toNat by omega]
  exact FP.Core.d2i_int hw
def zcg (r : Option Ordering) : Int := if r = some .lt then -1 else if r = some .eq then 0 else 1
theorem zcg_eq (r : Option Ordering) : Value.int (Op.cmpValue r .g) = zi (zcg r) := by
  rcases r with _ | (_ | _ | _) <;> rfl
theorem zcg_cmp {x y : Int} : zcg (some (compare x y)) = if x < y then -1 else if x = y then 0 else 1 := by
  unfold zcg
  rcases Int.lt_trichotomy x y with h | h | h
  · have : compare x y = .lt := by
      show compareOfLessAndEq x y = .lt
      unfold compareOfLessAndEq
      rw [if_pos h]
    rw [this, if_pos h]
    rfl
  · have : compare x y = .eq := by
      show compareOfLessAndEq x y = .eq
      unfold compareOfLessAndEq
      rw [if_neg (by omega), if_pos h]
    rw [this, if_neg (show ¬ x < y by omega), if_pos h]
    rfl
  · have : compare x y = .gt := by
      show compareOfLessAndEq x y = .gt
      unfold compareOfLessAndEq
      rw [if_neg (by omega), if_neg (by omega)]
    rw [this, if_neg (show ¬ x < y by omega), if_neg (show ¬ x = y by omega)]
    rfl
