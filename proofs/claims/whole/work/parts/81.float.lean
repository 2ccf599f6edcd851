/-! FLOATS, 1: bounds on a grid -/
theorem zRd {f : FP.Core.Fmt} (hf : FP.Core.Good f) (s : Bool) {A B : Nat} (hB : 0 < B) {e : Int} {N k : Nat} (he : -(N : Int) ≤ e) (hN : f.p ≤ N + 1) (hk : k < 2 ^ f.p) (hmin : f.qmin ≤ 1 - (f.p : Int)) (hmax : 2 - (f.p : Int) ≤ f.qmax) (hv : A * 2 ^ (e + N).toNat ≤ k * B * 2 ^ (N + 1 - f.p)) : ∃ c q, FP.Core.roundRatio f s A B e = .fin s c q ∧ f.qmin ≤ q ∧ c * 2 ^ (q - f.qmin).toNat ≤ k * 2 ^ (1 - (f.p : Int) - f.qmin).toNat := by
  have hp := hf.2
  unfold FP.Core.roundRatio
  by_cases hA : A = 0
  · rw [if_pos hA]
    exact ⟨0, f.qmin, rfl, Int.le_refl _, by rw [Nat.zero_mul]; exact Nat.zero_le _⟩
  · rw [if_neg hA]
    have hA : 0 < A := by omega
    obtain ⟨E, hE⟩ : ∃ E : Nat, e = (E : Int) - N := ⟨(e + N).toNat, by omega⟩
    rw [show (e + N).toNat = E by omega] at hv
    have hb : FP.Core.Below A B (1 - e) := by
      rw [show 1 - e = ((N + 1 : Nat) : Int) - (E : Nat) by omega, FP.Core.below_iff]
      refine Nat.lt_of_le_of_lt hv ?_
      have h2 : 2 ^ (N + 1) = 2 ^ f.p * 2 ^ (N + 1 - f.p) := by rw [← Nat.pow_add]; congr 1; omega
      rw [h2, ← Nat.mul_assoc, Nat.mul_comm B]
      exact Nat.mul_lt_mul_of_pos_right (Nat.mul_lt_mul_of_pos_right hk hB) (Nat.two_pow_pos _)
    have hl := FP.Core.lt_of_below (FP.Core.leading_spec hA hB).1 hb
    have hq0 := FP.Core.quantum_ge f A B e
    have hq1 : FP.Core.quantum f A B e ≤ 1 - (f.p : Int) := by unfold FP.Core.quantum; omega
    have hm := FP.Core.nearest_units_le (f := f) hA hB e
    generalize hq : FP.Core.quantum f A B e = q at hq0 hq1 hm
    obtain ⟨D, hD⟩ : ∃ D : Nat, q = 1 - (f.p : Int) - D := ⟨(1 - (f.p : Int) - q).toNat, by omega⟩
    have hn : FP.Core.nearest (FP.Core.unitsNum A e q) (FP.Core.unitsDen B e q) ≤ k * 2 ^ D := by
      refine FP.Core.nearest_le (FP.Core.unitsDen_pos hB ..) ?_
      unfold FP.Core.unitsNum FP.Core.unitsDen
      have hXY : (e - q).toNat + (N + 1 - f.p) = E + (D + (q - e).toNat) := by omega
      refine Nat.le_of_mul_le_mul_right ?_ (Nat.two_pow_pos (N + 1 - f.p))
      generalize (e - q).toNat = X at hXY
      generalize (q - e).toNat = Y at hXY
      calc A * 2 ^ X * 2 ^ (N + 1 - f.p) = A * 2 ^ E * 2 ^ (D + Y) := by rw [Nat.mul_assoc, ← Nat.pow_add, hXY, Nat.pow_add, ← Nat.mul_assoc]
        _ ≤ k * B * 2 ^ (N + 1 - f.p) * 2 ^ (D + Y) := Nat.mul_le_mul_right _ hv
        _ = k * 2 ^ D * (B * 2 ^ Y) * 2 ^ (N + 1 - f.p) := by rw [Nat.pow_add 2 D Y]; ac_rfl
    unfold FP.Core.roundAt FP.Core.settle FP.Core.bound
    generalize FP.Core.nearest (FP.Core.unitsNum A e q) (FP.Core.unitsDen B e q) = m at hn hm
    have ht : (1 - (f.p : Int) - f.qmin).toNat = D + (q - f.qmin).toNat := by omega
    by_cases c : m < 2 ^ f.p
    · rw [if_pos c, if_pos (by omega)]
      refine ⟨m, q, rfl, hq0, ?_⟩
      rw [ht, Nat.pow_add, ← Nat.mul_assoc]
      exact Nat.mul_le_mul_right _ hn
    · have hmq : m = 2 * f.tails := by rw [← FP.Core.two_tails hf]; omega
      rw [if_neg c, if_pos (by omega)]
      refine ⟨f.tails, q + 1, rfl, by omega, ?_⟩
      rw [show (q + 1 - f.qmin).toNat = (q - f.qmin).toNat + 1 by omega, ht, Nat.pow_add 2 D, ← Nat.mul_assoc, Nat.pow_succ, Nat.mul_comm (2 ^ _) 2, ← Nat.mul_assoc, Nat.mul_comm f.tails 2, ← hmq]
      exact Nat.mul_le_mul_right _ hn
theorem z64min : FP.Core.b64.qmin = -1074 := by decide
theorem z64max : FP.Core.b64.qmax = 971 := by decide
theorem z32min : FP.Core.b32.qmin = -149 := by decide
theorem z32max : FP.Core.b32.qmax = 104 := by decide
/-- a double from 0 to k in units of 2^-52 -/
def zDu (a : UInt64) (k : Nat) : Prop := ∃ c q, FP.Core.val64 a = .fin false c q ∧ c * 2 ^ (q + 1074).toNat ≤ k * 2 ^ 1022
theorem zDu.mono {a : UInt64} {i j : Nat} (h : zDu a i) (hij : i ≤ j) : zDu a j := by
  obtain ⟨c, q, e1, e2⟩ := h
  exact ⟨c, q, e1, Nat.le_trans e2 (Nat.mul_le_mul_right _ hij)⟩
theorem zDu_q {a : UInt64} {s : Bool} {c : Nat} {q : Int} (h : FP.Core.val64 a = .fin s c q) : -1074 ≤ q := by
  have f1 := FP.Core.val64_fits a
  rw [h] at f1
  have := f1.2.1
  rw [z64min] at this
  exact this
theorem zRd64 {A : Nat} {e : Int} {k : Nat} (he : -2148 ≤ e) (hk : k < 2 ^ 53) (hv : A * 2 ^ (e + 2148).toNat ≤ k * 2 ^ 2096) : ∃ c q, FP.Core.roundRatio FP.Core.b64 false A 1 e = .fin false c q ∧ c * 2 ^ (q + 1074).toNat ≤ k * 2 ^ 1022 := by
  obtain ⟨c, q, h1, h2, h3⟩ := zRd FP.Core.good_b64 false (A := A) (B := 1) (e := e) (N := 2148) (k := k) (by omega) he (by decide) hk (by rw [z64min]; decide) (by rw [z64max]; decide) (by rw [Nat.mul_one]; exact hv)
  rw [z64min] at h3
  refine ⟨c, q, h1, ?_⟩
  rw [show q - -1074 = q + 1074 by omega] at h3
  exact h3
theorem zDu_mul {a b : UInt64} {i j k : Nat} (ha : zDu a i) (hb : zDu b j) (h : i * j ≤ k * 2 ^ 52) (hk : k < 2 ^ 53) : zDu (FP.dmul a b) k := by
  obtain ⟨c, q, e1, e2⟩ := ha
  obtain ⟨d, r, e3, e4⟩ := hb
  have q0 := zDu_q e1
  have r0 := zDu_q e3
  have hv : FP.Core.val64 (FP.dmul a b) = FP.Core.roundRatio FP.Core.b64 false (c * d) 1 (q + r) := by
    show FP.Core.val64 (FP.Core.dmul a b) = _
    rw [FP.Core.val64_dmul, e1, e3]
    rfl
  obtain ⟨c', q', g1, g2⟩ := zRd64 (A := c * d) (e := q + r) (k := k) (by omega) hk (by
    rw [show (q + r + 2148).toNat = (q + 1074).toNat + (r + 1074).toNat by omega, Nat.pow_add]
    generalize 2 ^ (q + 1074).toNat = x at e2
    generalize 2 ^ (r + 1074).toNat = y at e4
    have e5 : (2 : Nat) ^ 2096 = 2 ^ 52 * (2 ^ 1022 * 2 ^ 1022) := by rw [← Nat.pow_add, ← Nat.pow_add]
    rw [e5]
    generalize (2 : Nat) ^ 1022 = u at e2 e4
    calc c * d * (x * y) = (c * x) * (d * y) := by ac_rfl
      _ ≤ (i * u) * (j * u) := Nat.mul_le_mul e2 e4
      _ = (i * j) * (u * u) := by ac_rfl
      _ ≤ (k * 2 ^ 52) * (u * u) := Nat.mul_le_mul_right _ h
      _ = k * (2 ^ 52 * (u * u)) := by rw [Nat.mul_assoc])
  exact ⟨c', q', hv.trans g1, g2⟩
theorem zDu_add {a b : UInt64} {i j : Nat} (ha : zDu a i) (hb : zDu b j) (hk : i + j < 2 ^ 53) : zDu (FP.dadd a b) (i + j) := by
  obtain ⟨c, q, e1, e2⟩ := ha
  obtain ⟨d, r, e3, e4⟩ := hb
  have q0 := zDu_q e1
  have r0 := zDu_q e3
  obtain ⟨m, hm⟩ : ∃ m, m = min q r := ⟨_, rfl⟩
  have hsu : FP.Core.sumUnits false c q false d r m = ((c * 2 ^ (q - m).toNat + d * 2 ^ (r - m).toNat : Nat) : Int) := by
    unfold FP.Core.sumUnits FP.Core.signed FP.Core.inUnits
    simp
  have hss : FP.Core.sumSign false false ((c * 2 ^ (q - m).toNat + d * 2 ^ (r - m).toNat : Nat) : Int) = false := by
    generalize c * 2 ^ (q - m).toNat + d * 2 ^ (r - m).toNat = z
    unfold FP.Core.sumSign
    split
    · rfl
    · exact decide_eq_false (by omega)
  have hv : FP.Core.val64 (FP.dadd a b) = FP.Core.roundRatio FP.Core.b64 false (c * 2 ^ (q - m).toNat + d * 2 ^ (r - m).toNat) 1 m := by
    show FP.Core.val64 (FP.Core.dadd a b) = _
    rw [FP.Core.val64_dadd, e1, e3]
    show FP.Core.round FP.Core.b64 (.fin (FP.Core.sumSign false false (FP.Core.sumUnits false c q false d r (min q r))) (FP.Core.sumUnits false c q false d r (min q r)).natAbs (min q r)) = _
    rw [← hm, hsu, hss, Int.natAbs_natCast]
    rfl
  obtain ⟨c', q', g1, g2⟩ := zRd64 (A := c * 2 ^ (q - m).toNat + d * 2 ^ (r - m).toNat) (e := m) (k := i + j) (by omega) hk (by
    rw [show (m + 2148).toNat = (m + 1074).toNat + 1074 by omega, Nat.pow_add, ← Nat.mul_assoc, Nat.add_mul, Nat.mul_assoc c, ← Nat.pow_add, Nat.mul_assoc d, ← Nat.pow_add, show (q - m).toNat + (m + 1074).toNat = (q + 1074).toNat by omega, show (r - m).toNat + (m + 1074).toNat = (r + 1074).toNat by omega]
    have e5 : (2 : Nat) ^ 2096 = 2 ^ 1022 * 2 ^ 1074 := by rw [← Nat.pow_add]
    rw [e5]
    generalize (2 : Nat) ^ 1022 = u at e2 e4
    generalize (2 : Nat) ^ 1074 = w
    rw [← Nat.mul_assoc]
    refine Nat.mul_le_mul_right _ ?_
    rw [Nat.add_mul]
    exact Nat.add_le_add e2 e4)
  exact ⟨c', q', hv.trans g1, g2⟩
def zDuB (a : UInt64) (k : Nat) : Bool := match FP.Core.val64 a with
  | .fin false c q => decide (c * 2 ^ (q + 1074).toNat ≤ k * 2 ^ 1022)
  | _ => false
theorem zDu_of {a : UInt64} {k : Nat} (h : zDuB a k = true) : zDu a k := by
  unfold zDuB at h
  split at h
  · rename_i c q e
    exact ⟨c, q, e, of_decide_eq_true h⟩
  · cases h
def zK3 : UInt64 := UInt64.ofNat (4652007308841189376 : Int).toNat
def zFc (n : Int) : UInt64 := FP.ddiv (FP.i2d (Int32.ofInt n)) zK3
def zFg (n : Nat) : Nat := (n * 2 ^ 52 + 999) / 1000
theorem zFc_all : ∀ n : Nat, n < 1001 → zDuB (zFc n) (zFg n) = true := by decide +kernel
theorem zFc_du {n : Nat} (h : n ≤ 1000) : zDu (zFc n) (zFg n) := zDu_of (zFc_all n (by omega))
theorem zFg_two {n : Nat} (h : n ≤ 1000) : zFg n + zFg (1000 - n) ≤ 2 ^ 52 + 1 := by
  unfold zFg
  omega
theorem zDu_one : zDu (UInt64.ofNat (4607182418800017408 : Int).toNat) (2 ^ 52) := zDu_of (by decide +kernel)
theorem zDu_zero : zDu (UInt64.ofNat (0 : Int).toNat) 0 := zDu_of (by decide +kernel)
