/-! BITS: sets of services as natural numbers -/
theorem zbv (a : Nat) : (Int32.ofInt (a : Int)).toBitVec = BitVec.ofNat 32 a := by
  show BitVec.ofInt 32 (a : Int) = _
  rw [BitVec.ofInt_natCast]
theorem zti {x : Int32} {a : Nat} (h : x.toBitVec.toNat = a) (ha : a < 2147483648) : x.toInt = (a : Int) := by
  show x.toBitVec.toInt = _
  rw [BitVec.toInt_eq_toNat_of_lt (by rw [h]; omega), h]
theorem zand_n {a b : Nat} (ha : a < 2147483648) (hb : b < 2147483648) : zand (a : Int) (b : Int) = ((a &&& b : Nat) : Int) := by
  refine zti ?_ (Nat.lt_of_le_of_lt Nat.and_le_left ha)
  rw [Int32.toBitVec_and, zbv, zbv, BitVec.toNat_and, BitVec.toNat_ofNat, BitVec.toNat_ofNat, Nat.mod_eq_of_lt (by omega), Nat.mod_eq_of_lt (by omega)]
theorem zor_n {a b : Nat} (ha : a < 2147483648) (hb : b < 2147483648) : zor (a : Int) (b : Int) = ((a ||| b : Nat) : Int) := by
  refine zti ?_ (Nat.or_lt_two_pow (n := 31) ha hb)
  rw [Int32.toBitVec_or, zbv, zbv, BitVec.toNat_or, BitVec.toNat_ofNat, BitVec.toNat_ofNat, Nat.mod_eq_of_lt (by omega), Nat.mod_eq_of_lt (by omega)]
/-- a without b -/
def zdf (a b : Nat) : Nat := a ^^^ (a &&& b)
theorem zdf_bit (a b i : Nat) : (zdf a b).testBit i = (a.testBit i && !b.testBit i) := by
  unfold zdf
  rw [Nat.testBit_xor, Nat.testBit_and]
  cases a.testBit i <;> cases b.testBit i <;> rfl
theorem zdf_le (a b : Nat) : zdf a b ≤ a := by
  refine Nat.le_of_testBit ?_ 
  intro i hi
  rw [zdf_bit] at hi
  simp at hi
  exact hi.1
theorem zandn_n {a b : Nat} (ha : a < 2147483648) (hb : b < 2147483648) : zand (a : Int) (zxor (b : Int) (-1)) = ((zdf a b : Nat) : Int) := by
  refine zti ?_ (Nat.lt_of_le_of_lt (zdf_le a b) ha)
  unfold zxor
  rw [Int32.ofInt_toInt, Int32.toBitVec_and, Int32.toBitVec_xor, zbv, zbv]
  apply Nat.eq_of_testBit_eq
  intro i
  rw [zdf_bit, BitVec.testBit_toNat, BitVec.getLsbD_and, BitVec.getLsbD_xor, BitVec.getLsbD_ofNat, BitVec.getLsbD_ofNat]
  have e : (Int32.ofInt (-1)).toBitVec.getLsbD i = decide (i < 32) := by
    show (BitVec.allOnes 32).getLsbD i = _
    rw [BitVec.getLsbD_allOnes]
  rw [e]
  by_cases hi : i < 32
  · simp [hi]
  · have : a.testBit i = false := Nat.testBit_lt_two_pow (Nat.lt_of_lt_of_le ha (Nat.le_trans (by decide : 2147483648 ≤ 2 ^ 32) (Nat.pow_le_pow_right (by omega) (by omega))))
    simp [this]
theorem zshl_1' : ∀ x : Nat, x < 31 → zshl 1 (x : Int) = ((2 ^ x : Nat) : Int) := by decide +kernel
theorem zshl_1 {x : Int} (h1 : 0 ≤ x) (h2 : x < 31) : zshl 1 x = ((2 ^ x.toNat : Nat) : Int) := by
  have := zshl_1' x.toNat (by omega)
  rwa [Int.toNat_of_nonneg h1] at this
theorem zshc : ∀ x : Nat, x < 32 → ((Int32.ofInt (x : Int) &&& 31).toBitVec.smod 32#32).toNat = x := by decide +kernel
theorem zshr_n {a : Nat} {x : Int} (ha : a < 2147483648) (h1 : 0 ≤ x) (h2 : x < 31) : zshr (a : Int) x = ((a >>> x.toNat : Nat) : Int) := by
  obtain ⟨n, rfl⟩ : ∃ n : Nat, x = n := ⟨x.toNat, by omega⟩
  have hlt : a >>> n < 2147483648 := Nat.lt_of_le_of_lt (by rw [Nat.shiftRight_eq_div_pow]; exact Nat.div_le_self _ _) ha
  rw [Int.toNat_natCast]
  refine zti ?_ hlt
  rw [Int32.toBitVec_shiftRight, zbv]
  have hm : (BitVec.ofNat 32 a).msb = false := by
    rw [BitVec.msb_eq_false_iff_two_mul_lt, BitVec.toNat_ofNat, Nat.mod_eq_of_lt (by omega)]
    omega
  rw [show BitVec.sshiftRight' (BitVec.ofNat 32 a) ((Int32.ofInt (n : Int) &&& 31).toBitVec.smod 32) = (BitVec.ofNat 32 a).sshiftRight ((Int32.ofInt (n : Int) &&& 31).toBitVec.smod 32#32).toNat from rfl, zshc n (by omega), BitVec.sshiftRight_eq_of_msb_false hm, BitVec.toNat_ushiftRight, BitVec.toNat_ofNat, Nat.mod_eq_of_lt (by omega)]
/-- is x in the set a -/
def zin (a : Nat) (x : Int) : Bool := a.testBit x.toNat
theorem zhas {a : Nat} {x : Int} (ha : a < 2147483648) (h1 : 0 ≤ x) (h2 : x < 31) : zand (zshr (a : Int) x) 1 = if zin a x = true then 1 else 0 := by
  have hlt : a >>> x.toNat < 2147483648 := Nat.lt_of_le_of_lt (by rw [Nat.shiftRight_eq_div_pow]; exact Nat.div_le_self _ _) ha
  rw [zshr_n ha h1 h2, show (1 : Int) = ((1 : Nat) : Int) from rfl, zand_n hlt (by omega)]
  unfold zin Nat.testBit
  rw [Nat.and_one_is_mod, Nat.one_and_eq_mod_two]
  rcases Nat.mod_two_eq_zero_or_one (a >>> x.toNat) with e | e <;> rw [e] <;> simp
/-- the set of x alone -/
def zone (x : Int) : Nat := 2 ^ x.toNat
theorem zone_bit {x y : Int} (h1 : 0 ≤ x) (h2 : 0 ≤ y) : zin (zone x) y = decide (x = y) := by
  unfold zin zone
  rw [Nat.testBit_two_pow]
  simp only [decide_eq_decide]
  omega
theorem zone_lt {x : Int} (h2 : x < 12) : zone x < 4096 := by
  have : 2 ^ x.toNat < 2 ^ 12 := Nat.pow_lt_pow_right (by omega) (by omega)
  exact this
theorem zshl_z {x : Int} (h1 : 0 ≤ x) (h2 : x < 31) : zshl 1 x = ((zone x : Nat) : Int) := zshl_1 h1 h2
theorem zor_lt {a b : Nat} (ha : a < 4096) (hb : b < 4096) : a ||| b < 4096 := Nat.or_lt_two_pow (n := 12) ha hb
theorem zand_lt {a b : Nat} (ha : a < 4096) : a &&& b < 4096 := Nat.lt_of_le_of_lt Nat.and_le_left ha
theorem zdf_lt {a b : Nat} (ha : a < 4096) : zdf a b < 4096 := Nat.lt_of_le_of_lt (zdf_le a b) ha
theorem zin_or (a b : Nat) (x : Int) : zin (a ||| b) x = (zin a x || zin b x) := Nat.testBit_or ..
theorem zin_and (a b : Nat) (x : Int) : zin (a &&& b) x = (zin a x && zin b x) := Nat.testBit_and ..
theorem zin_df (a b : Nat) (x : Int) : zin (zdf a b) x = (zin a x && !zin b x) := zdf_bit ..
theorem zin_zero (x : Int) : zin 0 x = false := Nat.zero_testBit _
theorem zin_hi {a : Nat} {x : Int} (ha : a < 4096) (hx : 12 ≤ x) : zin a x = false :=
  Nat.testBit_lt_two_pow (Nat.lt_of_lt_of_le ha (Nat.pow_le_pow_right (n := 2) (i := 12) (by omega) (by omega)))
theorem zset_ext {a b : Nat} (ha : a < 4096) (hb : b < 4096) (h : ∀ x : Int, 0 ≤ x → x < 12 → zin a x = zin b x) : a = b := by
  apply Nat.eq_of_testBit_eq
  intro i
  by_cases hi : i < 12
  · have := h (i : Int) (by omega) (by omega)
    unfold zin at this
    rwa [Int.toNat_natCast] at this
  · have h1 := zin_hi (x := (i : Int)) ha (by omega)
    have h2 := zin_hi (x := (i : Int)) hb (by omega)
    unfold zin at h1 h2
    rw [Int.toNat_natCast] at h1 h2
    rw [h1, h2]
theorem zdf_zero {a b : Nat} (ha : a < 4096) : zdf a b = 0 ↔ ∀ x : Int, 0 ≤ x → x < 12 → zin a x = true → zin b x = true := by
  constructor
  · intro h x h1 h2 h3
    have := zin_df a b x
    rw [h, zin_zero, h3] at this
    simpa using this
  · intro h
    refine zset_ext (zdf_lt ha) (by omega) (fun x h1 h2 => ?_)
    rw [zin_df, zin_zero]
    cases e : zin a x
    · rfl
    · rw [h x h1 h2 e]; rfl
/-- the set of those below n with p -/
def zmk (p : Int → Bool) : Nat → Nat
  | 0 => 0
  | k + 1 => zmk p k ||| (if p k = true then 2 ^ k else 0)
theorem zmk_bit (p : Int → Bool) (n : Nat) (x : Int) (hx : 0 ≤ x) : zin (zmk p n) x = true ↔ x < n ∧ p x = true := by
  induction n with
  | zero => 
    rw [show zmk p 0 = 0 from rfl, zin_zero]
    constructor
    · intro h; cases h
    · intro h; omega
  | succ k ih =>
    rw [show zmk p (k + 1) = zmk p k ||| (if p k = true then 2 ^ k else 0) from rfl, zin_or, Bool.or_eq_true, ih]
    by_cases hp : p (k : Int) = true
    · rw [if_pos hp, show 2 ^ k = zone (k : Int) by unfold zone; rw [Int.toNat_natCast], zone_bit (by omega) hx, decide_eq_true_eq]
      constructor
      · rintro (h | h)
        · exact ⟨by omega, h.2⟩
        · rw [← h]; exact ⟨by omega, hp⟩
      · intro h
        by_cases e : x = k
        · exact Or.inr e.symm
        · exact Or.inl ⟨by omega, h.2⟩
    · rw [if_neg hp, zin_zero]
      constructor
      · rintro (h | h)
        · exact ⟨by omega, h.2⟩
        · cases h
      · intro h
        refine Or.inl ⟨?_, h.2⟩
        by_cases e : x = k
        · rw [e] at h; exact absurd h.2 hp
        · omega
theorem zmk_lt (p : Int → Bool) {n : Nat} (hn : n ≤ 12) : zmk p n < 4096 := by
  induction n with
  | zero => exact (by decide : (0 : Nat) < 4096)
  | succ k ih =>
    refine zor_lt (ih (by omega)) ?_
    split
    · have : 2 ^ k < 2 ^ 12 := Nat.pow_lt_pow_right (by omega) (by omega)
      exact this
    · decide
