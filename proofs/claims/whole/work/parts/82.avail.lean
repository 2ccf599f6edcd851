/-! AVAILABILITY, 1: chances of sets, their sums, bounds -/
theorem zDu.nn {a : UInt64} {k : Nat} (h : zDu a k) : vf_n64 a := by
  obtain ⟨c, q, e1, -⟩ := h
  have h1 : ¬ FP.Core.dIsNaN a = true := by
    rw [FP.Core.dIsNaN_iff, e1]
    intro h; cases h
  rw [FP.Core.isNaN_bits] at h1
  unfold vf_n64
  rw [UInt64.le_iff_toNat_le, UInt64.toNat_and]
  have h2 : (0x7fffffffffffffff : UInt64).toNat = 2 ^ 63 - 1 := by decide
  have h3 : (0x7ff0000000000000 : UInt64).toNat = 9218868437227405312 := by decide
  rw [h2, h3, Nat.and_two_pow_sub_one_eq_mod]
  omega
def z1d : UInt64 := UInt64.ofNat 4607182418800017408
def z0d : UInt64 := UInt64.ofNat 0
theorem zK3_eq : UInt64.ofNat 4652007308841189376 = zK3 := rfl
theorem z1d_eq : UInt64.ofNat 4607182418800017408 = z1d := rfl
theorem z0d_eq : UInt64.ofNat 0 = z0d := rfl
theorem z1d_du : zDu z1d (2 ^ 52) := zDu_one
theorem z0d_du : zDu z0d 0 := zDu_zero
theorem zFc_eq (n : Int) : FP.ddiv (FP.i2d (Int32.ofInt n)) zK3 = zFc n := rfl
theorem zFc_nn {n : Int} (h0 : 0 ≤ n) (h1 : n ≤ 1000) : vf_n64 (FP.ddiv (FP.i2d (Int32.ofInt n)) zK3) := by
  obtain ⟨m, rfl⟩ : ∃ m : Nat, n = m := ⟨n.toNat, by omega⟩
  exact (zFc_du (n := m) (by omega)).nn
/-- a service's reliability, where one is taken as perfect -/
def zavI (ρ : zR) (pf x : Int) : Int := if x = pf then 1000 else ρ.S 5 x
theorem zavI_rng {ρ : zR} (hW : zWF ρ) {pf x : Int} (x0 : 0 ≤ x) (x1 : x < ρ.n) : 0 ≤ zavI ρ pf x ∧ zavI ρ pf x ≤ 1000 := by
  have w := (hW.2.1 x x0 x1).2.2.2.2.2.1
  unfold zavI
  split <;> omega
def zavN (ρ : zR) (pf : Int) (v : Nat) (x : Int) : Int := if zin v x = true then 1000 - zavI ρ pf x else zavI ρ pf x
/-- the chance of a set, from its first k services -/
def zavP (ρ : zR) (pf : Int) (v : Nat) (k : Int) : UInt64 := zfo (fun x p => FP.dmul p (zFc (zavN ρ pf v x))) z1d k
def zavG (ρ : zR) (pf : Int) (v : Nat) (k : Int) : Nat := zfo (fun x g => (g * zFg (zavN ρ pf v x).toNat + (2 ^ 52 - 1)) / 2 ^ 52) (2 ^ 52) k
theorem zavP_s {ρ : zR} {pf : Int} {v : Nat} {k : Int} (h : 0 ≤ k) : zavP ρ pf v (k + 1) = FP.dmul (zavP ρ pf v k) (zFc (zavN ρ pf v k)) := zfo_s h
theorem zavG_s {ρ : zR} {pf : Int} {v : Nat} {k : Int} (h : 0 ≤ k) : zavG ρ pf v (k + 1) = (zavG ρ pf v k * zFg (zavN ρ pf v k).toNat + (2 ^ 52 - 1)) / 2 ^ 52 := zfo_s h
theorem zavN_congr {ρ : zR} {pf : Int} {u v : Nat} {x : Int} (h : zin u x = zin v x) : zavN ρ pf u x = zavN ρ pf v x := by unfold zavN; rw [h]
theorem zavP_congr {ρ : zR} {pf : Int} {u v : Nat} {k : Int} (k0 : 0 ≤ k) (h : ∀ x, 0 ≤ x → x < k → zin u x = zin v x) : zavP ρ pf u k = zavP ρ pf v k :=
  zfo_congr k0 (fun j y h1 h2 => by rw [zavN_congr (h j h1 h2)])
theorem zavG_congr {ρ : zR} {pf : Int} {u v : Nat} {k : Int} (k0 : 0 ≤ k) (h : ∀ x, 0 ≤ x → x < k → zin u x = zin v x) : zavG ρ pf u k = zavG ρ pf v k :=
  zfo_congr k0 (fun j y h1 h2 => by rw [zavN_congr (h j h1 h2)])
theorem zavN_rng {ρ : zR} (hW : zWF ρ) {pf : Int} {v : Nat} {x : Int} (x0 : 0 ≤ x) (x1 : x < ρ.n) : 0 ≤ zavN ρ pf v x ∧ zavN ρ pf v x ≤ 1000 := by
  have := zavI_rng hW (pf := pf) x0 x1
  unfold zavN
  split <;> omega
theorem zFg_le {n : Nat} (h : n ≤ 1000) : zFg n ≤ 2 ^ 52 := by
  unfold zFg
  omega
theorem zceil (X : Nat) : X ≤ (X + (2 ^ 52 - 1)) / 2 ^ 52 * 2 ^ 52 := by
  show X ≤ (X + 4503599627370495) / 4503599627370496 * 4503599627370496
  omega
theorem zav_du {ρ : zR} (hW : zWF ρ) (pf : Int) (v : Nat) {k : Int} (k0 : 0 ≤ k) (k1 : k ≤ ρ.n) : zDu (zavP ρ pf v k) (zavG ρ pf v k) ∧ zavG ρ pf v k ≤ 2 ^ 52 := by
  have : ∀ m : Nat, (m : Int) ≤ ρ.n → zDu (zavP ρ pf v m) (zavG ρ pf v m) ∧ zavG ρ pf v m ≤ 2 ^ 52 := by
    intro m
    induction m with
    | zero => intro _; exact ⟨z1d_du, Nat.le_refl _⟩
    | succ m ih =>
      intro hm
      obtain ⟨i1, i2⟩ := ih (by omega)
      have hr := zavN_rng hW (pf := pf) (v := v) (x := m) (by omega) (by omega)
      rw [show ((m + 1 : Nat) : Int) = (m : Int) + 1 from rfl, zavP_s (by omega), zavG_s (by omega)]
      obtain ⟨z, hz⟩ : ∃ z : Nat, zavN ρ pf v m = z := ⟨(zavN ρ pf v m).toNat, by omega⟩
      rw [hz, Int.toNat_natCast]
      have hf := zFc_du (n := z) (by omega)
      have hg := zFg_le (n := z) (by omega)
      generalize zFg z = f at hf hg
      generalize zavG ρ pf v m = g at i1 i2
      have hgf : g * f ≤ g * 2 ^ 52 := Nat.mul_le_mul_left _ hg
      generalize hx : g * f = X at hgf
      have hle : (X + (2 ^ 52 - 1)) / 2 ^ 52 ≤ 2 ^ 52 := by omega
      refine ⟨zDu_mul i1 hf ?_ (by omega), hle⟩
      rw [hx]
      exact zceil X
  have := this k.toNat (by omega)
  rwa [Int.toNat_of_nonneg k0] at this
/-- sums of numbers below m -/
def zSu (f : Nat → Nat) : Nat → Nat
  | 0 => 0
  | m + 1 => zSu f m + f m
theorem zSu_add (f : Nat → Nat) (m n : Nat) : zSu f (m + n) = zSu f m + zSu (fun v => f (m + v)) n := by
  induction n with
  | zero => rfl
  | succ n ih =>
    show zSu f (m + n) + f (m + n) = zSu f m + (zSu (fun v => f (m + v)) n + f (m + n))
    rw [ih, Nat.add_assoc]
theorem zSu_le {f g h : Nat → Nat} {m : Nat} (H : ∀ v, v < m → f v + g v ≤ h v + 3) : zSu f m + zSu g m ≤ zSu h m + 3 * m := by
  induction m with
  | zero => exact Nat.le_refl _
  | succ m ih =>
    have := ih (fun v hv => H v (by omega))
    have := H m (by omega)
    show (zSu f m + f m) + (zSu g m + g m) ≤ (zSu h m + h m) + 3 * (m + 1)
    omega
theorem zSu_mono {f : Nat → Nat} {m n : Nat} (h : m ≤ n) : zSu f m ≤ zSu f n := by
  rw [show n = m + (n - m) by omega, zSu_add]
  omega
theorem zin_p2_lt {k : Nat} {v : Nat} {x : Int} (x0 : 0 ≤ x) (x1 : x < k) : zin (2 ^ k + v) x = zin v x := by
  unfold zin
  exact Nat.testBit_two_pow_add_gt (by omega) v
theorem zin_p2_eq {k : Nat} {v : Nat} (hv : v < 2 ^ k) : zin (2 ^ k + v) (k : Int) = true := by
  unfold zin
  rw [Int.toNat_natCast, Nat.testBit_two_pow_add_eq, Nat.testBit_lt_two_pow hv]
  rfl
theorem zin_lt_p2 {k : Nat} {v : Nat} (hv : v < 2 ^ k) : zin v (k : Int) = false := by
  unfold zin
  rw [Int.toNat_natCast]
  exact Nat.testBit_lt_two_pow hv
theorem zavT {ρ : zR} (hW : zWF ρ) (pf : Int) (k : Nat) (hk : (k : Int) ≤ ρ.n) : zSu (fun v => zavG ρ pf v k) (2 ^ k) ≤ 2 ^ 52 + 3 * 2 ^ k := by
  induction k with
  | zero =>
    show 0 + 2 ^ 52 ≤ _
    omega
  | succ k ih =>
    have i1 := ih (by omega)
    rw [Nat.pow_succ, Nat.mul_two, zSu_add]
    have h1 := zSu_le (f := fun v => zavG ρ pf v ((k + 1 : Nat) : Int)) (g := fun v => zavG ρ pf (2 ^ k + v) ((k + 1 : Nat) : Int)) (h := fun v => zavG ρ pf v k) (m := 2 ^ k) (fun v hv => by
      show zavG ρ pf v ((k : Int) + 1) + zavG ρ pf (2 ^ k + v) ((k : Int) + 1) ≤ zavG ρ pf v k + 3
      rw [zavG_s (by omega), zavG_s (by omega), zavG_congr (u := 2 ^ k + v) (v := v) (by omega) (fun x x0 x1 => zin_p2_lt x0 x1)]
      obtain ⟨-, hg⟩ := zav_du hW pf v (k := k) (by omega) (by omega)
      have hr := zavI_rng hW (pf := pf) (x := k) (by omega) (by omega)
      have n1 : zavN ρ pf v k = zavI ρ pf k := by unfold zavN; rw [zin_lt_p2 hv]; rfl
      have n2 : zavN ρ pf (2 ^ k + v) k = 1000 - zavI ρ pf k := by unfold zavN; rw [zin_p2_eq hv]; rfl
      rw [n1, n2]
      obtain ⟨z, hz⟩ : ∃ z : Nat, zavI ρ pf k = z := ⟨(zavI ρ pf k).toNat, by omega⟩
      rw [hz, Int.toNat_natCast, show ((1000 : Int) - z).toNat = 1000 - z by omega]
      have h2 := zFg_two (n := z) (by omega)
      generalize zFg z = a at h2
      generalize zFg (1000 - z) = b at h2
      generalize zavG ρ pf v k = g at hg
      have h3 : g * a + g * b ≤ g * (2 ^ 52 + 1) := by rw [← Nat.mul_add]; exact Nat.mul_le_mul_left _ h2
      generalize g * a = X at h3
      generalize g * b = Y at h3
      omega)
    omega
/-- the sum of the chances of the sets below k that leave x alive -/
def zavS (ρ : zR) (pf x : Int) (k : Int) : UInt64 := zfo (fun v a => if zin (zFail ρ v.toNat) x = true then a else FP.dadd a (zavP ρ pf v.toNat ρ.n)) z0d k
theorem zavS_s {ρ : zR} {pf x k : Int} (h : 0 ≤ k) : zavS ρ pf x (k + 1) = if zin (zFail ρ k.toNat) x = true then zavS ρ pf x k else FP.dadd (zavS ρ pf x k) (zavP ρ pf k.toNat ρ.n) := zfo_s h
theorem zavS_du {ρ : zR} (hW : zWF ρ) (pf x : Int) {k : Int} (k0 : 0 ≤ k) (k1 : k ≤ zTwo ρ.n) : zDu (zavS ρ pf x k) (zSu (fun v => zavG ρ pf v ρ.n) k.toNat) ∧ zSu (fun v => zavG ρ pf v ρ.n) k.toNat ≤ 2 ^ 52 + 12288 := by
  obtain ⟨n0, n1, c0, c1⟩ := hW.1
  have hT := zavT hW pf ρ.n.toNat (by omega)
  rw [Int.toNat_of_nonneg n0] at hT
  have hw := zTwo_rng n1
  unfold zTwo at hw k1
  have hle : ∀ m : Nat, m ≤ 2 ^ ρ.n.toNat → zSu (fun v => zavG ρ pf v ρ.n) m ≤ 2 ^ 52 + 12288 := fun m hm => by
    have := zSu_mono (f := fun v => zavG ρ pf v ρ.n) hm
    omega
  have : ∀ m : Nat, m ≤ 2 ^ ρ.n.toNat → zDu (zavS ρ pf x m) (zSu (fun v => zavG ρ pf v ρ.n) m) := by
    intro m
    induction m with
    | zero => intro _; exact z0d_du
    | succ m ih =>
      intro hm
      have i1 := ih (by omega)
      rw [show ((m + 1 : Nat) : Int) = (m : Int) + 1 from rfl, zavS_s (by omega), Int.toNat_natCast]
      show zDu _ (zSu (fun v => zavG ρ pf v ρ.n) m + zavG ρ pf m ρ.n)
      have hb := hle (m + 1) hm
      have hb : zSu (fun v => zavG ρ pf v ρ.n) m + zavG ρ pf m ρ.n ≤ 2 ^ 52 + 12288 := hb
      split
      · exact i1.mono (by omega)
      · exact zDu_add i1 (zav_du hW pf m n0 (Int.le_refl _)).1 (by omega)
  have h1 := this k.toNat (by omega)
  rw [Int.toNat_of_nonneg k0] at h1
  exact ⟨h1, hle _ (by omega)⟩
theorem zavP_nn {ρ : zR} (hW : zWF ρ) {pf : Int} {v : Nat} {k : Int} (k0 : 0 ≤ k) (k1 : k < ρ.n) : vf_n64 (FP.dmul (zavP ρ pf v k) (zFc (zavN ρ pf v k))) := by
  rw [← zavP_s k0]
  exact (zav_du hW pf v (by omega) (by omega)).1.nn
theorem zavS_nn {ρ : zR} (hW : zWF ρ) {pf x : Int} {v : Nat} (hv : v < 2 ^ ρ.n.toNat) (hx : zin (zFail ρ v) x = false) : vf_n64 (FP.dadd (zavS ρ pf x v) (zavP ρ pf v ρ.n)) := by
  have h := (zavS_du hW pf x (k := (v : Int) + 1) (by omega) (by unfold zTwo; omega)).1.nn
  rw [zavS_s (by omega), Int.toNat_natCast, hx, if_neg (by decide)] at h
  exact h
