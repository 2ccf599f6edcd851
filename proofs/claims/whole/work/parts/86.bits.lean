/-! FLOATS, 3: bitsOf -/
/-- how a float below 2 is laid out: its two fields -/
theorem zF32 {u : UInt32} {c : Nat} {q : Int} (h : FP.Core.val32 u = .fin false c q) (hb : c * 2 ^ (q + 149).toNat ≤ (2 ^ 23 + 1) * 2 ^ 126) : ∃ E T : Nat, u.toNat = E * 2 ^ 23 + T ∧ T < 2 ^ 23 ∧ E ≤ 127 ∧ ((E = 0 ∧ FP.Core.val32 u = .fin false T (-149)) ∨ (1 ≤ E ∧ FP.Core.val32 u = .fin false (2 ^ 23 + T) ((E : Int) - 150))) := by
  have hu : u.toNat < 2 ^ 32 := u.toNat_lt
  have ht : FP.Core.b32.tails = 2 ^ 23 := by decide
  have he : FP.Core.b32.exps = 256 := by decide
  have hd : FP.Core.val32 u = FP.Core.decode FP.Core.b32 u.toNat := rfl
  obtain ⟨n, hn⟩ : ∃ n, n = u.toNat := ⟨_, rfl⟩
  rw [← hn] at hu hd ⊢
  unfold FP.Core.decode FP.Core.fieldE FP.Core.fieldT FP.Core.fieldS at hd
  rw [ht, he, z32min] at hd
  have hd2 := hd
  rw [h] at hd2
  by_cases c1 : n / 2 ^ 23 % 256 = 256 - 1
  · rw [if_pos c1] at hd2
    split at hd2 <;> cases hd2
  · rw [if_neg c1] at hd hd2
    by_cases c2 : n / 2 ^ 23 % 256 = 0
    · rw [if_pos c2] at hd hd2
      injection hd2 with s1 s2 s3
      rw [← s1] at hd
      have s1 : ¬ n / 2 ^ 23 / 256 % 2 = 1 := by simpa using s1.symm
      exact ⟨0, n % 2 ^ 23, by omega, by omega, by omega, Or.inl ⟨rfl, hd⟩⟩
    · rw [if_neg c2] at hd hd2
      injection hd2 with s1 s2 s3
      rw [← s1] at hd
      have s1 : ¬ n / 2 ^ 23 / 256 % 2 = 1 := by simpa using s1.symm
      have hE : n / 2 ^ 23 % 256 ≤ 127 := by
        refine Classical.byContradiction (fun k => ?_)
        have k1 : 127 ≤ (q + 149).toNat := by omega
        have k2 : 2 ^ 23 ≤ c := by omega
        have k3 : 2 ^ 127 ≤ 2 ^ (q + 149).toNat := Nat.pow_le_pow_right (by omega) k1
        have k4 : 2 ^ 23 * 2 ^ 127 ≤ c * 2 ^ (q + 149).toNat := Nat.mul_le_mul k2 k3
        have k5 := Nat.le_trans k4 hb
        exact absurd k5 (by decide)
      refine ⟨n / 2 ^ 23 % 256, n % 2 ^ 23, by omega, by omega, hE, Or.inr ⟨by omega, ?_⟩⟩
      rw [hd]
      congr 1
      omega
def z2d : UInt64 := UInt64.ofNat 4611686018427387904
def z8d : UInt64 := UInt64.ofNat 4710765210229538816
theorem z2d_eq : UInt64.ofNat 4611686018427387904 = z2d := rfl
theorem z8d_eq : UInt64.ofNat 4710765210229538816 = z8d := rfl
theorem z1d_v : FP.Core.val64 z1d = .fin false (2 ^ 52) (-52) := by decide +kernel
theorem z2d_v : FP.Core.val64 z2d = .fin false (2 ^ 52) (-51) := by decide +kernel
theorem z8d_v : FP.Core.val64 z8d = .fin false (2 ^ 52) (-29) := by decide +kernel
theorem z1d_dv : zDvl z1d 1 0 := ⟨_, _, z1d_v, by
  rw [show ((-52 : Int) + 1074).toNat = 1022 from rfl, show ((0 : Int) + 1074).toNat = 1074 from rfl, ← Nat.pow_add, Nat.one_mul]⟩
theorem z0d_dv : zDvl z0d 0 0 := ⟨0, -1074, by decide +kernel, by rw [Nat.zero_mul, Nat.zero_mul]⟩
/-- doubled k times -/
def zDb (a : UInt64) (k : Int) : UInt64 := zfo (fun _ x => FP.dmul x z2d) a k
theorem zDb_s {a : UInt64} {k : Int} (h : 0 ≤ k) : zDb a (k + 1) = FP.dmul (zDb a k) z2d := zfo_s h
theorem zDb_dv {a : UInt64} {c : Nat} {q : Int} (h : zDvl a c q) (hc : c < 2 ^ 53) (q0 : -1074 ≤ q) (k : Nat) (hk : q + k < 900) : zDvl (zDb a k) c (q + k) := by
  induction k with
  | zero => 
    rw [show q + ((0 : Nat) : Int) = q by omega]
    exact h
  | succ k ih =>
    have := zDvl_mul (ih (by omega)) z2d_v (by omega) (by omega) hc (by omega)
    rw [show ((k + 1 : Nat) : Int) = (k : Int) + 1 from rfl, zDb_s (by omega), show q + ((k : Int) + 1) = q + k + 52 + -51 by omega]
    exact this
/-- c * 2^q against 1 -/
theorem zDvl_one {a : UInt64} {c : Nat} {q : Int} (h : zDvl a c q) : zcg (FP.dcmp a z1d) = if c * 2 ^ (q + 1074).toNat < 2 ^ 1074 then -1 else if c * 2 ^ (q + 1074).toNat = 2 ^ 1074 then 0 else 1 := by
  rw [zDvl_cmp h z1d_dv, zcg_cmp, show ((0 : Int) + 1074).toNat = 1074 from rfl, Nat.one_mul]
  generalize c * 2 ^ (q + 1074).toNat = x
  generalize (2 : Nat) ^ 1074 = y
  by_cases h1 : x < y
  · rw [if_pos h1, if_pos (by omega)]
  · rw [if_neg h1, if_neg (by omega)]
    by_cases h2 : x = y
    · rw [if_pos h2, if_pos (by omega)]
    · rw [if_neg h2, if_neg (by omega)]
theorem zDvl_lt1 {a : UInt64} {c : Nat} {q : Int} (h : zDvl a c q) (hc : c < 2 ^ 24) (hq : q ≤ -24) : zcg (FP.dcmp a z1d) = -1 := by
  rw [zDvl_one h, if_pos]
  have h1 : c * 2 ^ (q + 1074).toNat < 2 ^ 24 * 2 ^ (q + 1074).toNat := Nat.mul_lt_mul_of_pos_right hc (Nat.two_pow_pos _)
  have h2 : 2 ^ (q + 1074).toNat ≤ 2 ^ 1050 := Nat.pow_le_pow_right (by omega) (by omega)
  have h3 : 2 ^ 24 * 2 ^ (q + 1074).toNat ≤ 2 ^ 24 * 2 ^ 1050 := Nat.mul_le_mul_left _ h2
  have h4 : (2 : Nat) ^ 1074 = 2 ^ 24 * 2 ^ 1050 := by rw [← Nat.pow_add]
  rw [h4]
  exact Nat.lt_of_lt_of_le h1 h3
theorem zDvl_lt1' {a : UInt64} {c : Nat} {q : Int} (h : zDvl a c q) (hc : c < 2 ^ 23) (hq : q ≤ -23) : zcg (FP.dcmp a z1d) = -1 := by
  rw [zDvl_one h, if_pos]
  have h1 : c * 2 ^ (q + 1074).toNat < 2 ^ 23 * 2 ^ (q + 1074).toNat := Nat.mul_lt_mul_of_pos_right hc (Nat.two_pow_pos _)
  have h2 : 2 ^ (q + 1074).toNat ≤ 2 ^ 1051 := Nat.pow_le_pow_right (by omega) (by omega)
  have h3 : 2 ^ 23 * 2 ^ (q + 1074).toNat ≤ 2 ^ 23 * 2 ^ 1051 := Nat.mul_le_mul_left _ h2
  have h4 : (2 : Nat) ^ 1074 = 2 ^ 23 * 2 ^ 1051 := by rw [← Nat.pow_add]
  rw [h4]
  exact Nat.lt_of_lt_of_le h1 h3
theorem zDvl_ge1 {a : UInt64} {T : Nat} (h : zDvl a (2 ^ 23 + T) (-23)) : 0 ≤ zcg (FP.dcmp a z1d) := by
  rw [zDvl_one h, if_neg]
  · split <;> omega
  · rw [show ((-23 : Int) + 1074).toNat = 1051 from rfl]
    have h1 : 2 ^ 23 * 2 ^ 1051 ≤ (2 ^ 23 + T) * 2 ^ 1051 := Nat.mul_le_mul_right _ (Nat.le_add_right _ _)
    rw [← Nat.pow_add] at h1
    exact Nat.not_lt.mpr h1
theorem zcg_rng (r : Option Ordering) : -1 ≤ zcg r ∧ zcg r ≤ 1 := by
  unfold zcg
  split
  · omega
  · split <;> omega
section
variable {d m : Nat} {Q : zO → zH → Prop} {r : List Instr} {L st : List Value} {h : zH}
theorem r_dstore_1f {w : UInt32} {v1 v2 : Value} {u : UInt64} : zwp (zcall d) m Q (.dstore 1 :: r) (.float w :: v1 :: v2 :: L) (.double u :: st) h = zwp (zcall d) m Q r (.float w :: .double u :: zJ :: L) st h := by rw [zw]; simp [zF, zstep, zSetL, zSetL2, zPrev, Value.category, zi, zl, zJ]
set_option maxRecDepth 20000 in
theorem c_bitsOf (hd : 1 ≤ d) {u : UInt32} {c : Nat} {q : Int} (hu : FP.Core.val32 u = .fin false c q) (hb : c * 2 ^ (q + 149).toNat ≤ (2 ^ 23 + 1) * 2 ^ 126) : zcall d 159 [.float u] h Q = Q (.inl (some (zi (u.toNat : Int)))) h := by
  obtain ⟨E, T, e1, e2, e3, e4⟩ := zF32 hu hb
  have hnn : FP.f2d u = FP.Core.f2d u := by
    unfold FP.f2d
    rw [if_neg]
    rw [FP.Core.fIsNaN_iff, hu]
    intro k; cases k
  have hf : ∀ c' q', FP.Core.val32 u = .fin false c' q' → c' < 2 ^ 24 → -149 ≤ q' → q' < 0 → zDvl (FP.f2d u) c' q' := by
    intro c' q' h1 h2 h3 h4
    refine zDvl_of (A := c') (e := q') (N := 1074) ?_ (by omega) (by omega) (by omega) (by omega) (by omega) rfl
    rw [hnn, FP.Core.val64_f2d, h1]
    rfl
  obtain ⟨d, rfl⟩ : ∃ e, d = e + 1 := ⟨d - 1, by omega⟩
  simp (disch := first | assumption | omega) only [zc_159]
  have main : ∀ (c : Nat) (q : Int) (k : Nat), zDvl (FP.f2d u) c q → 0 < c → c < 2 ^ 24 → -149 ≤ q → q ≤ -23 → k ≤ 126 → q + k ≤ -23 → (∀ i : Nat, i < k → zcg (FP.dcmp (zDb (FP.f2d u) i) z1d) = -1) → zwp (zcall d) 159 Q (zB 159 0) [.float u, zJ, zJ, zJ] [] h = zwp (zcall d) 159 Q (zB 159 2) [.float u, .double (zDb (FP.f2d u) k), zJ, zi (127 - k)] [] h := by
    intro c q k hv c0 c1 q0 q1 k1 hk hlt
    have n0 := hv.nn
    have cmp0 : 0 < zcg (FP.dcmp (FP.f2d u) z0d) := by
      rw [zDvl_cmp hv z0d_dv, zcg_cmp, Nat.zero_mul]
      have : 0 < c * 2 ^ (q + 1074).toNat := Nat.mul_pos c0 (Nat.two_pow_pos _)
      generalize c * 2 ^ (q + 1074).toNat = x at this
      rw [if_neg (by omega), if_neg (by omega)]
      omega
    have cr := zcg_rng (FP.dcmp (FP.f2d u) z0d)
    have chain := z_chainI (F := fun i => zwp (zcall d) 159 Q (zB 159 2) [.float u, .double (zDb (FP.f2d u) i), zJ, zi (127 - i)] [] h) (n := (k : Int)) (by omega) (fun i i0 i1 => by
      obtain ⟨j, rfl⟩ : ∃ j : Nat, i = j := ⟨i.toNat, by omega⟩
      have hc := hlt j (by omega)
      have hn := (zDb_dv hv (by omega) (by omega) (j + 1) (by omega)).nn
      rw [show ((j + 1 : Nat) : Int) = (j : Int) + 1 from rfl, zDb_s (by omega)] at hn
      rw [zDb_s (by omega)]
      have e9 : (127 : Int) - (j + 1) = 127 - j + -1 := by omega
      rw [e9]
      generalize zDb (FP.f2d u) j = a at hc hn
      conv => lhs; rw [zb_159_2]
      simp (disch := first | assumption | exact zk_159 | ((repeat (first | exact z1n | refine z1I ?_ | refine z1R ?_)); done) | exact rfl | omega | decide) only [r_fload_0, r_f2d, r_dstore_1i, r_dstore_1r, r_dstore_1j, r_dload_1, r_dconst, r_dcmp, r_if_gt, r_iconst, r_iret, r_bret_0, r_bret_1, r_istore_3i, r_istore_3r, r_istore_3j, r_goto_w, r_if_ge, r_iload_3, r_icmp_le, r_dmul, r_iinc_3i, r_iinc_3r, r_iinc_3j, r_goto, r_d2i, r_ishl, r_dsub, r_iadd, r_dstore_1f, z1d_eq, z2d_eq, zcg_eq, hc, ↓reduceIte, not_true_eq_false, not_false_eq_true, Int.reduceEq, Int.reduceLE, Int.reduceLT, Int.reduceAdd, Int.reduceNeg, Int.reduceMul, Int.reduceSub, Int.reduceToNat]
      rw [if_neg (by omega)])
    rw [← chain]
    rw [show zDb (FP.f2d u) 0 = FP.f2d u from rfl, show (127 : Int) - 0 = 127 from rfl]
    simp (disch := first | assumption | exact zk_159 | ((repeat (first | exact z1n | refine z1I ?_ | refine z1R ?_)); done) | exact rfl | omega | decide) only [zb_159_0, zb_159_1, r_fload_0, r_f2d, r_dstore_1i, r_dstore_1r, r_dstore_1j, r_dload_1, r_dconst, r_dcmp, r_if_gt, r_iconst, r_iret, r_bret_0, r_bret_1, r_istore_3i, r_istore_3r, r_istore_3j, r_goto_w, r_if_ge, r_iload_3, r_icmp_le, r_dmul, r_iinc_3i, r_iinc_3r, r_iinc_3j, r_goto, r_d2i, r_ishl, r_dsub, r_iadd, r_dstore_1f, z0d_eq, zcg_eq, ↓reduceIte, not_true_eq_false, not_false_eq_true, Int.reduceEq, Int.reduceLE, Int.reduceLT, Int.reduceAdd, Int.reduceNeg, Int.reduceMul, Int.reduceSub, Int.reduceToNat]
    rw [if_pos (by omega)]
  rcases e4 with ⟨E0, e4⟩ | ⟨E1, e4⟩
  · by_cases t0 : T = 0
    · have hv := hf T (-149) e4 (by omega) (by omega) (by omega)
      have n0 := hv.nn
      have cmp0 : zcg (FP.dcmp (FP.f2d u) z0d) = 0 := by
        rw [zDvl_cmp hv z0d_dv, zcg_cmp, t0, Nat.zero_mul, Nat.zero_mul]
        rfl
      have hu0 : (u.toNat : Int) = 0 := by omega
      rw [hu0]
      simp (disch := first | assumption | exact zk_159 | ((repeat (first | exact z1n | refine z1I ?_ | refine z1R ?_)); done) | exact rfl | omega | decide) only [zb_159_0, r_fload_0, r_f2d, r_dstore_1i, r_dstore_1r, r_dstore_1j, r_dload_1, r_dconst, r_dcmp, r_if_gt, r_iconst, r_iret, r_bret_0, r_bret_1, r_istore_3i, r_istore_3r, r_istore_3j, r_goto_w, r_if_ge, r_iload_3, r_icmp_le, r_dmul, r_iinc_3i, r_iinc_3r, r_iinc_3j, r_goto, r_d2i, r_ishl, r_dsub, r_iadd, r_dstore_1f, z0d_eq, zcg_eq, cmp0, ↓reduceIte, not_true_eq_false, not_false_eq_true, Int.reduceEq, Int.reduceLE, Int.reduceLT, Int.reduceAdd, Int.reduceNeg, Int.reduceMul, Int.reduceSub, Int.reduceToNat]
    · have hv := hf T (-149) e4 (by omega) (by omega) (by omega)
      have hi : ∀ i : Nat, i ≤ 126 → zcg (FP.dcmp (zDb (FP.f2d u) i) z1d) = -1 := fun i hi => zDvl_lt1' (zDb_dv hv (by omega) (by omega) i (by omega)) e2 (by omega)
      have := main T (-149) 126 hv (by omega) (by omega) (by omega) (by omega) (by omega) (by omega) (fun i h2 => hi i (by omega))
      refine this.trans ?_
      have hc := hi 126 (by omega)
      have hv2 := zDb_dv hv (by omega) (by omega) 126 (by omega)
      have hv3 := zDvl_mul hv2 z8d_v (by omega) (by omega) (by omega) (by omega)
      rw [show (-149 : Int) + ((126 : Nat) : Int) + 52 + -29 = 0 from rfl] at hv3
      have n3 := hv3.nn
      have hT := zDvl_int hv3 (by omega)
      have hT2 : Value.int (FP.d2i (FP.dmul (zDb (FP.f2d u) ((126 : Nat) : Int)) z8d)) = zi (u.toNat : Int) := by
        rw [hT, show u.toNat = T by omega]
        rfl
      rw [show (127 : Int) - ((126 : Nat) : Int) = 1 from rfl]
      generalize zDb (FP.f2d u) ((126 : Nat) : Int) = a at hc n3 hT2
      have hur : (u.toNat : Int) < 2147483648 := by omega
      generalize (u.toNat : Int) = U at hT2 hur
      simp (disch := first | assumption | exact zk_159 | ((repeat (first | exact z1n | refine z1I ?_ | refine z1R ?_)); done) | exact rfl | omega | decide) only [zb_159_2, zb_159_3, r_fload_0, r_f2d, r_dstore_1i, r_dstore_1r, r_dstore_1j, r_dload_1, r_dconst, r_dcmp, r_if_gt, r_iconst, r_iret, r_bret_0, r_bret_1, r_istore_3i, r_istore_3r, r_istore_3j, r_goto_w, r_if_ge, r_iload_3, r_icmp_le, r_dmul, r_iinc_3i, r_iinc_3r, r_iinc_3j, r_goto, r_d2i, r_ishl, r_dsub, r_iadd, z1d_eq, z8d_eq, zcg_eq, hc, hT2, ↓reduceIte, not_true_eq_false, not_false_eq_true, Int.reduceEq, Int.reduceLE, Int.reduceLT, Int.reduceAdd, Int.reduceNeg, Int.reduceMul, Int.reduceSub, Int.reduceToNat]
  · have hv := hf (2 ^ 23 + T) ((E : Int) - 150) e4 (by omega) (by omega) (by omega)
    have hi : ∀ i : Nat, i < 127 - E → zcg (FP.dcmp (zDb (FP.f2d u) i) z1d) = -1 := fun i hi => zDvl_lt1 (zDb_dv hv (by omega) (by omega) i (by omega)) (by omega) (by omega)
    have := main (2 ^ 23 + T) ((E : Int) - 150) (127 - E) hv (by omega) (by omega) (by omega) (by omega) (by omega) (by omega) hi
    refine this.trans ?_
    have hv2 := zDb_dv hv (by omega) (by omega) (127 - E) (by omega)
    rw [show (E : Int) - 150 + ((127 - E : Nat) : Int) = -23 by omega] at hv2
    have hc := zDvl_ge1 hv2
    have hcr := zcg_rng (FP.dcmp (zDb (FP.f2d u) ((127 - E : Nat) : Int)) z1d)
    have hv3 := zDvl_sub hv2 e2 z1d_v
    have n3 := hv3.nn
    have hv4 := zDvl_mul hv3 z8d_v (by omega) (by omega) (by omega) (by omega)
    rw [show (-23 : Int) + 52 + -29 = 0 from rfl] at hv4
    have n4 := hv4.nn
    have hT := zDvl_int hv4 (by omega)
    have hT2 : Value.int (FP.d2i (FP.dmul (FP.dsub (zDb (FP.f2d u) ((127 - E : Nat) : Int)) z1d) z8d)) = zi (T : Int) := by
      rw [hT]
      rfl
    rw [show (127 : Int) - ((127 - E : Nat) : Int) = E by omega]
    have hsh : ∀ E : Nat, E < 128 → zshl (E : Int) 23 = ((E * 8388608 : Nat) : Int) := by decide +kernel
    have hsh := hsh E (by omega)
    obtain ⟨X, hX⟩ : ∃ X : Nat, X = E * 8388608 := ⟨_, rfl⟩
    rw [← hX] at hsh
    have hun : (u.toNat : Int) = (X : Int) + (T : Int) := by omega
    rw [hun]
    have hE3 : X ≤ 1065353216 := by omega
    generalize zDb (FP.f2d u) ((127 - E : Nat) : Int) = a at hc n3 n4 hT2 hcr
    simp (disch := first | assumption | exact zk_159 | ((repeat (first | exact z1n | refine z1I ?_ | refine z1R ?_)); done) | exact rfl | omega | decide) only [zb_159_2, zb_159_3, zb_159_4, r_fload_0, r_f2d, r_dstore_1i, r_dstore_1r, r_dstore_1j, r_dload_1, r_dconst, r_dcmp, r_if_gt, r_iconst, r_iret, r_bret_0, r_bret_1, r_istore_3i, r_istore_3r, r_istore_3j, r_goto_w, r_if_ge, r_iload_3, r_icmp_le, r_dmul, r_iinc_3i, r_iinc_3r, r_iinc_3j, r_goto, r_d2i, r_ishl, r_dsub, r_iadd, z1d_eq, z8d_eq, zcg_eq, hT2, hsh, ↓reduceIte, not_true_eq_false, not_false_eq_true, Int.reduceEq, Int.reduceLE, Int.reduceLT, Int.reduceAdd, Int.reduceNeg, Int.reduceMul, Int.reduceSub, Int.reduceToNat]
    rw [if_pos (by omega)]
    first
      | rfl
      | (rw [if_pos (by omega)]; done)
      | (rw [if_pos (by omega)]; rfl)
end
