/-! AVAILABILITY, 4: as a float's bits; the model's calls about sets -/
theorem zD2f {a : UInt64} {k : Nat} (h : zDu a k) (hk : k ≤ 2 ^ 52 + 2 ^ 29) : ∃ c q, FP.Core.val32 (FP.d2f a) = .fin false c q ∧ c * 2 ^ (q + 149).toNat ≤ (2 ^ 23 + 1) * 2 ^ 126 := by
  obtain ⟨c, q, e1, e2⟩ := h
  have q0 := zDu_q e1
  have hnn : FP.d2f a = FP.Core.d2f a := by
    unfold FP.d2f
    rw [if_neg]
    rw [FP.Core.dIsNaN_iff, e1]
    intro k; cases k
  have hv : FP.Core.val32 (FP.d2f a) = FP.Core.roundRatio FP.Core.b32 false c 1 q := by
    rw [hnn, FP.Core.val32_d2f, e1]
    rfl
  obtain ⟨c', q', h1, h2, h3⟩ := zRd FP.Core.good_b32 false (A := c) (B := 1) (e := q) (N := 1074) (k := 2 ^ 23 + 1) (by omega) (by omega) (by decide) (by decide) (by rw [z32min]; decide) (by rw [z32max]; decide) (by
    refine Nat.le_trans e2 ?_
    have e5 : (2 : Nat) ^ (1074 + 1 - FP.Core.b32.p) = 2 ^ 29 * 2 ^ 1022 := by
      rw [← Nat.pow_add]
      rfl
    rw [e5, ← Nat.mul_assoc]
    exact Nat.mul_le_mul_right _ hk)
  rw [z32min] at h2 h3
  refine ⟨c', q', hv.trans h1, ?_⟩
  rw [show q' - -149 = q' + 149 by omega] at h3
  exact h3
theorem zF32nn {u : UInt32} {c : Nat} {q : Int} (h : FP.Core.val32 u = .fin false c q) : vf_n32 u := by
  have h1 : ¬ FP.Core.fIsNaN u = true := by
    rw [FP.Core.fIsNaN_iff, h]
    intro h; cases h
  rw [FP.Core.isNaN_bits32] at h1
  unfold vf_n32
  rw [UInt32.le_iff_toNat_le, UInt32.toNat_and]
  have h2 : (0x7fffffff : UInt32).toNat = 2 ^ 31 - 1 := by decide
  have h3 : (0x7f800000 : UInt32).toNat = 2139095040 := by decide
  rw [h2, h3, Nat.and_two_pow_sub_one_eq_mod]
  omega
/-- the answer of availability -/
def zavA (ρ : zR) (x : Int) : Int := ((FP.d2f (zavS ρ (-1) x (zTwo ρ.n))).toNat : Int)
theorem zavA_is {ρ : zR} (hW : zWF ρ) (x : Int) : ∃ c q, FP.Core.val32 (FP.d2f (zavS ρ (-1) x (zTwo ρ.n))) = .fin false c q ∧ c * 2 ^ (q + 149).toNat ≤ (2 ^ 23 + 1) * 2 ^ 126 := by
  have hw := zTwo_rng hW.1.2.1
  obtain ⟨h1, h2⟩ := zavS_du hW (-1) x (k := zTwo ρ.n) (by omega) (Int.le_refl _)
  exact zD2f (h1.mono h2) (by omega)
theorem zU32 {u : UInt32} {c : Nat} {q : Int} (hu : FP.Core.val32 u = .fin false c q) (hb : c * 2 ^ (q + 149).toNat ≤ (2 ^ 23 + 1) * 2 ^ 126) : u.toNat < 2 ^ 30 ∧ Value.int u.toInt32 = zi (u.toNat : Int) := by
  obtain ⟨E, T, e1, e2, e3, -⟩ := zF32 hu hb
  have h1 : u.toNat < 2 ^ 30 := by omega
  refine ⟨h1, ?_⟩
  unfold zi
  congr 1
  apply Int32.toBitVec_inj.mp
  apply BitVec.eq_of_toNat_eq
  rw [zbv, BitVec.toNat_ofNat, Nat.mod_eq_of_lt (by omega)]
  rfl
theorem zavA_rng {ρ : zR} (hW : zWF ρ) (x : Int) : 0 ≤ zavA ρ x ∧ zavA ρ x < 2 ^ 30 := by
  obtain ⟨c, q, h1, h2⟩ := zavA_is hW x
  have := (zU32 h1 h2).1
  unfold zavA
  omega
section
variable {d : Nat} {s : zS} {V : zV} {Q : zO → zH → Prop} {a : Nat} {ρ : zR} {h : zH}
theorem z1F {u : UInt32} : zC1 [Value.float u] = true := by
  unfold zC1
  simp [Value.category]
set_option maxRecDepth 20000 in
theorem c_isNaN (hd : 1 ≤ d) {u : UInt32} {c : Nat} {q : Int} (hu : FP.Core.val32 u = .fin false c q) : zcall d 304 [.float u] h Q = Q (.inl (some (zi 0))) h := by
  have h1 : FP.fcmp u u = some .eq := FP.Core.fcmp_self (by rw [hu]; intro k; cases k)
  have h2 : Value.int (Op.cmpValue (FP.fcmp u u) .l) = zi 0 := by rw [h1]; rfl
  obtain ⟨d, rfl⟩ : ∃ e, d = e + 1 := ⟨d - 1, by omega⟩
  simp (disch := first | assumption | omega) only [zc_304]
  simp (disch := first | assumption | exact zk_304 | ((repeat (first | exact z1n | refine z1I ?_ | refine z1R ?_)); done) | exact rfl | omega | decide) only [zb_304_0, zb_304_1, zb_304_2, r_fload_0, r_fcmp, r_if_eq, r_iconst, r_goto, r_goto_w, r_iret, r_bret_0, r_bret_1, h2, ↓reduceIte, not_true_eq_false, not_false_eq_true, Int.reduceEq, Int.reduceLE, Int.reduceLT, Int.reduceAdd, Int.reduceNeg, Int.reduceMul, Int.reduceSub, Int.reduceToNat]
set_option maxRecDepth 20000 in
theorem c_f2i (hd : 2 ≤ d) {u : UInt32} {c : Nat} {q : Int} (hu : FP.Core.val32 u = .fin false c q) (hb : c * 2 ^ (q + 149).toNat ≤ (2 ^ 23 + 1) * 2 ^ 126) : zcall d 303 [.float u] h Q = Q (.inl (some (zi (u.toNat : Int)))) h := by
  obtain ⟨h1, h2⟩ := zU32 hu hb
  have z1 := z1F (u := u)
  obtain ⟨d, rfl⟩ : ∃ e, d = e + 1 := ⟨d - 1, by omega⟩
  simp (disch := first | assumption | omega) only [zc_303]
  have hn := fun K => c_isNaN (Q := K) (h := h) (d := d) (by omega) hu
  simp (disch := first | assumption | exact zk_303 | ((repeat (first | exact z1n | refine z1I ?_ | refine z1R ?_)); done) | exact rfl | omega | decide) only [zb_303_0, zb_303_1, r_fload_0, r_inv_1_0, r_inv_1_1, r_inv_1_2, r_inv_1_3, r_inv_1_4, r_K0, r_K1, r_if_ne, r_f2i, r_iret, r_bret_0, r_bret_1, r_iconst, hn, h2, ↓reduceIte, not_true_eq_false, not_false_eq_true, Int.reduceEq, Int.reduceLE, Int.reduceLT, Int.reduceAdd, Int.reduceNeg, Int.reduceMul, Int.reduceSub, Int.reduceToNat]
set_option maxRecDepth 20000 in
theorem c_whyNoSet (hd : 1 ≤ d) (hP : zStP s V a) (hC : zStC ρ V a) (hW : zWF ρ) {v : Int} (hv : zI32 v) : zcall d 69 [.ref a, zi v] (s, V) Q = if 0 ≤ v ∧ v < zTwo ρ.n then Q (.inl (some (zi 0))) (s, V) else Q (.inl (some (zi 2))) (s, V) := by
  obtain ⟨n0, n1, c0, c1⟩ := hW.1
  obtain ⟨v1, v2⟩ := hv
  have vn := hC.1
  have tO := hP.1
  have hu : zushr v ρ.n = 0 ↔ 0 ≤ v ∧ v < zTwo ρ.n := by
    obtain ⟨n, hn⟩ : ∃ n : Nat, ρ.n = n := ⟨ρ.n.toNat, by omega⟩
    rw [hn]
    unfold zTwo
    rw [Int.toNat_natCast]
    have hs : ∀ n : Nat, n < 13 → ((Int32.ofInt (n : Int)).toUInt32 &&& Int32.toUInt32 31).toNat = n := by decide +kernel
    have hs := hs n (by omega)
    have hx : (Int32.ofInt v).toUInt32.toNat = (v % 2 ^ 32).toNat := by
      show (BitVec.ofInt 32 v).toNat = _
      rw [BitVec.toNat_ofInt]
      rfl
    have h32 : ∀ z : UInt32, z.toInt32.toInt = 0 ↔ z.toNat = 0 := fun z => by
      show z.toBitVec.toInt = 0 ↔ z.toBitVec.toNat = 0
      rw [BitVec.toInt_eq_toNat_cond]
      have := z.toBitVec.isLt
      split <;> omega
    unfold zushr
    rw [h32, UInt32.toNat_shiftRight, hs, hx, Nat.mod_eq_of_lt (by omega), Nat.shiftRight_eq_div_pow, Nat.div_eq_zero_iff]
    have hp : 0 < 2 ^ n := Nat.two_pow_pos n
    have hp2 : 2 ^ n ≤ 2 ^ 12 := Nat.pow_le_pow_right (by omega) (by omega)
    generalize 2 ^ n = X at hp hp2
    omega
  obtain ⟨d, rfl⟩ : ∃ e, d = e + 1 := ⟨d - 1, by omega⟩
  simp (disch := first | assumption | omega) only [zc_69]
  by_cases q : 0 ≤ v ∧ v < zTwo ρ.n
  · have := hu.mpr q
    rw [if_pos q]
    simp (disch := first | assumption | exact zk_69 | ((repeat (first | exact z1n | refine z1I ?_ | refine z1R ?_)); done) | exact rfl | omega | decide) only [zb_69_0, zb_69_1, zb_69_2, r_iload_1, r_aload_0, r_gf_448, r_iushr, r_if_eq, r_iconst, r_goto, r_goto_w, r_iret, r_bret_0, r_bret_1, vn, this, ↓reduceIte, not_true_eq_false, not_false_eq_true, Int.reduceEq, Int.reduceLE, Int.reduceLT, Int.reduceAdd, Int.reduceNeg, Int.reduceMul, Int.reduceSub, Int.reduceToNat]
  · have : ¬ zushr v ρ.n = 0 := fun c => q (hu.mp c)
    have hr : -2147483648 ≤ zushr v ρ.n ∧ zushr v ρ.n < 2147483648 := by
      unfold zushr
      exact ⟨Int32.le_toInt _, Int32.toInt_lt _⟩
    generalize hz : zushr v ρ.n = z at this hr
    rw [if_neg q]
    simp (disch := first | assumption | exact zk_69 | ((repeat (first | exact z1n | refine z1I ?_ | refine z1R ?_)); done) | exact rfl | omega | decide) only [zb_69_0, zb_69_1, zb_69_2, r_iload_1, r_aload_0, r_gf_448, r_iushr, r_if_eq, r_iconst, r_goto, r_goto_w, r_iret, r_bret_0, r_bret_1, vn, hz, ↓reduceIte, not_true_eq_false, not_false_eq_true, Int.reduceEq, Int.reduceLE, Int.reduceLT, Int.reduceAdd, Int.reduceNeg, Int.reduceMul, Int.reduceSub, Int.reduceToNat]
    rw [if_neg this]
set_option maxRecDepth 20000 in
theorem m_failsBy (hd : 7 ≤ d) (hM : zMP s V) (hC : zMC ρ V) (hW : zWF ρ) {x v : Int} (hx : zI32 x) (hv : zI32 v) (h1 : ¬ (0 ≤ x ∧ x < ρ.n) → Q (.inl (some (zi 0))) (s, zput V 164 6 (zi 1))) (h2 : 0 ≤ x ∧ x < ρ.n → ¬ (0 ≤ v ∧ v < zTwo ρ.n) → Q (.inl (some (zi 0))) (s, zput V 164 6 (zi 2)))
    (h0 : 0 ≤ x ∧ x < ρ.n → 0 ≤ v ∧ v < zTwo ρ.n → ∀ V', zFm [169, 170] [6] V V' → V' 164 6 = zi 0 → Q (.inl (some (zi (zb1 (zin (zFail ρ v.toNat) x))))) (s, V')) : zcall d 249 [.ref 164, zi x, zi v] (s, V) Q := by
  obtain ⟨n0, n1, c0, c1⟩ := hW.1
  have hw := zTwo_rng n1
  have tM := hM.1
  have vm_s : V 164 0 = .ref 165 := (hM.2 0 (by decide)).1
  have tm_s : s.tg 165 = 20 := (hM.2 0 (by decide)).2.1
  have lm_s : s.ln 165 = 230 := (hM.2 0 (by decide)).2.2
  have gn := hC.1
  obtain ⟨v1, v2⟩ := id hv
  obtain ⟨d, rfl⟩ : ∃ e, d = e + 1 := ⟨d - 1, by omega⟩
  simp (disch := first | assumption | omega) only [zc_249]
  by_cases q : 0 ≤ x ∧ x < ρ.n
  · by_cases q2 : 0 ≤ v ∧ v < zTwo ρ.n
    · have h0' := h0 q q2
      obtain ⟨w, rfl⟩ : ∃ w : Nat, v = w := ⟨v.toNat, by omega⟩
      rw [Int.toNat_natCast] at h0'
      have hf6 : zFm [169, 170] [6] V (zput V 164 6 (zi 0)) := zFm.rf.pf (by simp)
      have hM1 := hM.fm hf6 (by decide)
      have hC1 := hC.fm hf6 (by decide)
      simp (disch := first | assumption | exact zk_249 | ((repeat (first | exact z1n | refine z1I ?_ | refine z1R ?_)); done) | exact rfl | omega | decide) only [zb_249_0, zb_249_3, r_aload_0, r_iload_1, r_inv_2_0, r_inv_2_1, r_inv_2_2, r_inv_2_3, r_inv_2_4, r_K0, r_K1, r_if_ne, r_iconst, r_if_eq, r_goto, r_goto_w, r_iret, r_bret_0, r_bret_1, r_iload_2, r_if_lt, r_gf_640, r_ial, r_ial30, r_ial32, r_ishl, r_icmp_lt, r_pf_646, r_inv_1_0, r_inv_1_1, r_inv_1_2, r_inv_1_3, r_inv_1_4, r_ishr, r_iand, r_icmp_ne, vm_s, m_isService (hC := hC), q, and_self, gn, zshl_two, ↓reduceIte, not_true_eq_false, not_false_eq_true, Int.reduceEq, Int.reduceLE, Int.reduceLT, Int.reduceAdd, Int.reduceNeg, Int.reduceMul, Int.reduceSub, Int.reduceToNat]
      rw [if_neg (by omega), if_pos (by omega)]
      simp (disch := first | assumption | exact zk_249 | ((repeat (first | exact z1n | refine z1I ?_ | refine z1R ?_)); done) | exact rfl | omega | decide) only [zb_249_7, r_aload_0, r_iload_1, r_inv_2_0, r_inv_2_1, r_inv_2_2, r_inv_2_3, r_inv_2_4, r_K0, r_K1, r_if_ne, r_iconst, r_if_eq, r_goto, r_goto_w, r_iret, r_bret_0, r_bret_1, r_iload_2, r_if_lt, r_gf_640, r_ial, r_ial30, r_ial32, r_ishl, r_icmp_lt, r_pf_646, r_inv_1_0, r_inv_1_1, r_inv_1_2, r_inv_1_3, r_inv_1_4, r_ishr, r_iand, r_icmp_ne, vm_s, ↓reduceIte, not_true_eq_false, not_false_eq_true, Int.reduceEq, Int.reduceLE, Int.reduceLT, Int.reduceAdd, Int.reduceNeg, Int.reduceMul, Int.reduceSub, Int.reduceToNat]
      refine m_laysOrder (by omega) hM1 hC1 hW (fun V2 f2 e2 e3 => ?_)
      have f2' : zFm [169, 170] [6] V V2 := hf6.tr (f2.mono (fun _ h => h) (by simp))
      have hM2 := hM.fm f2' (by decide)
      have hC2 := hC.fm f2' (by decide)
      have hl := zFail_lt hW (v := w) (by omega)
      have hh := zhas (a := zFail ρ w) (x := x) (by omega) q.1 (by omega)
      have hm := fun K => m_failing (Q := K) (d := d) (by omega) hM2 hC2 hW e3 (v := w) (by omega)
      have := h0' V2 f2' (by rw [f2.2 6 (by simp)]; exact zput_at)
      by_cases c : zin (zFail ρ w) x = true
      · rw [if_pos c] at hh
        rw [c] at this
        have this : Q (.inl (some (zi 1))) (s, V2) := this
        simp (disch := first | assumption | exact zk_249 | ((repeat (first | exact z1n | refine z1I ?_ | refine z1R ?_)); done) | exact rfl | omega | decide) only [zb_249_8, zb_249_9, r_aload_0, r_iload_1, r_inv_2_0, r_inv_2_1, r_inv_2_2, r_inv_2_3, r_inv_2_4, r_K0, r_K1, r_if_ne, r_iconst, r_if_eq, r_goto, r_goto_w, r_iret, r_bret_0, r_bret_1, r_iload_2, r_if_lt, r_gf_640, r_ial, r_ial30, r_ial32, r_ishl, r_icmp_lt, r_pf_646, r_inv_1_0, r_inv_1_1, r_inv_1_2, r_inv_1_3, r_inv_1_4, r_ishr, r_iand, r_icmp_ne, vm_s, hm, hh, ↓reduceIte, not_true_eq_false, not_false_eq_true, Int.reduceEq, Int.reduceLE, Int.reduceLT, Int.reduceAdd, Int.reduceNeg, Int.reduceMul, Int.reduceSub, Int.reduceToNat]
        exact this
      · rw [if_neg c] at hh
        rw [show zin (zFail ρ w) x = false by simpa using c] at this
        have this : Q (.inl (some (zi 0))) (s, V2) := this
        simp (disch := first | assumption | exact zk_249 | ((repeat (first | exact z1n | refine z1I ?_ | refine z1R ?_)); done) | exact rfl | omega | decide) only [zb_249_8, zb_249_9, r_aload_0, r_iload_1, r_inv_2_0, r_inv_2_1, r_inv_2_2, r_inv_2_3, r_inv_2_4, r_K0, r_K1, r_if_ne, r_iconst, r_if_eq, r_goto, r_goto_w, r_iret, r_bret_0, r_bret_1, r_iload_2, r_if_lt, r_gf_640, r_ial, r_ial30, r_ial32, r_ishl, r_icmp_lt, r_pf_646, r_inv_1_0, r_inv_1_1, r_inv_1_2, r_inv_1_3, r_inv_1_4, r_ishr, r_iand, r_icmp_ne, vm_s, hm, hh, ↓reduceIte, not_true_eq_false, not_false_eq_true, Int.reduceEq, Int.reduceLE, Int.reduceLT, Int.reduceAdd, Int.reduceNeg, Int.reduceMul, Int.reduceSub, Int.reduceToNat]
        exact this
    · have := h2 q q2
      simp (disch := first | assumption | exact zk_249 | ((repeat (first | exact z1n | refine z1I ?_ | refine z1R ?_)); done) | exact rfl | omega | decide) only [zb_249_0, zb_249_3, r_aload_0, r_iload_1, r_inv_2_0, r_inv_2_1, r_inv_2_2, r_inv_2_3, r_inv_2_4, r_K0, r_K1, r_if_ne, r_iconst, r_if_eq, r_goto, r_goto_w, r_iret, r_bret_0, r_bret_1, r_iload_2, r_if_lt, r_gf_640, r_ial, r_ial30, r_ial32, r_ishl, r_icmp_lt, r_pf_646, r_inv_1_0, r_inv_1_1, r_inv_1_2, r_inv_1_3, r_inv_1_4, r_ishr, r_iand, r_icmp_ne, vm_s, m_isService (hC := hC), q, and_self, gn, zshl_two, ↓reduceIte, not_true_eq_false, not_false_eq_true, Int.reduceEq, Int.reduceLE, Int.reduceLT, Int.reduceAdd, Int.reduceNeg, Int.reduceMul, Int.reduceSub, Int.reduceToNat]
      by_cases c : v < 0
      · rw [if_pos c]
        simp (disch := first | assumption | exact zk_249 | ((repeat (first | exact z1n | refine z1I ?_ | refine z1R ?_)); done) | exact rfl | omega | decide) only [zb_249_4, zb_249_5, zb_249_6, r_aload_0, r_iload_1, r_inv_2_0, r_inv_2_1, r_inv_2_2, r_inv_2_3, r_inv_2_4, r_K0, r_K1, r_if_ne, r_iconst, r_if_eq, r_goto, r_goto_w, r_iret, r_bret_0, r_bret_1, r_iload_2, r_if_lt, r_gf_640, r_ial, r_ial30, r_ial32, r_ishl, r_icmp_lt, r_pf_646, r_inv_1_0, r_inv_1_1, r_inv_1_2, r_inv_1_3, r_inv_1_4, r_ishr, r_iand, r_icmp_ne, vm_s, m_fails, ↓reduceIte, not_true_eq_false, not_false_eq_true, Int.reduceEq, Int.reduceLE, Int.reduceLT, Int.reduceAdd, Int.reduceNeg, Int.reduceMul, Int.reduceSub, Int.reduceToNat]
        exact this
      · rw [if_neg c, if_neg (by omega)]
        simp (disch := first | assumption | exact zk_249 | ((repeat (first | exact z1n | refine z1I ?_ | refine z1R ?_)); done) | exact rfl | omega | decide) only [zb_249_4, zb_249_5, zb_249_6, r_aload_0, r_iload_1, r_inv_2_0, r_inv_2_1, r_inv_2_2, r_inv_2_3, r_inv_2_4, r_K0, r_K1, r_if_ne, r_iconst, r_if_eq, r_goto, r_goto_w, r_iret, r_bret_0, r_bret_1, r_iload_2, r_if_lt, r_gf_640, r_ial, r_ial30, r_ial32, r_ishl, r_icmp_lt, r_pf_646, r_inv_1_0, r_inv_1_1, r_inv_1_2, r_inv_1_3, r_inv_1_4, r_ishr, r_iand, r_icmp_ne, vm_s, m_fails, ↓reduceIte, not_true_eq_false, not_false_eq_true, Int.reduceEq, Int.reduceLE, Int.reduceLT, Int.reduceAdd, Int.reduceNeg, Int.reduceMul, Int.reduceSub, Int.reduceToNat]
        exact this
  · have := h1 q
    simp (disch := first | assumption | exact zk_249 | ((repeat (first | exact z1n | refine z1I ?_ | refine z1R ?_)); done) | exact rfl | omega | decide) only [zb_249_0, zb_249_1, zb_249_2, r_aload_0, r_iload_1, r_inv_2_0, r_inv_2_1, r_inv_2_2, r_inv_2_3, r_inv_2_4, r_K0, r_K1, r_if_ne, r_iconst, r_if_eq, r_goto, r_goto_w, r_iret, r_bret_0, r_bret_1, r_iload_2, r_if_lt, r_gf_640, r_ial, r_ial30, r_ial32, r_ishl, r_icmp_lt, r_pf_646, r_inv_1_0, r_inv_1_1, r_inv_1_2, r_inv_1_3, r_inv_1_4, r_ishr, r_iand, r_icmp_ne, vm_s, m_isService (hC := hC), q, m_fails, ↓reduceIte, not_true_eq_false, not_false_eq_true, Int.reduceEq, Int.reduceLE, Int.reduceLT, Int.reduceAdd, Int.reduceNeg, Int.reduceMul, Int.reduceSub, Int.reduceToNat]
    exact this
set_option maxRecDepth 20000 in
theorem m_cuts (hd : 8 ≤ d) (hM : zMP s V) (hC : zMC ρ V) (hW : zWF ρ) {x z : Int} (hx : zI32 x) (hz : zI32 z) (h1 : ¬ (0 ≤ x ∧ x < ρ.n) → Q (.inl (some (zi 0))) (s, zput V 164 6 (zi 1))) (h2 : 0 ≤ x ∧ x < ρ.n → ¬ (1 ≤ z ∧ z ≤ 12) → Q (.inl (some (zi 0))) (s, zput V 164 6 (zi 2)))
    (h0 : 0 ≤ x ∧ x < ρ.n → 1 ≤ z ∧ z ≤ 12 → ∀ V', zFm [169, 170, 189] [6] V V' → V' 164 6 = zi 0 → Q (.inl (some (zi (zCuts ρ x z)))) (s, V')) : zcall d 254 [.ref 164, zi x, zi z] (s, V) Q := by
  have tM := hM.1
  have i1 : zI32 1 := ⟨by omega, by omega⟩
  have i2 : zI32 12 := ⟨by omega, by omega⟩
  obtain ⟨d, rfl⟩ : ∃ e, d = e + 1 := ⟨d - 1, by omega⟩
  simp (disch := first | assumption | omega) only [zc_254]
  by_cases q : 0 ≤ x ∧ x < ρ.n
  · by_cases q2 : 1 ≤ z ∧ z ≤ 12
    · have h0' := h0 q q2
      simp (disch := first | assumption | exact zk_254 | ((repeat (first | exact z1n | refine z1I ?_ | refine z1R ?_)); done) | exact rfl | omega | decide) only [zb_254_0, zb_254_1, r_aload_0, r_iload_1, r_inv_2_0, r_inv_2_1, r_inv_2_2, r_inv_2_3, r_inv_2_4, r_K0, r_K1, r_if_ne, r_iconst, r_iret, r_bret_0, r_bret_1, r_iload_2, r_inv_3_0, r_inv_3_1, r_inv_3_2, r_inv_3_3, r_inv_3_4, r_if_eq, r_inv_4_0, r_inv_4_1, r_inv_4_2, r_inv_4_3, r_inv_4_4, r_goto, r_goto_w, m_isService (hC := hC), q, and_self, m_in, q2, ↓reduceIte, not_true_eq_false, not_false_eq_true, Int.reduceEq, Int.reduceLE, Int.reduceLT, Int.reduceAdd, Int.reduceNeg, Int.reduceMul, Int.reduceSub, Int.reduceToNat]
      refine m_cutAt (by omega) hM hC hW q.1 q.2 hz ⟨by omega, by omega⟩ (fun V1 f1 => ?_)
      have hM1 := hM.fm f1 (by decide)
      have := h0' (zput V1 164 6 (zi 0)) ((f1.mono (fun _ h => h) (by simp)).pf (by simp)) zput_at
      rw [if_pos (by omega)]
      simp (disch := first | assumption | exact zk_254 | ((repeat (first | exact z1n | refine z1I ?_ | refine z1R ?_)); done) | exact rfl | omega | decide) only [zb_254_3, r_aload_0, r_iload_1, r_inv_2_0, r_inv_2_1, r_inv_2_2, r_inv_2_3, r_inv_2_4, r_K0, r_K1, r_if_ne, r_iconst, r_iret, r_bret_0, r_bret_1, r_iload_2, r_inv_3_0, r_inv_3_1, r_inv_3_2, r_inv_3_3, r_inv_3_4, r_if_eq, r_inv_4_0, r_inv_4_1, r_inv_4_2, r_inv_4_3, r_inv_4_4, r_goto, r_goto_w, m_tells, ↓reduceIte, not_true_eq_false, not_false_eq_true, Int.reduceEq, Int.reduceLE, Int.reduceLT, Int.reduceAdd, Int.reduceNeg, Int.reduceMul, Int.reduceSub, Int.reduceToNat]
      exact this
    · have := h2 q q2
      simp (disch := first | assumption | exact zk_254 | ((repeat (first | exact z1n | refine z1I ?_ | refine z1R ?_)); done) | exact rfl | omega | decide) only [zb_254_0, zb_254_1, zb_254_2, zb_254_3, r_aload_0, r_iload_1, r_inv_2_0, r_inv_2_1, r_inv_2_2, r_inv_2_3, r_inv_2_4, r_K0, r_K1, r_if_ne, r_iconst, r_iret, r_bret_0, r_bret_1, r_iload_2, r_inv_3_0, r_inv_3_1, r_inv_3_2, r_inv_3_3, r_inv_3_4, r_if_eq, r_inv_4_0, r_inv_4_1, r_inv_4_2, r_inv_4_3, r_inv_4_4, r_goto, r_goto_w, m_isService (hC := hC), q, and_self, m_in, q2, m_fails, ↓reduceIte, not_true_eq_false, not_false_eq_true, Int.reduceEq, Int.reduceLE, Int.reduceLT, Int.reduceAdd, Int.reduceNeg, Int.reduceMul, Int.reduceSub, Int.reduceToNat]
      exact this
  · have := h1 q
    simp (disch := first | assumption | exact zk_254 | ((repeat (first | exact z1n | refine z1I ?_ | refine z1R ?_)); done) | exact rfl | omega | decide) only [zb_254_0, r_aload_0, r_iload_1, r_inv_2_0, r_inv_2_1, r_inv_2_2, r_inv_2_3, r_inv_2_4, r_K0, r_K1, r_if_ne, r_iconst, r_iret, r_bret_0, r_bret_1, r_iload_2, r_inv_3_0, r_inv_3_1, r_inv_3_2, r_inv_3_3, r_inv_3_4, r_if_eq, r_inv_4_0, r_inv_4_1, r_inv_4_2, r_inv_4_3, r_inv_4_4, r_goto, r_goto_w, m_isService (hC := hC), q, m_fails, ↓reduceIte, not_true_eq_false, not_false_eq_true, Int.reduceEq, Int.reduceLE, Int.reduceLT, Int.reduceAdd, Int.reduceNeg, Int.reduceMul, Int.reduceSub, Int.reduceToNat]
    exact this
set_option maxRecDepth 20000 in
theorem m_cut (hd : 8 ≤ d) (hM : zMP s V) (hC : zMC ρ V) (hW : zWF ρ) {x z j : Int} (hx : zI32 x) (hz : zI32 z) (hj : zI32 j) (h1 : ¬ (0 ≤ x ∧ x < ρ.n) → Q (.inl (some (zi 0))) (s, zput V 164 6 (zi 1))) (h2 : 0 ≤ x ∧ x < ρ.n → ¬ (1 ≤ z ∧ z ≤ 12) → Q (.inl (some (zi 0))) (s, zput V 164 6 (zi 2)))
    (h0 : 0 ≤ x ∧ x < ρ.n → 1 ≤ z ∧ z ≤ 12 → ∀ V', zFm [169, 170, 189] [6] V V' → V' 164 6 = zi 0 → Q (.inl (some (zi (zCutj ρ x z j)))) (s, V')) : zcall d 255 [.ref 164, zi x, zi z, zi j] (s, V) Q := by
  have tM := hM.1
  obtain ⟨n0, n1, c0, c1⟩ := hW.1
  obtain ⟨j1, j2⟩ := id hj
  have hw := zTwo_rng n1
  have i1 : zI32 1 := ⟨by omega, by omega⟩
  have i2 : zI32 12 := ⟨by omega, by omega⟩
  obtain ⟨d, rfl⟩ : ∃ e, d = e + 1 := ⟨d - 1, by omega⟩
  simp (disch := first | assumption | omega) only [zc_255]
  by_cases q : 0 ≤ x ∧ x < ρ.n
  · by_cases q2 : 1 ≤ z ∧ z ≤ 12
    · have h0' := h0 q q2
      by_cases q3 : j < 0
      · have e : zCutj ρ x z j = -1 := by
          unfold zCutj zTh
          rw [show zfst (zCtj ρ x z j) 0 (zTwo ρ.n) = zTwo ρ.n from zfst_eq (by omega) (Int.le_refl _) (fun k k0 k1 => by
            unfold zCtj
            rw [Bool.and_eq_false_iff]
            right
            have := zct_rng (p := zCz ρ x z) k0
            simp
            omega) (fun c => by omega), if_neg (by omega)]
        rw [e] at h0'
        have := h0' (zput V 164 6 (zi 0)) (zFm.rf.pf (by simp)) zput_at
        simp (disch := first | assumption | exact zk_255 | ((repeat (first | exact z1n | refine z1I ?_ | refine z1R ?_)); done) | exact rfl | omega | decide) only [zb_255_0, zb_255_1, zb_255_2, zb_255_3, zb_255_4, r_aload_0, r_iload_1, r_inv_2_0, r_inv_2_1, r_inv_2_2, r_inv_2_3, r_inv_2_4, r_K0, r_K1, r_if_ne, r_iconst, r_iret, r_bret_0, r_bret_1, r_iload_2, r_inv_3_0, r_inv_3_1, r_inv_3_2, r_inv_3_3, r_inv_3_4, r_iload_3, r_if_ge, r_goto, r_inv_4_0, r_inv_4_1, r_inv_4_2, r_inv_4_3, r_inv_4_4, r_goto_w, m_isService (hC := hC), q, and_self, m_in, q2, m_tells, ↓reduceIte, not_true_eq_false, not_false_eq_true, Int.reduceEq, Int.reduceLE, Int.reduceLT, Int.reduceAdd, Int.reduceNeg, Int.reduceMul, Int.reduceSub, Int.reduceToNat]
        rw [if_neg (by omega)]
        exact this
      · simp (disch := first | assumption | exact zk_255 | ((repeat (first | exact z1n | refine z1I ?_ | refine z1R ?_)); done) | exact rfl | omega | decide) only [zb_255_0, zb_255_1, zb_255_2, zb_255_3, r_aload_0, r_iload_1, r_inv_2_0, r_inv_2_1, r_inv_2_2, r_inv_2_3, r_inv_2_4, r_K0, r_K1, r_if_ne, r_iconst, r_iret, r_bret_0, r_bret_1, r_iload_2, r_inv_3_0, r_inv_3_1, r_inv_3_2, r_inv_3_3, r_inv_3_4, r_iload_3, r_if_ge, r_goto, r_inv_4_0, r_inv_4_1, r_inv_4_2, r_inv_4_3, r_inv_4_4, r_goto_w, m_isService (hC := hC), q, and_self, m_in, q2, ↓reduceIte, not_true_eq_false, not_false_eq_true, Int.reduceEq, Int.reduceLE, Int.reduceLT, Int.reduceAdd, Int.reduceNeg, Int.reduceMul, Int.reduceSub, Int.reduceToNat]
        rw [if_pos (by omega)]
        refine m_cutAt (by omega) hM hC hW q.1 q.2 hz hj (fun V1 f1 => ?_)
        have hM1 := hM.fm f1 (by decide)
        have := h0' (zput V1 164 6 (zi 0)) ((f1.mono (fun _ h => h) (by simp)).pf (by simp)) zput_at
        rw [if_neg (by omega)]
        simp (disch := first | assumption | exact zk_255 | ((repeat (first | exact z1n | refine z1I ?_ | refine z1R ?_)); done) | exact rfl | omega | decide) only [zb_255_4, r_aload_0, r_iload_1, r_inv_2_0, r_inv_2_1, r_inv_2_2, r_inv_2_3, r_inv_2_4, r_K0, r_K1, r_if_ne, r_iconst, r_iret, r_bret_0, r_bret_1, r_iload_2, r_inv_3_0, r_inv_3_1, r_inv_3_2, r_inv_3_3, r_inv_3_4, r_iload_3, r_if_ge, r_goto, r_inv_4_0, r_inv_4_1, r_inv_4_2, r_inv_4_3, r_inv_4_4, r_goto_w, m_tells, ↓reduceIte, not_true_eq_false, not_false_eq_true, Int.reduceEq, Int.reduceLE, Int.reduceLT, Int.reduceAdd, Int.reduceNeg, Int.reduceMul, Int.reduceSub, Int.reduceToNat]
        exact this
    · have := h2 q q2
      simp (disch := first | assumption | exact zk_255 | ((repeat (first | exact z1n | refine z1I ?_ | refine z1R ?_)); done) | exact rfl | omega | decide) only [zb_255_0, zb_255_1, r_aload_0, r_iload_1, r_inv_2_0, r_inv_2_1, r_inv_2_2, r_inv_2_3, r_inv_2_4, r_K0, r_K1, r_if_ne, r_iconst, r_iret, r_bret_0, r_bret_1, r_iload_2, r_inv_3_0, r_inv_3_1, r_inv_3_2, r_inv_3_3, r_inv_3_4, r_iload_3, r_if_ge, r_goto, r_inv_4_0, r_inv_4_1, r_inv_4_2, r_inv_4_3, r_inv_4_4, r_goto_w, m_isService (hC := hC), q, and_self, m_in, q2, m_fails, ↓reduceIte, not_true_eq_false, not_false_eq_true, Int.reduceEq, Int.reduceLE, Int.reduceLT, Int.reduceAdd, Int.reduceNeg, Int.reduceMul, Int.reduceSub, Int.reduceToNat]
      exact this
  · have := h1 q
    simp (disch := first | assumption | exact zk_255 | ((repeat (first | exact z1n | refine z1I ?_ | refine z1R ?_)); done) | exact rfl | omega | decide) only [zb_255_0, r_aload_0, r_iload_1, r_inv_2_0, r_inv_2_1, r_inv_2_2, r_inv_2_3, r_inv_2_4, r_K0, r_K1, r_if_ne, r_iconst, r_iret, r_bret_0, r_bret_1, r_iload_2, r_inv_3_0, r_inv_3_1, r_inv_3_2, r_inv_3_3, r_inv_3_4, r_iload_3, r_if_ge, r_goto, r_inv_4_0, r_inv_4_1, r_inv_4_2, r_inv_4_3, r_inv_4_4, r_goto_w, m_isService (hC := hC), q, m_fails, ↓reduceIte, not_true_eq_false, not_false_eq_true, Int.reduceEq, Int.reduceLE, Int.reduceLT, Int.reduceAdd, Int.reduceNeg, Int.reduceMul, Int.reduceSub, Int.reduceToNat]
    exact this
set_option maxRecDepth 20000 in
theorem m_availability (hd : 8 ≤ d) (hM : zMP s V) (hC : zMC ρ V) (hW : zWF ρ) {x : Int} (hx : zI32 x) (h1 : ¬ (0 ≤ x ∧ x < ρ.n) → Q (.inl (some (zi 0))) (s, zput V 164 6 (zi 1)))
    (h0 : 0 ≤ x ∧ x < ρ.n → ∀ V', zFm [169, 170, 189] [6] V V' → V' 164 6 = zi 0 → Q (.inl (some (zi (zavA ρ x)))) (s, V')) : zcall d 257 [.ref 164, zi x] (s, V) Q := by
  have tM := hM.1
  obtain ⟨d, rfl⟩ : ∃ e, d = e + 1 := ⟨d - 1, by omega⟩
  simp (disch := first | assumption | omega) only [zc_257]
  by_cases q : 0 ≤ x ∧ x < ρ.n
  · have h0' := h0 q
    simp (disch := first | assumption | exact zk_257 | ((repeat (first | exact z1n | refine z1I ?_ | refine z1R ?_)); done) | exact rfl | omega | decide) only [zb_257_0, zb_257_1, r_aload_0, r_iload_1, r_inv_2_0, r_inv_2_1, r_inv_2_2, r_inv_2_3, r_inv_2_4, r_K0, r_K1, r_if_ne, r_iconst, r_iret, r_bret_0, r_bret_1, r_d2f, r_inv_1_0, r_inv_1_1, r_inv_1_2, r_inv_1_3, r_inv_1_4, m_isService (hC := hC), q, and_self, ↓reduceIte, not_true_eq_false, not_false_eq_true, Int.reduceEq, Int.reduceLE, Int.reduceLT, Int.reduceAdd, Int.reduceNeg, Int.reduceMul, Int.reduceSub, Int.reduceToNat]
    refine m_laysFailing (by omega) hM hC hW q.1 q.2 (fun V1 f1 hF => ?_)
    have hM1 := hM.fm f1 (by decide)
    have hC1 := hC.fm f1 (by decide)
    have hav := fun K => m_available (Q := K) (d := d) (by omega) hM1 hC1 hW (pf := -1) ⟨by omega, by omega⟩ hF
    obtain ⟨c, e, u1, u2⟩ := zavA_is hW x
    have hnn := zF32nn u1
    have hr := zavA_rng hW x
    have z1 := z1F (u := FP.d2f (zavS ρ (-1) x (zTwo ρ.n)))
    have hfi := fun K h => c_f2i (Q := K) (h := h) (d := d) (by omega) u1 u2
    have ha : ((FP.d2f (zavS ρ (-1) x (zTwo ρ.n))).toNat : Int) = zavA ρ x := rfl
    rw [ha] at hfi
    have := h0' (zput V1 164 6 (zi 0)) ((f1.mono (fun _ h => h) (by simp)).pf (by simp)) zput_at
    generalize zavA ρ x = A at hr hfi this
    generalize zavS ρ (-1) x (zTwo ρ.n) = S at hav hnn hfi z1
    simp (disch := first | assumption | exact zk_257 | ((repeat (first | exact z1n | refine z1I ?_ | refine z1R ?_)); done) | exact rfl | omega | decide) only [r_aload_0, r_iload_1, r_inv_2_0, r_inv_2_1, r_inv_2_2, r_inv_2_3, r_inv_2_4, r_K0, r_K1, r_if_ne, r_iconst, r_iret, r_bret_0, r_bret_1, r_d2f, r_inv_1_0, r_inv_1_1, r_inv_1_2, r_inv_1_3, r_inv_1_4, hav, hfi, m_tells, ↓reduceIte, not_true_eq_false, not_false_eq_true, Int.reduceEq, Int.reduceLE, Int.reduceLT, Int.reduceAdd, Int.reduceNeg, Int.reduceMul, Int.reduceSub, Int.reduceToNat]
    exact this
  · have := h1 q
    simp (disch := first | assumption | exact zk_257 | ((repeat (first | exact z1n | refine z1I ?_ | refine z1R ?_)); done) | exact rfl | omega | decide) only [zb_257_0, r_aload_0, r_iload_1, r_inv_2_0, r_inv_2_1, r_inv_2_2, r_inv_2_3, r_inv_2_4, r_K0, r_K1, r_if_ne, r_iconst, r_iret, r_bret_0, r_bret_1, r_d2f, r_inv_1_0, r_inv_1_1, r_inv_1_2, r_inv_1_3, r_inv_1_4, m_isService (hC := hC), q, m_fails, ↓reduceIte, not_true_eq_false, not_false_eq_true, Int.reduceEq, Int.reduceLE, Int.reduceLT, Int.reduceAdd, Int.reduceNeg, Int.reduceMul, Int.reduceSub, Int.reduceToNat]
    exact this
set_option maxRecDepth 20000 in
theorem m_weakest (hd : 7 ≤ d) (hM : zMP s V) (hC : zMC ρ V) (hW : zWF ρ) {x : Int} (hx : zI32 x) (h1 : ¬ (0 ≤ x ∧ x < ρ.n) → Q (.inl (some (zi 0))) (s, zput V 164 6 (zi 1)))
    (h0 : 0 ≤ x ∧ x < ρ.n → ∀ V', zFm [169, 170, 189] [6] V V' → V' 164 6 = zi 0 → Q (.inl (some (zi (zavW ρ x ρ.n).1))) (s, V')) : zcall d 258 [.ref 164, zi x] (s, V) Q := by
  have tM := hM.1
  obtain ⟨d, rfl⟩ : ∃ e, d = e + 1 := ⟨d - 1, by omega⟩
  simp (disch := first | assumption | omega) only [zc_258]
  by_cases q : 0 ≤ x ∧ x < ρ.n
  · have h0' := h0 q
    simp (disch := first | assumption | exact zk_258 | ((repeat (first | exact z1n | refine z1I ?_ | refine z1R ?_)); done) | exact rfl | omega | decide) only [zb_258_0, zb_258_1, r_aload_0, r_iload_1, r_inv_2_0, r_inv_2_1, r_inv_2_2, r_inv_2_3, r_inv_2_4, r_K0, r_K1, r_if_ne, r_iconst, r_iret, r_bret_0, r_bret_1, r_istore_2i, r_istore_2r, r_istore_2j, r_dconst, r_dstore_3i, r_dstore_3r, r_dstore_3j, r_istore_5i, r_istore_5r, r_istore_5j, r_goto_w, r_iload_5, r_gf_640, r_ial, r_ial30, r_ial32, r_icmp_ge, r_dstore_6i, r_dstore_6r, r_dstore_6j, r_iload_2, r_icmp_eq, r_dload_6, r_dload_3, r_dcmp, r_if_le, r_iinc_5i, r_iinc_5r, r_iinc_5j, r_goto, m_isService (hC := hC), q, and_self, ↓reduceIte, not_true_eq_false, not_false_eq_true, Int.reduceEq, Int.reduceLE, Int.reduceLT, Int.reduceAdd, Int.reduceNeg, Int.reduceMul, Int.reduceSub, Int.reduceToNat]
    refine m_laysFailing (by omega) hM hC hW q.1 q.2 (fun V1 f1 hF => ?_)
    have hM1 := hM.fm f1 (by decide)
    have hC1 := hC.fm f1 (by decide)
    have := m_availFin (Q := Q) (d := d) (by omega) hM1 hC1 hW q.1 q.2 hF (fun _ => h0' (zput V1 164 6 (zi 0)) ((f1.mono (fun _ h => h) (by simp)).pf (by simp)) zput_at)
    simp (disch := first | assumption | exact zk_258 | ((repeat (first | exact z1n | refine z1I ?_ | refine z1R ?_)); done) | exact rfl | omega | decide) only [r_aload_0, r_iload_1, r_inv_2_0, r_inv_2_1, r_inv_2_2, r_inv_2_3, r_inv_2_4, r_K0, r_K1, r_if_ne, r_iconst, r_iret, r_bret_0, r_bret_1, r_istore_2i, r_istore_2r, r_istore_2j, r_dconst, r_dstore_3i, r_dstore_3r, r_dstore_3j, r_istore_5i, r_istore_5r, r_istore_5j, r_goto_w, r_iload_5, r_gf_640, r_ial, r_ial30, r_ial32, r_icmp_ge, r_dstore_6i, r_dstore_6r, r_dstore_6j, r_iload_2, r_icmp_eq, r_dload_6, r_dload_3, r_dcmp, r_if_le, r_iinc_5i, r_iinc_5r, r_iinc_5j, r_goto, z0d_eq, ↓reduceIte, not_true_eq_false, not_false_eq_true, Int.reduceEq, Int.reduceLE, Int.reduceLT, Int.reduceAdd, Int.reduceNeg, Int.reduceMul, Int.reduceSub, Int.reduceToNat]
    exact this
  · have := h1 q
    simp (disch := first | assumption | exact zk_258 | ((repeat (first | exact z1n | refine z1I ?_ | refine z1R ?_)); done) | exact rfl | omega | decide) only [zb_258_0, r_aload_0, r_iload_1, r_inv_2_0, r_inv_2_1, r_inv_2_2, r_inv_2_3, r_inv_2_4, r_K0, r_K1, r_if_ne, r_iconst, r_iret, r_bret_0, r_bret_1, r_istore_2i, r_istore_2r, r_istore_2j, r_dconst, r_dstore_3i, r_dstore_3r, r_dstore_3j, r_istore_5i, r_istore_5r, r_istore_5j, r_goto_w, r_iload_5, r_gf_640, r_ial, r_ial30, r_ial32, r_icmp_ge, r_dstore_6i, r_dstore_6r, r_dstore_6j, r_iload_2, r_icmp_eq, r_dload_6, r_dload_3, r_dcmp, r_if_le, r_iinc_5i, r_iinc_5r, r_iinc_5j, r_goto, m_isService (hC := hC), q, m_fails, ↓reduceIte, not_true_eq_false, not_false_eq_true, Int.reduceEq, Int.reduceLE, Int.reduceLT, Int.reduceAdd, Int.reduceNeg, Int.reduceMul, Int.reduceSub, Int.reduceToNat]
    exact this
end
