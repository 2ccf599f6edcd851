/-! STATE, 1: the methods of State that only look -/
/-- sets that grow by a fold -/
def zms (p : Int → Bool) (n : Int) : Nat := zfo (fun k m => if p k = true then m ||| zone k else m) 0 n
theorem zms_lt {p : Int → Bool} {n : Int} (h0 : 0 ≤ n) (h : n ≤ 12) : zms p n < 4096 := by
  refine zfo_inv (fun _ m => m < 4096) (by decide) (fun j y h1 h2 hy => ?_) h0
  try dsimp only
  split
  · exact zor_lt hy (zone_lt (by omega))
  · exact hy
theorem zms_bit {p : Int → Bool} {n x : Int} (h0 : 0 ≤ n) (hx : 0 ≤ x) : zin (zms p n) x = true ↔ x < n ∧ p x = true := by
  refine zfo_inv (fun k m => zin m x = true ↔ x < k ∧ p x = true) (by rw [zin_zero]; constructor; (intro h; cases h); (intro h; omega)) (fun j y h1 h2 hy => ?_) h0
  try dsimp only
  by_cases hp : p j = true
  · rw [if_pos hp, zin_or, Bool.or_eq_true, hy, zone_bit h1 hx, decide_eq_true_eq]
    constructor
    · rintro (h | h)
      · exact ⟨by omega, h.2⟩
      · rw [← h]; exact ⟨by omega, hp⟩
    · intro h
      by_cases e : j = x
      · exact Or.inr e
      · exact Or.inl ⟨by omega, h.2⟩
  · rw [if_neg hp, hy]
    constructor
    · exact fun h => ⟨by omega, h.2⟩
    · intro h
      refine ⟨?_, h.2⟩
      by_cases e : j = x
      · rw [← e] at h; exact absurd h.2 hp
      · omega
def zDown (ρ : zR) : Nat := zms (fun x => decide (ρ.S 6 x ≠ 1)) ρ.n
def zGrp (ρ : zR) (h : Int) (v : Nat) : Bool := !zany (fun k => (decide (k = h) || decide (zLead ρ k = h)) && !zin v (ρ.K 1 k)) h ρ.c
def zLack (ρ : zR) (x : Int) (v : Nat) : Bool := zany (fun h => decide (ρ.K 0 h = x ∧ ρ.K 4 h = 0) && zGrp ρ h v) 0 ρ.c
def zCnt (ρ : zR) (x : Int) : Int := zfo (fun k m => if ρ.K 0 k = x then m + 1 else m) 0 ρ.c
theorem zHd_rng (ρ : zR) (x : Int) (j : Nat) : -1 ≤ zHd ρ x j ∧ zHd ρ x j < j := by
  induction j with
  | zero => exact ⟨by show (-1 : Int) ≤ -1; omega, by show (-1 : Int) < 0; omega⟩
  | succ j ih =>
    show -1 ≤ (if ρ.K 0 j = x ∧ ρ.K 4 j ≠ 2 then (j : Int) else zHd ρ x j) ∧ (if ρ.K 0 j = x ∧ ρ.K 4 j ≠ 2 then (j : Int) else zHd ρ x j) < _
    split <;> omega
theorem zLead_rng (ρ : zR) {k : Int} (hk : 0 ≤ k) : -1 ≤ zLead ρ k ∧ zLead ρ k < k := by
  unfold zLead
  have := zHd_rng ρ (ρ.K 0 k) k.toNat
  split <;> omega
section
variable {d : Nat} {s : zS} {V : zV} {Q : zO → zH → Prop} {a : Nat} {ρ : zR} {h : zH}
set_option maxRecDepth 20000 in
theorem c_isInGroup (hd : 1 ≤ d) (hP : zStP s V a) (hC : zStC ρ V a) (hW : zWF ρ) {k j : Int} (h1 : 0 ≤ k) (h2 : k < ρ.c) (h3 : 0 ≤ j) (h4 : j < ρ.c) : zcall d 85 [.ref a, zi k, zi j] (s, V) Q = if k = j ∨ zLead ρ k = j then Q (.inl (some (zi 1))) (s, V) else Q (.inl (some (zi 0))) (s, V) := by
  obtain ⟨n0, n1, c0, c1⟩ := hW.1
  have w := zLead_rng ρ h1
  have tO := hP.1
  have vB := hP.2.2.2.2.1
  have tB := hP.2.2.2.2.2.1
  have lB := hP.2.2.2.2.2.2.1
  have vn := hC.1
  have vc := hC.2.1
  have vc5 : V (a + 11) 5 = .ref (a + 17) := (hP.2.2.2.2.2.2.2.2 5 (by omega)).1
  have tc5 : s.tg (a + 17) = 20 := (hP.2.2.2.2.2.2.2.2 5 (by omega)).2.1
  have lc5 : s.ln (a + 17) = 24 := (hP.2.2.2.2.2.2.2.2 5 (by omega)).2.2
  have ec5 : ∀ x : Int, 0 ≤ x → x < ρ.c → V (a + 17) x = zi (zLead ρ x) := hC.2.2.2.2
  obtain ⟨d, rfl⟩ : ∃ e, d = e + 1 := ⟨d - 1, by omega⟩
  simp (disch := first | assumption | omega) only [zc_85]
  simp (disch := first | assumption | exact zk_85 | ((repeat (first | exact z1n | refine z1I ?_ | refine z1R ?_)); done) | exact rfl | omega | decide) only [zb_85_0, zb_85_1, zb_85_2, zb_85_3, r_iload_1, r_iload_2, r_icmp_eq, r_aload_0, r_gf_451, r_iconst, r_aaload, r_ial, r_ial30, r_ial32, r_icmp_ne, r_goto_w, r_goto, r_iret, r_bret_0, r_bret_1, vB, vn, vc, vc5, ec5, ↓reduceIte, not_true_eq_false, not_false_eq_true, Int.reduceEq, Int.reduceLE, Int.reduceLT, Int.reduceAdd, Int.reduceNeg, Int.reduceMul, Int.reduceSub, Int.reduceToNat]
  (repeat' split) <;> first | rfl | (exfalso; omega) | (exfalso; grind)
set_option maxRecDepth 20000 in
theorem c_count (hd : 1 ≤ d) (hP : zStP s V a) (hC : zStC ρ V a) (hW : zWF ρ) {x : Int} (h1 : 0 ≤ x) (h2 : x < ρ.n) : zcall d 82 [.ref a, zi x] (s, V) Q = Q (.inl (some (zi (zCnt ρ x)))) (s, V) := by
  obtain ⟨n0, n1, c0, c1⟩ := hW.1
  have tO := hP.1
  have vB := hP.2.2.2.2.1
  have tB := hP.2.2.2.2.2.1
  have lB := hP.2.2.2.2.2.2.1
  have vn := hC.1
  have vc := hC.2.1
  have vc0 : V (a + 11) 0 = .ref (a + 12) := (hP.2.2.2.2.2.2.2.2 0 (by omega)).1
  have tc0 : s.tg (a + 12) = 20 := (hP.2.2.2.2.2.2.2.2 0 (by omega)).2.1
  have lc0 : s.ln (a + 12) = 24 := (hP.2.2.2.2.2.2.2.2 0 (by omega)).2.2
  have ec0 : ∀ x : Int, 0 ≤ x → x < ρ.c → V (a + 12) x = zi (ρ.K 0 x) := hC.2.2.2.1 0 (by omega)
  obtain ⟨d, rfl⟩ : ∃ e, d = e + 1 := ⟨d - 1, by omega⟩
  simp (disch := first | assumption | omega) only [zc_82]
  simp (disch := first | assumption | exact zk_82 | ((repeat (first | exact z1n | refine z1I ?_ | refine z1R ?_)); done) | exact rfl | omega | decide) only [zb_82_0, r_iconst, r_istore_2i, r_istore_2r, r_istore_2j, r_istore_3i, r_istore_3r, r_istore_3j, r_goto_w, r_iload_3, r_aload_0, r_gf_449, r_icmp_ge, r_gf_451, r_aaload, r_ial, r_ial30, r_ial32, r_iload_1, r_icmp_ne, r_iinc_2i, r_iinc_2r, r_iinc_2j, r_iinc_3i, r_iinc_3r, r_iinc_3j, r_goto, r_iload_2, r_iret, r_bret_0, r_bret_1, vB, vn, vc, vc0, ec0, ↓reduceIte, not_true_eq_false, not_false_eq_true, Int.reduceEq, Int.reduceLE, Int.reduceLT, Int.reduceAdd, Int.reduceNeg, Int.reduceMul, Int.reduceSub, Int.reduceToNat]
  unfold zCnt
  refine (z_chainI (F := fun k => zwp (zcall d) 82 Q (zB 82 1) [.ref a, zi x, zi (zfo (fun k m => if ρ.K 0 k = x then m + 1 else m) 0 k), zi k] [] (s, V)) c0 (fun k k0 k1 => ?_)).trans ?_
  · have w := hW.2.2.1 k k0 k1
    conv => lhs; rw [zb_82_1]
    rw [zfo_s k0]
    simp (disch := first | assumption | exact zk_82 | ((repeat (first | exact z1n | refine z1I ?_ | refine z1R ?_)); done) | exact rfl | omega | decide) only [zb_82_2, zb_82_3, r_iconst, r_istore_2i, r_istore_2r, r_istore_2j, r_istore_3i, r_istore_3r, r_istore_3j, r_goto_w, r_iload_3, r_aload_0, r_gf_449, r_icmp_ge, r_gf_451, r_aaload, r_ial, r_ial30, r_ial32, r_iload_1, r_icmp_ne, r_iinc_2i, r_iinc_2r, r_iinc_2j, r_iinc_3i, r_iinc_3r, r_iinc_3j, r_goto, r_iload_2, r_iret, r_bret_0, r_bret_1, vB, vn, vc, vc0, ec0, ↓reduceIte, not_true_eq_false, not_false_eq_true, Int.reduceEq, Int.reduceLE, Int.reduceLT, Int.reduceAdd, Int.reduceNeg, Int.reduceMul, Int.reduceSub, Int.reduceToNat]
    rw [if_neg (by omega : ¬ ρ.c ≤ k)]
    split
    · rfl
    · rename_i e
      rw [if_pos (by omega)]
  · simp (disch := first | assumption | exact zk_82 | ((repeat (first | exact z1n | refine z1I ?_ | refine z1R ?_)); done) | exact rfl | omega | decide) only [zb_82_0, zb_82_1, zb_82_2, zb_82_3, r_iconst, r_istore_2i, r_istore_2r, r_istore_2j, r_istore_3i, r_istore_3r, r_istore_3j, r_goto_w, r_iload_3, r_aload_0, r_gf_449, r_icmp_ge, r_gf_451, r_aaload, r_ial, r_ial30, r_ial32, r_iload_1, r_icmp_ne, r_iinc_2i, r_iinc_2r, r_iinc_2j, r_iinc_3i, r_iinc_3r, r_iinc_3j, r_goto, r_iload_2, r_iret, r_bret_0, r_bret_1, vB, vn, vc, vc0, ec0, Int.le_refl, ↓reduceIte, not_true_eq_false, not_false_eq_true, Int.reduceEq, Int.reduceLE, Int.reduceLT, Int.reduceAdd, Int.reduceNeg, Int.reduceMul, Int.reduceSub, Int.reduceToNat]
set_option maxRecDepth 20000 in
theorem c_lastHead (hd : 2 ≤ d) (hP : zStP s V a) (hC : zStC ρ V a) (hW : zWF ρ) {x : Int} (h1 : 0 ≤ x) (h2 : x < ρ.n) : zcall d 83 [.ref a, zi x] (s, V) Q = Q (.inl (some (zi (zHd ρ x ρ.c.toNat)))) (s, V) := by
  obtain ⟨n0, n1, c0, c1⟩ := hW.1
  have tO := hP.1
  have vn := hC.1
  have vc := hC.2.1
  obtain ⟨d, rfl⟩ : ∃ e, d = e + 1 := ⟨d - 1, by omega⟩
  simp (disch := first | assumption | omega) only [zc_83]
  have loop : ∀ j : Nat, (j : Int) ≤ ρ.c → zwp (zcall d) 83 Q (zB 83 1) [.ref a, zi x, zi ((j : Int) - 1)] [] (s, V) = Q (.inl (some (zi (zHd ρ x j)))) (s, V) := by
    intro j
    induction j with
    | zero =>
      intro hj
      simp (disch := first | assumption | exact zk_83 | ((repeat (first | exact z1n | refine z1I ?_ | refine z1R ?_)); done) | exact rfl | omega | decide) only [zb_83_0, zb_83_1, zb_83_2, zb_83_3, r_aload_0, r_gf_449, r_iconst, r_isub, r_istore_2i, r_istore_2r, r_istore_2j, r_goto_w, r_iload_2, r_if_lt, r_iload_1, r_inv_3_0, r_inv_3_1, r_inv_3_2, r_inv_3_3, r_inv_3_4, r_K0, r_K1, r_if_eq, r_iret, r_bret_0, r_bret_1, r_iinc_2i, r_iinc_2r, r_iinc_2j, r_goto, vn, vc, zHd, Int.natCast_zero, Int.zero_sub, ↓reduceIte, not_true_eq_false, not_false_eq_true, Int.reduceEq, Int.reduceLE, Int.reduceLT, Int.reduceAdd, Int.reduceNeg, Int.reduceMul, Int.reduceSub, Int.reduceToNat]
    | succ j ih =>
      intro hj
      have e : ((j + 1 : Nat) : Int) - 1 = j := by omega
      rw [e]
      conv => lhs; rw [zb_83_1]
      simp (disch := first | assumption | exact zk_83 | ((repeat (first | exact z1n | refine z1I ?_ | refine z1R ?_)); done) | exact rfl | omega | decide) only [zb_83_2, zb_83_3, r_aload_0, r_gf_449, r_iconst, r_isub, r_istore_2i, r_istore_2r, r_istore_2j, r_goto_w, r_iload_2, r_if_lt, r_iload_1, r_inv_3_0, r_inv_3_1, r_inv_3_2, r_inv_3_3, r_inv_3_4, r_K0, r_K1, r_if_eq, r_iret, r_bret_0, r_bret_1, r_iinc_2i, r_iinc_2r, r_iinc_2j, r_goto, vn, vc, c_isHeadOf (hC := hC), ↓reduceIte, not_true_eq_false, not_false_eq_true, Int.reduceEq, Int.reduceLE, Int.reduceLT, Int.reduceAdd, Int.reduceNeg, Int.reduceMul, Int.reduceSub, Int.reduceToNat]
      rw [if_neg (by omega : ¬ (j : Int) < 0), show zHd ρ x (j + 1) = if ρ.K 0 j = x ∧ ρ.K 4 j ≠ 2 then (j : Int) else zHd ρ x j from rfl]
      split
      · rfl
      · exact ih (by omega)
  have := loop ρ.c.toNat (by omega)
  rw [Int.toNat_of_nonneg c0] at this
  simp (disch := first | assumption | exact zk_83 | ((repeat (first | exact z1n | refine z1I ?_ | refine z1R ?_)); done) | exact rfl | omega | decide) only [zb_83_0, r_aload_0, r_gf_449, r_iconst, r_isub, r_istore_2i, r_istore_2r, r_istore_2j, r_goto_w, r_iload_2, r_if_lt, r_iload_1, r_inv_3_0, r_inv_3_1, r_inv_3_2, r_inv_3_3, r_inv_3_4, r_K0, r_K1, r_if_eq, r_iret, r_bret_0, r_bret_1, r_iinc_2i, r_iinc_2r, r_iinc_2j, r_goto, vn, vc, ↓reduceIte, not_true_eq_false, not_false_eq_true, Int.reduceEq, Int.reduceLE, Int.reduceLT, Int.reduceAdd, Int.reduceNeg, Int.reduceMul, Int.reduceSub, Int.reduceToNat]
  exact this
set_option maxRecDepth 20000 in
theorem c_downSet (hd : 2 ≤ d) (hP : zStP s V a) (hC : zStC ρ V a) (hW : zWF ρ) : zcall d 92 [.ref a] (s, V) Q = Q (.inl (some (zi (zDown ρ : Nat)))) (s, V) := by
  obtain ⟨n0, n1, c0, c1⟩ := hW.1
  have tO := hP.1
  have vn := hC.1
  have vc := hC.2.1
  obtain ⟨d, rfl⟩ : ∃ e, d = e + 1 := ⟨d - 1, by omega⟩
  simp (disch := first | assumption | omega) only [zc_92]
  simp (disch := first | assumption | exact zk_92 | ((repeat (first | exact z1n | refine z1I ?_ | refine z1R ?_)); done) | exact rfl | omega | decide) only [zb_92_0, r_iconst, r_istore_1i, r_istore_1r, r_istore_1j, r_istore_2i, r_istore_2r, r_istore_2j, r_goto_w, r_iload_2, r_aload_0, r_gf_448, r_icmp_ge, r_inv_2_0, r_inv_2_1, r_inv_2_2, r_inv_2_3, r_inv_2_4, r_K0, r_K1, r_if_ne, r_iload_1, r_ishl, r_ior, r_iinc_2i, r_iinc_2r, r_iinc_2j, r_goto, r_iret, r_bret_0, r_bret_1, vn, vc, ↓reduceIte, not_true_eq_false, not_false_eq_true, Int.reduceEq, Int.reduceLE, Int.reduceLT, Int.reduceAdd, Int.reduceNeg, Int.reduceMul, Int.reduceSub, Int.reduceToNat]
  unfold zDown
  refine (z_chainI (F := fun k => zwp (zcall d) 92 Q (zB 92 1) [.ref a, zi (zms (fun x => decide (ρ.S 6 x ≠ 1)) k : Nat), zi k] [] (s, V)) n0 (fun k k0 k1 => ?_)).trans ?_
  · have wl := zms_lt (p := fun x => decide (ρ.S 6 x ≠ 1)) k0 (by omega : k ≤ 12)
    have wo := zone_lt (x := k) (by omega)
    conv => lhs; rw [zb_92_1]
    simp (disch := first | assumption | exact zk_92 | ((repeat (first | exact z1n | refine z1I ?_ | refine z1R ?_)); done) | exact rfl | omega | decide) only [zb_92_2, zb_92_3, r_iconst, r_istore_1i, r_istore_1r, r_istore_1j, r_istore_2i, r_istore_2r, r_istore_2j, r_goto_w, r_iload_2, r_aload_0, r_gf_448, r_icmp_ge, r_inv_2_0, r_inv_2_1, r_inv_2_2, r_inv_2_3, r_inv_2_4, r_K0, r_K1, r_if_ne, r_iload_1, r_ishl, r_ior, r_iinc_2i, r_iinc_2r, r_iinc_2j, r_goto, r_iret, r_bret_0, r_bret_1, vn, vc, c_isUp (hC := hC), zshl_z, zor_n, ↓reduceIte, not_true_eq_false, not_false_eq_true, Int.reduceEq, Int.reduceLE, Int.reduceLT, Int.reduceAdd, Int.reduceNeg, Int.reduceMul, Int.reduceSub, Int.reduceToNat]
    rw [if_neg (by omega : ¬ ρ.n ≤ k)]
    unfold zms at wl ⊢
    rw [zfo_s k0]
    split
    · rename_i e
      rw [if_neg (by simpa using e)]
    · rename_i e
      rw [if_pos (by simpa using e)]
  · simp (disch := first | assumption | exact zk_92 | ((repeat (first | exact z1n | refine z1I ?_ | refine z1R ?_)); done) | exact rfl | omega | decide) only [zb_92_0, zb_92_1, zb_92_2, zb_92_3, r_iconst, r_istore_1i, r_istore_1r, r_istore_1j, r_istore_2i, r_istore_2r, r_istore_2j, r_goto_w, r_iload_2, r_aload_0, r_gf_448, r_icmp_ge, r_inv_2_0, r_inv_2_1, r_inv_2_2, r_inv_2_3, r_inv_2_4, r_K0, r_K1, r_if_ne, r_iload_1, r_ishl, r_ior, r_iinc_2i, r_iinc_2r, r_iinc_2j, r_goto, r_iret, r_bret_0, r_bret_1, vn, vc, Int.le_refl, ↓reduceIte, not_true_eq_false, not_false_eq_true, Int.reduceEq, Int.reduceLE, Int.reduceLT, Int.reduceAdd, Int.reduceNeg, Int.reduceMul, Int.reduceSub, Int.reduceToNat]
set_option maxRecDepth 20000 in
theorem c_grp (hd : 2 ≤ d) (hP : zStP s V a) (hC : zStC ρ V a) (hW : zWF ρ) {j : Int} {v : Nat} (h1 : 0 ≤ j) (h2 : j < ρ.c) (hv : v < 4096) : zcall d 90 [.ref a, zi j, zi (v : Nat)] (s, V) Q = if zGrp ρ j v = true then Q (.inl (some (zi 1))) (s, V) else Q (.inl (some (zi 0))) (s, V) := by
  obtain ⟨n0, n1, c0, c1⟩ := hW.1
  have tO := hP.1
  have vB := hP.2.2.2.2.1
  have tB := hP.2.2.2.2.2.1
  have lB := hP.2.2.2.2.2.2.1
  have vn := hC.1
  have vc := hC.2.1
  have vc1 : V (a + 11) 1 = .ref (a + 13) := (hP.2.2.2.2.2.2.2.2 1 (by omega)).1
  have tc1 : s.tg (a + 13) = 20 := (hP.2.2.2.2.2.2.2.2 1 (by omega)).2.1
  have lc1 : s.ln (a + 13) = 24 := (hP.2.2.2.2.2.2.2.2 1 (by omega)).2.2
  have ec1 : ∀ x : Int, 0 ≤ x → x < ρ.c → V (a + 13) x = zi (ρ.K 1 x) := hC.2.2.2.1 1 (by omega)
  obtain ⟨d, rfl⟩ : ∃ e, d = e + 1 := ⟨d - 1, by omega⟩
  simp (disch := first | assumption | omega) only [zc_90]
  simp (disch := first | assumption | exact zk_90 | ((repeat (first | exact z1n | refine z1I ?_ | refine z1R ?_)); done) | exact rfl | omega | decide) only [zb_90_0, r_iload_1, r_istore_3i, r_istore_3r, r_istore_3j, r_goto_w, r_iload_3, r_aload_0, r_gf_449, r_icmp_ge, r_inv_3_0, r_inv_3_1, r_inv_3_2, r_inv_3_3, r_inv_3_4, r_K0, r_K1, r_if_eq, r_iload_2, r_gf_451, r_iconst, r_aaload, r_ial, r_ial30, r_ial32, r_inv_2_0, r_inv_2_1, r_inv_2_2, r_inv_2_3, r_inv_2_4, r_if_ne, r_iret, r_bret_0, r_bret_1, r_iinc_3i, r_iinc_3r, r_iinc_3j, r_goto, vB, vn, vc, vc1, ec1, ↓reduceIte, not_true_eq_false, not_false_eq_true, Int.reduceEq, Int.reduceLE, Int.reduceLT, Int.reduceAdd, Int.reduceNeg, Int.reduceMul, Int.reduceSub, Int.reduceToNat]
  refine (z_searchB (F := fun k => zwp (zcall d) 90 Q (zB 90 1) [.ref a, zi j, zi (v : Nat), zi k] [] (s, V)) (p := fun k => (decide (k = j) || decide (zLead ρ k = j)) && !zin v (ρ.K 1 k)) (A := Q (.inl (some (zi 0))) (s, V)) (B := Q (.inl (some (zi 1))) (s, V)) (by omega : j ≤ ρ.c) (fun k k0 k1 => ?_) ?_).trans ?_
  · have w := hW.2.2.1 k (by omega) k1
    conv => lhs; rw [zb_90_1]
    simp (disch := first | assumption | exact zk_90 | ((repeat (first | exact z1n | refine z1I ?_ | refine z1R ?_)); done) | exact rfl | omega | decide) only [zb_90_2, zb_90_3, r_iload_1, r_istore_3i, r_istore_3r, r_istore_3j, r_goto_w, r_iload_3, r_aload_0, r_gf_449, r_icmp_ge, r_inv_3_0, r_inv_3_1, r_inv_3_2, r_inv_3_3, r_inv_3_4, r_K0, r_K1, r_if_eq, r_iload_2, r_gf_451, r_iconst, r_aaload, r_ial, r_ial30, r_ial32, r_inv_2_0, r_inv_2_1, r_inv_2_2, r_inv_2_3, r_inv_2_4, r_if_ne, r_iret, r_bret_0, r_bret_1, r_iinc_3i, r_iinc_3r, r_iinc_3j, r_goto, vB, vn, vc, vc1, ec1, c_isInGroup (hC := hC), c_contains, ↓reduceIte, not_true_eq_false, not_false_eq_true, Int.reduceEq, Int.reduceLE, Int.reduceLT, Int.reduceAdd, Int.reduceNeg, Int.reduceMul, Int.reduceSub, Int.reduceToNat]
    rw [if_neg (by omega : ¬ ρ.c ≤ k)]
    by_cases e1 : k = j ∨ zLead ρ k = j
    · rw [if_pos e1]
      by_cases e2 : zin v (ρ.K 1 k) = true
      · rw [if_pos e2, if_neg (by simp [e2])]
      · rw [if_neg e2, if_pos (by simp [e2]; exact e1)]
    · rw [if_neg e1, if_neg (by simp; intro c; exact absurd c e1)]
  · simp (disch := first | assumption | exact zk_90 | ((repeat (first | exact z1n | refine z1I ?_ | refine z1R ?_)); done) | exact rfl | omega | decide) only [zb_90_0, zb_90_1, zb_90_2, zb_90_3, r_iload_1, r_istore_3i, r_istore_3r, r_istore_3j, r_goto_w, r_iload_3, r_aload_0, r_gf_449, r_icmp_ge, r_inv_3_0, r_inv_3_1, r_inv_3_2, r_inv_3_3, r_inv_3_4, r_K0, r_K1, r_if_eq, r_iload_2, r_gf_451, r_iconst, r_aaload, r_ial, r_ial30, r_ial32, r_inv_2_0, r_inv_2_1, r_inv_2_2, r_inv_2_3, r_inv_2_4, r_if_ne, r_iret, r_bret_0, r_bret_1, r_iinc_3i, r_iinc_3r, r_iinc_3j, r_goto, vB, vn, vc, vc1, ec1, Int.le_refl, ↓reduceIte, not_true_eq_false, not_false_eq_true, Int.reduceEq, Int.reduceLE, Int.reduceLT, Int.reduceAdd, Int.reduceNeg, Int.reduceMul, Int.reduceSub, Int.reduceToNat]
  · unfold zGrp
    cases zany (fun k => (decide (k = j) || decide (zLead ρ k = j)) && !zin v (ρ.K 1 k)) j ρ.c <;> rfl
set_option maxRecDepth 20000 in
theorem c_lack (hd : 3 ≤ d) (hP : zStP s V a) (hC : zStC ρ V a) (hW : zWF ρ) {x : Int} {v : Nat} (h1 : 0 ≤ x) (h2 : x < ρ.n) (hv : v < 4096) : zcall d 89 [.ref a, zi x, zi (v : Nat)] (s, V) Q = if zLack ρ x v = true then Q (.inl (some (zi 1))) (s, V) else Q (.inl (some (zi 0))) (s, V) := by
  obtain ⟨n0, n1, c0, c1⟩ := hW.1
  have tO := hP.1
  have vn := hC.1
  have vc := hC.2.1
  obtain ⟨d, rfl⟩ : ∃ e, d = e + 1 := ⟨d - 1, by omega⟩
  simp (disch := first | assumption | omega) only [zc_89]
  simp (disch := first | assumption | exact zk_89 | ((repeat (first | exact z1n | refine z1I ?_ | refine z1R ?_)); done) | exact rfl | omega | decide) only [zb_89_0, r_iconst, r_istore_3i, r_istore_3r, r_istore_3j, r_goto_w, r_iload_3, r_aload_0, r_gf_449, r_icmp_ge, r_iload_1, r_inv_3_0, r_inv_3_1, r_inv_3_2, r_inv_3_3, r_inv_3_4, r_K0, r_K1, r_if_eq, r_inv_2_0, r_inv_2_1, r_inv_2_2, r_inv_2_3, r_inv_2_4, r_iload_2, r_iret, r_bret_0, r_bret_1, r_iinc_3i, r_iinc_3r, r_iinc_3j, r_goto, vn, vc, ↓reduceIte, not_true_eq_false, not_false_eq_true, Int.reduceEq, Int.reduceLE, Int.reduceLT, Int.reduceAdd, Int.reduceNeg, Int.reduceMul, Int.reduceSub, Int.reduceToNat]
  refine (z_searchB (F := fun k => zwp (zcall d) 89 Q (zB 89 1) [.ref a, zi x, zi (v : Nat), zi k] [] (s, V)) (p := fun h => decide (ρ.K 0 h = x ∧ ρ.K 4 h = 0) && zGrp ρ h v) (A := Q (.inl (some (zi 1))) (s, V)) (B := Q (.inl (some (zi 0))) (s, V)) c0 (fun k k0 k1 => ?_) ?_)
  · conv => lhs; rw [zb_89_1]
    simp (disch := first | assumption | exact zk_89 | ((repeat (first | exact z1n | refine z1I ?_ | refine z1R ?_)); done) | exact rfl | omega | decide) only [zb_89_2, zb_89_3, r_iconst, r_istore_3i, r_istore_3r, r_istore_3j, r_goto_w, r_iload_3, r_aload_0, r_gf_449, r_icmp_ge, r_iload_1, r_inv_3_0, r_inv_3_1, r_inv_3_2, r_inv_3_3, r_inv_3_4, r_K0, r_K1, r_if_eq, r_inv_2_0, r_inv_2_1, r_inv_2_2, r_inv_2_3, r_inv_2_4, r_iload_2, r_iret, r_bret_0, r_bret_1, r_iinc_3i, r_iinc_3r, r_iinc_3j, r_goto, vn, vc, c_isHeadOf (hC := hC), c_isNeeded (hC := hC), c_grp (hC := hC), ↓reduceIte, not_true_eq_false, not_false_eq_true, Int.reduceEq, Int.reduceLE, Int.reduceLT, Int.reduceAdd, Int.reduceNeg, Int.reduceMul, Int.reduceSub, Int.reduceToNat]
    rw [if_neg (by omega : ¬ ρ.c ≤ k)]
    by_cases e1 : ρ.K 0 k = x
    · by_cases e2 : ρ.K 4 k = 0
      · rw [if_pos ⟨e1, by omega⟩, if_pos e2]
        cases zGrp ρ k v <;> simp [e1, e2]
      · rw [if_neg e2, if_neg (show ¬ (decide (ρ.K 0 k = x ∧ ρ.K 4 k = 0) && zGrp ρ k v) = true by simp [e2])]
        split <;> rfl
    · rw [if_neg (fun q => e1 q.1), if_neg (show ¬ (decide (ρ.K 0 k = x ∧ ρ.K 4 k = 0) && zGrp ρ k v) = true by simp [e1])]
  · simp (disch := first | assumption | exact zk_89 | ((repeat (first | exact z1n | refine z1I ?_ | refine z1R ?_)); done) | exact rfl | omega | decide) only [zb_89_0, zb_89_1, zb_89_2, zb_89_3, r_iconst, r_istore_3i, r_istore_3r, r_istore_3j, r_goto_w, r_iload_3, r_aload_0, r_gf_449, r_icmp_ge, r_iload_1, r_inv_3_0, r_inv_3_1, r_inv_3_2, r_inv_3_3, r_inv_3_4, r_K0, r_K1, r_if_eq, r_inv_2_0, r_inv_2_1, r_inv_2_2, r_inv_2_3, r_inv_2_4, r_iload_2, r_iret, r_bret_0, r_bret_1, r_iinc_3i, r_iinc_3r, r_iinc_3j, r_goto, vn, vc, Int.le_refl, ↓reduceIte, not_true_eq_false, not_false_eq_true, Int.reduceEq, Int.reduceLE, Int.reduceLT, Int.reduceAdd, Int.reduceNeg, Int.reduceMul, Int.reduceSub, Int.reduceToNat]
end
