/-! AVAILABILITY, 3: the weakest; in the model -/
def zcl (r : Option Ordering) : Int := if r = some .gt then 1 else if r = some .eq then 0 else -1
theorem zcl_eq (r : Option Ordering) : Value.int (Op.cmpValue r .l) = zi (zcl r) := by
  rcases r with _ | (_ | _ | _) <;> rfl
theorem zcl_rng (r : Option Ordering) : -1 ≤ zcl r ∧ zcl r ≤ 1 := by
  unfold zcl
  split
  · omega
  · split <;> omega
/-- the weakest of the first k, with its availability -/
def zavW (ρ : zR) (x : Int) (k : Int) : Int × UInt64 := zfo (fun p q => if 0 < zcl (FP.dcmp (zavS ρ p x (zTwo ρ.n)) q.2) then (p, zavS ρ p x (zTwo ρ.n)) else q) (0, zavS ρ 0 x (zTwo ρ.n)) k
theorem zavW_s {ρ : zR} {x k : Int} (h : 0 ≤ k) : zavW ρ x (k + 1) = if 0 < zcl (FP.dcmp (zavS ρ k x (zTwo ρ.n)) (zavW ρ x k).2) then (k, zavS ρ k x (zTwo ρ.n)) else zavW ρ x k := zfo_s h
theorem zavW_1 {ρ : zR} (hW : zWF ρ) {x : Int} : zavW ρ x 1 = (0, zavS ρ 0 x (zTwo ρ.n)) := by
  have hw := zTwo_rng hW.1.2.1
  rw [show (1 : Int) = 0 + 1 from rfl, zavW_s (Int.le_refl _)]
  obtain ⟨⟨c, q, e1, -⟩, -⟩ := zavS_du hW 0 x (k := zTwo ρ.n) (by omega) (Int.le_refl _)
  have : FP.dcmp (zavS ρ 0 x (zTwo ρ.n)) (zavS ρ 0 x (zTwo ρ.n)) = some .eq := FP.Core.dcmp_self (by rw [e1]; intro h; cases h)
  rw [show (zavW ρ x 0).2 = zavS ρ 0 x (zTwo ρ.n) from rfl, this]
  rfl
theorem zavW_rng {ρ : zR} {x k : Int} (h : 1 ≤ k) : 0 ≤ (zavW ρ x k).1 ∧ (zavW ρ x k).1 < k := by
  have : ∀ m : Nat, 0 ≤ (zavW ρ x ((m : Int) + 1)).1 ∧ (zavW ρ x ((m : Int) + 1)).1 < (m : Int) + 1 := by
    intro m
    induction m with
    | zero =>
      rw [zavW_s (by omega)]
      split
      · exact ⟨by show (0 : Int) ≤ ((0 : Nat) : Int); omega, by show ((0 : Nat) : Int) < ((0 : Nat) : Int) + 1; omega⟩
      · exact ⟨by show (0 : Int) ≤ 0; omega, by show (0 : Int) < ((0 : Nat) : Int) + 1; omega⟩
    | succ m ih =>
      rw [zavW_s (by omega)]
      split
      · dsimp only; omega
      · rw [show ((m + 1 : Nat) : Int) = (m : Int) + 1 from rfl]; omega
  have h2 := this (k - 1).toNat
  rwa [show (((k - 1).toNat : Nat) : Int) + 1 = k by omega] at h2
section
variable {d : Nat} {s : zS} {V : zV} {Q : zO → zH → Prop} {a r : Nat} {ρ : zR} {h : zH}
set_option maxRecDepth 20000 in
theorem c_mostWorthwhile (hd : 3 ≤ d) (hF : zFP s V) (hB : zFB ρ V) (hP : zStP s V a) (hC : zStC ρ V a) (hW : zWF ρ) (ha : a + 18 ≤ 139) (hsz : 192 ≤ s.sz) (hL : zLz s V 139 2 22 154 4096) {x : Int} (x0 : 0 ≤ x) (x1 : x < ρ.n) (hQ : ∀ s' V', zExt s s' 1 4096 → (∀ q : Nat, q < 192 → q ≠ 139 → q ≠ 154 → V' q = V q) → zFP s' V' → zLz s' V' 139 2 22 154 4096 → Q (.inl (some (zi (zavW ρ x ρ.n).1))) (s', V')) : zcall d 16 [.ref 139, .ref a, zi x] (s, V) Q := by
  obtain ⟨n0, n1, c0, c1⟩ := hW.1
  have f1 := hF.1
  obtain ⟨d, rfl⟩ : ∃ e, d = e + 1 := ⟨d - 1, by omega⟩
  simp (disch := first | assumption | omega) only [zc_16]
  simp (disch := first | assumption | exact zk_16 | ((repeat (first | exact z1n | refine z1I ?_ | refine z1R ?_)); done) | exact rfl | omega | decide) only [zb_16_0, r_iconst, r_istore_3i, r_istore_3r, r_istore_3j, r_aload_0, r_aload_1, r_iload_2, r_inv_4_0, r_inv_4_1, r_inv_4_2, r_inv_4_3, r_inv_4_4, r_K0, r_K1, r_dstore_4i, r_dstore_4r, r_dstore_4j, r_istore_6i, r_istore_6r, r_istore_6j, r_goto_w, r_iload_6, r_gf_448, r_icmp_ge, r_dstore_7i, r_dstore_7r, r_dstore_7j, r_dload_7, r_dload_4, r_dcmp, r_if_le, r_iinc_6i, r_iinc_6r, r_iinc_6j, r_goto, r_iload_3, r_iret, r_bret_0, r_bret_1, ↓reduceIte, not_true_eq_false, not_false_eq_true, Int.reduceEq, Int.reduceLE, Int.reduceLT, Int.reduceAdd, Int.reduceNeg, Int.reduceMul, Int.reduceSub, Int.reduceToNat]
  refine c_chanceOf (by omega) hF hB hP hC hW ha hsz hL x0 x1 ⟨by omega, by omega⟩ (fun s1 V1 r hx g1 hF1 hr1 => ?_)
  obtain ⟨r1, r2, r3, r4, r5⟩ := id hr1
  have hs1 : s1.sz ≤ s.sz + 1 ∧ s.sz ≤ s1.sz := ⟨hx.1.2, hx.1.1⟩
  have lo := z_iter (i := 1) (n := ρ.n) (I := fun k (u : zV) => ∀ q : Nat, q ≠ r → u q = V1 q) (P := fun k u => ∀ w7 w8, zwp (zcall d) 16 Q (zB 16 1) [.ref 139, .ref a, zi x, zi (zavW ρ x k).1, .double (zavW ρ x k).2, zJ, zi k, w7, w8] [] (s1, u)) (by omega)
  have key := lo ?_ ?_ V1 (fun _ _ => rfl) zJ zJ
  · rw [zavW_1 hW] at key
    dsimp only at key
    simp (disch := first | assumption | exact zk_16 | ((repeat (first | exact z1n | refine z1I ?_ | refine z1R ?_)); done) | exact rfl | omega | decide) only [r_iconst, r_istore_3i, r_istore_3r, r_istore_3j, r_aload_0, r_aload_1, r_iload_2, r_inv_4_0, r_inv_4_1, r_inv_4_2, r_inv_4_3, r_inv_4_4, r_K0, r_K1, r_dstore_4i, r_dstore_4r, r_dstore_4j, r_istore_6i, r_istore_6r, r_istore_6j, r_goto_w, r_iload_6, r_gf_448, r_icmp_ge, r_dstore_7i, r_dstore_7r, r_dstore_7j, r_dload_7, r_dload_4, r_dcmp, r_if_le, r_iinc_6i, r_iinc_6r, r_iinc_6j, r_goto, r_iload_3, r_iret, r_bret_0, r_bret_1, ↓reduceIte, not_true_eq_false, not_false_eq_true, Int.reduceEq, Int.reduceLE, Int.reduceLT, Int.reduceAdd, Int.reduceNeg, Int.reduceMul, Int.reduceSub, Int.reduceToNat]
    exact key
  · intro k V2 k0 k1 m1 ih w7 w8
    have hF2 : zFP s1 V2 := zFP.row hF1 (m1 139 (by omega)) (m1 140 (by omega))
    have hB2 : zFB ρ V2 := fun y hy w hw => by rw [m1 (141 + y) (by omega), g1 (141 + y) (by omega) (by omega) (by omega)]; exact hB y hy w hw
    have e2 : ∀ q, q < 139 → V2 q = V q := fun q hq => (m1 q (by omega)).trans (g1 q (by omega) (by omega) (by omega))
    have hP2 : zStP s1 V2 a := hP.ext hx (by omega) (fun q q0 q1 => e2 q (by omega))
    have hC2 : zStC ρ V2 a := hC.rows (fun z z0 z1 => e2 z (by omega))
    have hr2 : zCh s1 V2 r := ⟨by rw [m1 139 (by omega)]; exact r1, r2, r3, r4, r5⟩
    have vn := hC2.1
    have f2 := hF2.1
    have tO := hP2.1
    have hwr := zavW_rng (ρ := ρ) (x := x) k0
    conv => rw [zb_16_1]
    simp (disch := first | assumption | exact zk_16 | ((repeat (first | exact z1n | refine z1I ?_ | refine z1R ?_)); done) | exact rfl | omega | decide) only [r_iconst, r_istore_3i, r_istore_3r, r_istore_3j, r_aload_0, r_aload_1, r_iload_2, r_inv_4_0, r_inv_4_1, r_inv_4_2, r_inv_4_3, r_inv_4_4, r_K0, r_K1, r_dstore_4i, r_dstore_4r, r_dstore_4j, r_istore_6i, r_istore_6r, r_istore_6j, r_goto_w, r_iload_6, r_gf_448, r_icmp_ge, r_dstore_7i, r_dstore_7r, r_dstore_7j, r_dload_7, r_dload_4, r_dcmp, r_if_le, r_iinc_6i, r_iinc_6r, r_iinc_6j, r_goto, r_iload_3, r_iret, r_bret_0, r_bret_1, vn, ↓reduceIte, not_true_eq_false, not_false_eq_true, Int.reduceEq, Int.reduceLE, Int.reduceLT, Int.reduceAdd, Int.reduceNeg, Int.reduceMul, Int.reduceSub, Int.reduceToNat]
    rw [if_neg (by omega)]
    refine c_chanceM (by omega) hF2 hB2 hP2 hC2 hW ha hr2 x0 x1 ⟨by omega, by omega⟩ (fun V3 b1 => ?_)
    have := ih V3 (fun q hq => (b1 q hq).trans (m1 q hq)) (.double (zavS ρ k x (zTwo ρ.n))) zJ
    have hcr := zcl_rng (FP.dcmp (zavS ρ k x (zTwo ρ.n)) (zavW ρ x k).2)
    rw [zavW_s (by omega)] at this
    generalize zavW ρ x k = W at this hwr hcr
    obtain ⟨wb, wm⟩ := W
    dsimp only at this hwr hcr ⊢
    by_cases q : 0 < zcl (FP.dcmp (zavS ρ k x (zTwo ρ.n)) wm)
    · rw [if_pos q] at this
      dsimp only at this
      generalize zavS ρ k x (zTwo ρ.n) = S at this q hcr
      simp (disch := first | assumption | exact zk_16 | ((repeat (first | exact z1n | refine z1I ?_ | refine z1R ?_)); done) | exact rfl | omega | decide) only [zb_16_2, r_iconst, r_istore_3i, r_istore_3r, r_istore_3j, r_aload_0, r_aload_1, r_iload_2, r_inv_4_0, r_inv_4_1, r_inv_4_2, r_inv_4_3, r_inv_4_4, r_K0, r_K1, r_dstore_4i, r_dstore_4r, r_dstore_4j, r_istore_6i, r_istore_6r, r_istore_6j, r_goto_w, r_iload_6, r_gf_448, r_icmp_ge, r_dstore_7i, r_dstore_7r, r_dstore_7j, r_dload_7, r_dload_4, r_dcmp, r_if_le, r_iinc_6i, r_iinc_6r, r_iinc_6j, r_goto, r_iload_3, r_iret, r_bret_0, r_bret_1, zcl_eq, ↓reduceIte, not_true_eq_false, not_false_eq_true, Int.reduceEq, Int.reduceLE, Int.reduceLT, Int.reduceAdd, Int.reduceNeg, Int.reduceMul, Int.reduceSub, Int.reduceToNat]
      rw [if_neg (by omega)]
      exact this
    · rw [if_neg q] at this
      dsimp only at this
      generalize zavS ρ k x (zTwo ρ.n) = S at this q hcr
      simp (disch := first | assumption | exact zk_16 | ((repeat (first | exact z1n | refine z1I ?_ | refine z1R ?_)); done) | exact rfl | omega | decide) only [zb_16_2, r_iconst, r_istore_3i, r_istore_3r, r_istore_3j, r_aload_0, r_aload_1, r_iload_2, r_inv_4_0, r_inv_4_1, r_inv_4_2, r_inv_4_3, r_inv_4_4, r_K0, r_K1, r_dstore_4i, r_dstore_4r, r_dstore_4j, r_istore_6i, r_istore_6r, r_istore_6j, r_goto_w, r_iload_6, r_gf_448, r_icmp_ge, r_dstore_7i, r_dstore_7r, r_dstore_7j, r_dload_7, r_dload_4, r_dcmp, r_if_le, r_iinc_6i, r_iinc_6r, r_iinc_6j, r_goto, r_iload_3, r_iret, r_bret_0, r_bret_1, zcl_eq, ↓reduceIte, not_true_eq_false, not_false_eq_true, Int.reduceEq, Int.reduceLE, Int.reduceLT, Int.reduceAdd, Int.reduceNeg, Int.reduceMul, Int.reduceSub, Int.reduceToNat]
      rw [if_pos (by omega)]
      exact this
  · intro V2 m1 w7 w8
    have e2 : ∀ q, q < 192 → q ≠ 139 → q ≠ 154 → V2 q = V q := fun q h1 h2 h3 => (m1 q (by omega)).trans (g1 q h1 h2 h3)
    have hC2 : zStC ρ V2 a := hC.rows (fun z z0 z1 => e2 z (by omega) (by omega) (by omega))
    have hP2 : zStP s1 V2 a := hP.ext hx (by omega) (fun q q0 q1 => e2 q (by omega) (by omega) (by omega))
    have vn := hC2.1
    have tO := hP2.1
    have hwr := zavW_rng (ρ := ρ) (x := x) (k := ρ.n) (by omega)
    have := hQ s1 V2 hx e2 (zFP.row hF1 (m1 139 (by omega)) (m1 140 (by omega))) ⟨r, by rw [m1 139 (by omega)]; exact r1, r2, r3, r4, Or.inr r5⟩
    simp (disch := first | assumption | exact zk_16 | ((repeat (first | exact z1n | refine z1I ?_ | refine z1R ?_)); done) | exact rfl | omega | decide) only [zb_16_1, zb_16_3, r_iconst, r_istore_3i, r_istore_3r, r_istore_3j, r_aload_0, r_aload_1, r_iload_2, r_inv_4_0, r_inv_4_1, r_inv_4_2, r_inv_4_3, r_inv_4_4, r_K0, r_K1, r_dstore_4i, r_dstore_4r, r_dstore_4j, r_istore_6i, r_istore_6r, r_istore_6j, r_goto_w, r_iload_6, r_gf_448, r_icmp_ge, r_dstore_7i, r_dstore_7r, r_dstore_7j, r_dload_7, r_dload_4, r_dcmp, r_if_le, r_iinc_6i, r_iinc_6r, r_iinc_6j, r_goto, r_iload_3, r_iret, r_bret_0, r_bret_1, vn, Int.le_refl, ↓reduceIte, not_true_eq_false, not_false_eq_true, Int.reduceEq, Int.reduceLE, Int.reduceLT, Int.reduceAdd, Int.reduceNeg, Int.reduceMul, Int.reduceSub, Int.reduceToNat]
    exact this
set_option maxRecDepth 20000 in
theorem m_available (hd : 2 ≤ d) (hM : zMP s V) (hC : zMC ρ V) (hW : zWF ρ) {x pf : Int} (hp : zI32 pf) (hF : zMF ρ x V) : zcall d 256 [.ref 164, zi pf] (s, V) Q = Q (.inl (some (.double (zavS ρ pf x (zTwo ρ.n))))) (s, V) := by
  obtain ⟨n0, n1, c0, c1⟩ := hW.1
  obtain ⟨p1, p2⟩ := hp
  have hw := zTwo_rng n1
  have tM := hM.1
  have vm_s : V 164 0 = .ref 165 := (hM.2 0 (by decide)).1
  have tm_s : s.tg 165 = 20 := (hM.2 0 (by decide)).2.1
  have lm_s : s.ln 165 = 230 := (hM.2 0 (by decide)).2.2
  have vm_isFailing : V 164 39 = .ref 189 := (hM.2 24 (by decide)).1
  have tm_isFailing : s.tg 189 = 23 := (hM.2 24 (by decide)).2.1
  have lm_isFailing : s.ln 189 = 4096 := (hM.2 24 (by decide)).2.2
  have gn := hC.1
  obtain ⟨d, rfl⟩ : ∃ e, d = e + 1 := ⟨d - 1, by omega⟩
  simp (disch := first | assumption | omega) only [zc_256]
  simp (disch := first | assumption | exact zk_256 | ((repeat (first | exact z1n | refine z1I ?_ | refine z1R ?_)); done) | exact rfl | omega | decide) only [zb_256_0, r_dconst, r_dstore_2i, r_dstore_2r, r_dstore_2j, r_iconst, r_istore_4i, r_istore_4r, r_istore_4j, r_goto_w, r_iload_4, r_aload_0, r_gf_640, r_ial, r_ial30, r_ial32, r_ishl, r_icmp_ge, r_gf_679, r_baload, r_if_ne, r_dstore_5i, r_dstore_5r, r_dstore_5j, r_istore_7i, r_istore_7r, r_istore_7j, r_iload_7, r_iload_1, r_icmp_ne, r_goto, r_inv_3_0, r_inv_3_1, r_inv_3_2, r_inv_3_3, r_inv_3_4, r_K0, r_K1, r_istore_8i, r_istore_8r, r_istore_8j, r_dload_5, r_ishr, r_iand, r_iload_8, r_i2d, r_ddiv, r_isub, r_dmul, r_iinc_7i, r_iinc_7r, r_iinc_7j, r_dload_2, r_dadd, r_iinc_4i, r_iinc_4r, r_iinc_4j, r_dreturn, vm_s, vm_isFailing, z0d_eq, ↓reduceIte, not_true_eq_false, not_false_eq_true, Int.reduceEq, Int.reduceLE, Int.reduceLT, Int.reduceAdd, Int.reduceNeg, Int.reduceMul, Int.reduceSub, Int.reduceToNat]
  have step : ∀ (m : Nat) (k : Int), k + m = zTwo ρ.n → 0 ≤ k → ∀ w5 w6 w7 w8, zwp (zcall d) 256 Q (zB 256 1) [.ref 164, zi pf, .double (zavS ρ pf x k), zJ, zi k, w5, w6, w7, w8] [] (s, V) = Q (.inl (some (.double (zavS ρ pf x (zTwo ρ.n))))) (s, V) := by
    intro m
    induction m with
    | zero =>
      intro k hk k0 w5 w6 w7 w8
      have hk : k = zTwo ρ.n := by omega
      subst hk
      simp (disch := first | assumption | exact zk_256 | ((repeat (first | exact z1n | refine z1I ?_ | refine z1R ?_)); done) | exact rfl | omega | decide) only [zb_256_1, zb_256_9, r_dconst, r_dstore_2i, r_dstore_2r, r_dstore_2j, r_iconst, r_istore_4i, r_istore_4r, r_istore_4j, r_goto_w, r_iload_4, r_aload_0, r_gf_640, r_ial, r_ial30, r_ial32, r_ishl, r_icmp_ge, r_gf_679, r_baload, r_if_ne, r_dstore_5i, r_dstore_5r, r_dstore_5j, r_istore_7i, r_istore_7r, r_istore_7j, r_iload_7, r_iload_1, r_icmp_ne, r_goto, r_inv_3_0, r_inv_3_1, r_inv_3_2, r_inv_3_3, r_inv_3_4, r_K0, r_K1, r_istore_8i, r_istore_8r, r_istore_8j, r_dload_5, r_ishr, r_iand, r_iload_8, r_i2d, r_ddiv, r_isub, r_dmul, r_iinc_7i, r_iinc_7r, r_iinc_7j, r_dload_2, r_dadd, r_iinc_4i, r_iinc_4r, r_iinc_4j, r_dreturn, vm_s, vm_isFailing, gn, zshl_two, Int.le_refl, ↓reduceIte, not_true_eq_false, not_false_eq_true, Int.reduceEq, Int.reduceLE, Int.reduceLT, Int.reduceAdd, Int.reduceNeg, Int.reduceMul, Int.reduceSub, Int.reduceToNat]
    | succ m ih =>
      intro k hk k0 w5 w6 w7 w8
      obtain ⟨v, rfl⟩ : ∃ v : Nat, k = v := ⟨k.toNat, by omega⟩
      have hv2 : v < 2 ^ ρ.n.toNat := by unfold zTwo at hk; omega
      have ih := ih ((v : Int) + 1) (by omega) (by omega)
      rw [zavS_s k0, Int.toNat_natCast] at ih
      have ev := hF v hv2
      conv => lhs; rw [zb_256_1]
      by_cases q : zin (zFail ρ v) x = true
      · rw [if_pos q] at ih
        rw [q, show zb1 true = 1 from rfl] at ev
        simp (disch := first | assumption | exact zk_256 | ((repeat (first | exact z1n | refine z1I ?_ | refine z1R ?_)); done) | exact rfl | omega | decide) only [zb_256_8, r_dconst, r_dstore_2i, r_dstore_2r, r_dstore_2j, r_iconst, r_istore_4i, r_istore_4r, r_istore_4j, r_goto_w, r_iload_4, r_aload_0, r_gf_640, r_ial, r_ial30, r_ial32, r_ishl, r_icmp_ge, r_gf_679, r_baload, r_if_ne, r_dstore_5i, r_dstore_5r, r_dstore_5j, r_istore_7i, r_istore_7r, r_istore_7j, r_iload_7, r_iload_1, r_icmp_ne, r_goto, r_inv_3_0, r_inv_3_1, r_inv_3_2, r_inv_3_3, r_inv_3_4, r_K0, r_K1, r_istore_8i, r_istore_8r, r_istore_8j, r_dload_5, r_ishr, r_iand, r_iload_8, r_i2d, r_ddiv, r_isub, r_dmul, r_iinc_7i, r_iinc_7r, r_iinc_7j, r_dload_2, r_dadd, r_iinc_4i, r_iinc_4r, r_iinc_4j, r_dreturn, vm_s, vm_isFailing, gn, zshl_two, ev, ih, ↓reduceIte, not_true_eq_false, not_false_eq_true, Int.reduceEq, Int.reduceLE, Int.reduceLT, Int.reduceAdd, Int.reduceNeg, Int.reduceMul, Int.reduceSub, Int.reduceToNat]
        rw [if_neg (by omega)]
      · rw [if_neg q] at ih
        have q : zin (zFail ρ v) x = false := by simpa using q
        rw [q, show zb1 false = 0 from rfl] at ev
        have hn := zavS_nn hW (pf := pf) hv2 q
        generalize zavS ρ pf x v = S at hn ih
        have inner := z_down (P := fun y => ∀ w8, zwp (zcall d) 256 Q (zB 256 2) [.ref 164, zi pf, .double S, zJ, zi v, .double (zavP ρ pf v y), zJ, zi y, w8] [] (s, V) = Q (.inl (some (.double (zavS ρ pf x (zTwo ρ.n))))) (s, V)) n0 (fun w8 => by
          have ih2 := ih (.double (zavP ρ pf v ρ.n)) zJ (zi ρ.n) w8
          generalize zavP ρ pf v ρ.n = P at hn ih2
          simp (disch := first | assumption | exact zk_256 | ((repeat (first | exact z1n | refine z1I ?_ | refine z1R ?_)); done) | exact rfl | omega | decide) only [zb_256_2, zb_256_7, zb_256_8, r_dconst, r_dstore_2i, r_dstore_2r, r_dstore_2j, r_iconst, r_istore_4i, r_istore_4r, r_istore_4j, r_goto_w, r_iload_4, r_aload_0, r_gf_640, r_ial, r_ial30, r_ial32, r_ishl, r_icmp_ge, r_gf_679, r_baload, r_if_ne, r_dstore_5i, r_dstore_5r, r_dstore_5j, r_istore_7i, r_istore_7r, r_istore_7j, r_iload_7, r_iload_1, r_icmp_ne, r_goto, r_inv_3_0, r_inv_3_1, r_inv_3_2, r_inv_3_3, r_inv_3_4, r_K0, r_K1, r_istore_8i, r_istore_8r, r_istore_8j, r_dload_5, r_ishr, r_iand, r_iload_8, r_i2d, r_ddiv, r_isub, r_dmul, r_iinc_7i, r_iinc_7r, r_iinc_7j, r_dload_2, r_dadd, r_iinc_4i, r_iinc_4r, r_iinc_4j, r_dreturn, vm_s, vm_isFailing, gn, Int.le_refl, ↓reduceIte, not_true_eq_false, not_false_eq_true, Int.reduceEq, Int.reduceLE, Int.reduceLT, Int.reduceAdd, Int.reduceNeg, Int.reduceMul, Int.reduceSub, Int.reduceToNat]
          exact ih2) (fun y y0 y1 ihy => by
          have hi := zavI_rng hW (pf := pf) y0 y1
          have hid : zavI ρ pf y = if y = pf then 1000 else ρ.S 5 y := rfl
          have hh := zhas (a := v) (x := y) (by omega) y0 (by omega)
          have d1 := zavP_nn hW (pf := pf) (v := v) y0 y1
          have m1 := zFc_nn (n := zavI ρ pf y) hi.1 hi.2
          have m2 := zFc_nn (n := 1000 - zavI ρ pf y) (by omega) (by omega)
          have hnv : zavN ρ pf v y = if zin v y = true then 1000 - zavI ρ pf y else zavI ρ pf y := rfl
          generalize hP : zavP ρ pf v y = P at d1
          generalize hI : zavI ρ pf y = I at hi hid m1 m2 hnv
          have tail : ∀ w8, zwp (zcall d) 256 Q (zB 256 4) [.ref 164, zi pf, .double S, zJ, zi v, .double P, zJ, zi y, w8] [zi I] (s, V) = zwp (zcall d) 256 Q (zB 256 2) [.ref 164, zi pf, .double S, zJ, zi v, .double (FP.dmul P (zFc (zavN ρ pf v y))), zJ, zi (y + 1), zi I] [] (s, V) := by
            intro w8
            by_cases c : zin v y = true
            · rw [if_pos c] at hh hnv
              rw [hnv] at d1 ⊢
              conv => lhs; rw [zb_256_4]
              simp (disch := first | assumption | exact zk_256 | ((repeat (first | exact z1n | refine z1I ?_ | refine z1R ?_)); done) | exact rfl | omega | decide) only [zb_256_5, zb_256_6, r_dconst, r_dstore_2i, r_dstore_2r, r_dstore_2j, r_iconst, r_istore_4i, r_istore_4r, r_istore_4j, r_goto_w, r_iload_4, r_aload_0, r_gf_640, r_ial, r_ial30, r_ial32, r_ishl, r_icmp_ge, r_gf_679, r_baload, r_if_ne, r_dstore_5i, r_dstore_5r, r_dstore_5j, r_istore_7i, r_istore_7r, r_istore_7j, r_iload_7, r_iload_1, r_icmp_ne, r_goto, r_inv_3_0, r_inv_3_1, r_inv_3_2, r_inv_3_3, r_inv_3_4, r_K0, r_K1, r_istore_8i, r_istore_8r, r_istore_8j, r_dload_5, r_ishr, r_iand, r_iload_8, r_i2d, r_ddiv, r_isub, r_dmul, r_iinc_7i, r_iinc_7r, r_iinc_7j, r_dload_2, r_dadd, r_iinc_4i, r_iinc_4r, r_iinc_4j, r_dreturn, vm_s, vm_isFailing, hh, zK3_eq, zFc_eq, ↓reduceIte, not_true_eq_false, not_false_eq_true, Int.reduceEq, Int.reduceLE, Int.reduceLT, Int.reduceAdd, Int.reduceNeg, Int.reduceMul, Int.reduceSub, Int.reduceToNat]
            · rw [if_neg c] at hh hnv
              rw [hnv] at d1 ⊢
              conv => lhs; rw [zb_256_4]
              simp (disch := first | assumption | exact zk_256 | ((repeat (first | exact z1n | refine z1I ?_ | refine z1R ?_)); done) | exact rfl | omega | decide) only [zb_256_5, zb_256_6, r_dconst, r_dstore_2i, r_dstore_2r, r_dstore_2j, r_iconst, r_istore_4i, r_istore_4r, r_istore_4j, r_goto_w, r_iload_4, r_aload_0, r_gf_640, r_ial, r_ial30, r_ial32, r_ishl, r_icmp_ge, r_gf_679, r_baload, r_if_ne, r_dstore_5i, r_dstore_5r, r_dstore_5j, r_istore_7i, r_istore_7r, r_istore_7j, r_iload_7, r_iload_1, r_icmp_ne, r_goto, r_inv_3_0, r_inv_3_1, r_inv_3_2, r_inv_3_3, r_inv_3_4, r_K0, r_K1, r_istore_8i, r_istore_8r, r_istore_8j, r_dload_5, r_ishr, r_iand, r_iload_8, r_i2d, r_ddiv, r_isub, r_dmul, r_iinc_7i, r_iinc_7r, r_iinc_7j, r_dload_2, r_dadd, r_iinc_4i, r_iinc_4r, r_iinc_4j, r_dreturn, vm_s, vm_isFailing, hh, zK3_eq, zFc_eq, ↓reduceIte, not_true_eq_false, not_false_eq_true, Int.reduceEq, Int.reduceLE, Int.reduceLT, Int.reduceAdd, Int.reduceNeg, Int.reduceMul, Int.reduceSub, Int.reduceToNat]
          have head : ∀ w8, zwp (zcall d) 256 Q (zB 256 2) [.ref 164, zi pf, .double S, zJ, zi v, .double P, zJ, zi y, w8] [] (s, V) = zwp (zcall d) 256 Q (zB 256 4) [.ref 164, zi pf, .double S, zJ, zi v, .double P, zJ, zi y, w8] [zi I] (s, V) := by
            intro w8
            conv => lhs; rw [zb_256_2]
            by_cases c : y = pf
            · rw [if_pos c] at hid
              rw [hid]
              subst c
              simp (disch := first | assumption | exact zk_256 | ((repeat (first | exact z1n | refine z1I ?_ | refine z1R ?_)); done) | exact rfl | omega | decide) only [r_dconst, r_dstore_2i, r_dstore_2r, r_dstore_2j, r_iconst, r_istore_4i, r_istore_4r, r_istore_4j, r_goto_w, r_iload_4, r_aload_0, r_gf_640, r_ial, r_ial30, r_ial32, r_ishl, r_icmp_ge, r_gf_679, r_baload, r_if_ne, r_dstore_5i, r_dstore_5r, r_dstore_5j, r_istore_7i, r_istore_7r, r_istore_7j, r_iload_7, r_iload_1, r_icmp_ne, r_goto, r_inv_3_0, r_inv_3_1, r_inv_3_2, r_inv_3_3, r_inv_3_4, r_K0, r_K1, r_istore_8i, r_istore_8r, r_istore_8j, r_dload_5, r_ishr, r_iand, r_iload_8, r_i2d, r_ddiv, r_isub, r_dmul, r_iinc_7i, r_iinc_7r, r_iinc_7j, r_dload_2, r_dadd, r_iinc_4i, r_iinc_4r, r_iinc_4j, r_dreturn, vm_s, vm_isFailing, gn, ↓reduceIte, not_true_eq_false, not_false_eq_true, Int.reduceEq, Int.reduceLE, Int.reduceLT, Int.reduceAdd, Int.reduceNeg, Int.reduceMul, Int.reduceSub, Int.reduceToNat]
              rw [if_neg (by omega)]
            · rw [if_neg c] at hid
              rw [hid]
              simp (disch := first | assumption | exact zk_256 | ((repeat (first | exact z1n | refine z1I ?_ | refine z1R ?_)); done) | exact rfl | omega | decide) only [zb_256_3, r_dconst, r_dstore_2i, r_dstore_2r, r_dstore_2j, r_iconst, r_istore_4i, r_istore_4r, r_istore_4j, r_goto_w, r_iload_4, r_aload_0, r_gf_640, r_ial, r_ial30, r_ial32, r_ishl, r_icmp_ge, r_gf_679, r_baload, r_if_ne, r_dstore_5i, r_dstore_5r, r_dstore_5j, r_istore_7i, r_istore_7r, r_istore_7j, r_iload_7, r_iload_1, r_icmp_ne, r_goto, r_inv_3_0, r_inv_3_1, r_inv_3_2, r_inv_3_3, r_inv_3_4, r_K0, r_K1, r_istore_8i, r_istore_8r, r_istore_8j, r_dload_5, r_ishr, r_iand, r_iload_8, r_i2d, r_ddiv, r_isub, r_dmul, r_iinc_7i, r_iinc_7r, r_iinc_7j, r_dload_2, r_dadd, r_iinc_4i, r_iinc_4r, r_iinc_4j, r_dreturn, vm_s, vm_isFailing, gn, c, m_of (hC := hC), ↓reduceIte, not_true_eq_false, not_false_eq_true, Int.reduceEq, Int.reduceLE, Int.reduceLT, Int.reduceAdd, Int.reduceNeg, Int.reduceMul, Int.reduceSub, Int.reduceToNat]
              rw [if_neg (by omega)]
          intro w8
          rw [zavP_s y0, hP] at ihy
          rw [head, tail]
          exact ihy (zi I))
        have i0 := inner w8
        rw [show zavP ρ pf v 0 = z1d from rfl] at i0
        simp (disch := first | assumption | exact zk_256 | ((repeat (first | exact z1n | refine z1I ?_ | refine z1R ?_)); done) | exact rfl | omega | decide) only [r_dconst, r_dstore_2i, r_dstore_2r, r_dstore_2j, r_iconst, r_istore_4i, r_istore_4r, r_istore_4j, r_goto_w, r_iload_4, r_aload_0, r_gf_640, r_ial, r_ial30, r_ial32, r_ishl, r_icmp_ge, r_gf_679, r_baload, r_if_ne, r_dstore_5i, r_dstore_5r, r_dstore_5j, r_istore_7i, r_istore_7r, r_istore_7j, r_iload_7, r_iload_1, r_icmp_ne, r_goto, r_inv_3_0, r_inv_3_1, r_inv_3_2, r_inv_3_3, r_inv_3_4, r_K0, r_K1, r_istore_8i, r_istore_8r, r_istore_8j, r_dload_5, r_ishr, r_iand, r_iload_8, r_i2d, r_ddiv, r_isub, r_dmul, r_iinc_7i, r_iinc_7r, r_iinc_7j, r_dload_2, r_dadd, r_iinc_4i, r_iinc_4r, r_iinc_4j, r_dreturn, vm_s, vm_isFailing, gn, zshl_two, ev, z1d_eq, ↓reduceIte, not_true_eq_false, not_false_eq_true, Int.reduceEq, Int.reduceLE, Int.reduceLT, Int.reduceAdd, Int.reduceNeg, Int.reduceMul, Int.reduceSub, Int.reduceToNat]
        rw [if_neg (by omega)]
        exact i0
  exact step (zTwo ρ.n).toNat 0 (by omega) (Int.le_refl _) zJ zJ zJ zJ
set_option maxRecDepth 20000 in
theorem m_availFin (hd : 3 ≤ d) (hM : zMP s V) (hC : zMC ρ V) (hW : zWF ρ) {x : Int} (x0 : 0 ≤ x) (x1 : x < ρ.n) (hF : zMF ρ x V) (hQ : zMP s V → Q (.inl (some (zi (zavW ρ x ρ.n).1))) (s, zput V 164 6 (zi 0))) : zwp (zcall d) 258 Q (zB 258 2) [.ref 164, zi x, zi (-1), .double z0d, zJ, zi 0, zJ, zJ] [] (s, V) := by
  obtain ⟨n0, n1, c0, c1⟩ := hW.1
  have tM := hM.1
  have vm_s : V 164 0 = .ref 165 := (hM.2 0 (by decide)).1
  have tm_s : s.tg 165 = 20 := (hM.2 0 (by decide)).2.1
  have lm_s : s.ln 165 = 230 := (hM.2 0 (by decide)).2.2
  have gn := hC.1
  have hav := fun pf (h : zI32 pf) K => m_available (Q := K) (d := d) (by omega) hM hC hW h hF
  have lo := z_iter (i := 1) (n := ρ.n) (I := fun _ (_ : Unit) => True) (P := fun k _ => ∀ w6, zwp (zcall d) 258 Q (zB 258 2) [.ref 164, zi x, zi (zavW ρ x k).1, .double (zavW ρ x k).2, zJ, zi k, w6, zJ] [] (s, V)) (by omega)
  have key := lo ?_ ?_ () trivial (.double (zavS ρ 0 x (zTwo ρ.n)))
  · rw [zavW_1 hW] at key
    dsimp only at key
    have h0 := hav 0 ⟨by omega, by omega⟩
    generalize zavS ρ 0 x (zTwo ρ.n) = S at h0 key
    conv => rw [zb_258_2]
    simp (disch := first | assumption | exact zk_258 | ((repeat (first | exact z1n | refine z1I ?_ | refine z1R ?_)); done) | exact rfl | omega | decide) only [zb_258_3, zb_258_4, r_aload_0, r_iload_1, r_inv_2_0, r_inv_2_1, r_inv_2_2, r_inv_2_3, r_inv_2_4, r_K0, r_K1, r_if_ne, r_iconst, r_iret, r_bret_0, r_bret_1, r_istore_2i, r_istore_2r, r_istore_2j, r_dconst, r_dstore_3i, r_dstore_3r, r_dstore_3j, r_istore_5i, r_istore_5r, r_istore_5j, r_goto_w, r_iload_5, r_gf_640, r_ial, r_ial30, r_ial32, r_icmp_ge, r_dstore_6i, r_dstore_6r, r_dstore_6j, r_iload_2, r_icmp_eq, r_dload_6, r_dload_3, r_dcmp, r_if_le, r_iinc_5i, r_iinc_5r, r_iinc_5j, r_goto, vm_s, gn, h0, ↓reduceIte, not_true_eq_false, not_false_eq_true, Int.reduceEq, Int.reduceLE, Int.reduceLT, Int.reduceAdd, Int.reduceNeg, Int.reduceMul, Int.reduceSub, Int.reduceToNat]
    rw [if_neg (by omega)]
    exact key
  · intro k _ k0 k1 _ ih w6
    have hk := hav k ⟨by omega, by omega⟩
    have := ih () trivial (.double (zavS ρ k x (zTwo ρ.n)))
    have hwr := zavW_rng (ρ := ρ) (x := x) k0
    have hcr := zcl_rng (FP.dcmp (zavS ρ k x (zTwo ρ.n)) (zavW ρ x k).2)
    rw [zavW_s (by omega)] at this
    generalize zavW ρ x k = W at this hwr hcr
    obtain ⟨wb, wm⟩ := W
    dsimp only at this hwr hcr ⊢
    have wne : ¬ wb = -1 := by omega
    conv => rw [zb_258_2]
    by_cases q : 0 < zcl (FP.dcmp (zavS ρ k x (zTwo ρ.n)) wm)
    · rw [if_pos q] at this
      dsimp only at this
      generalize zavS ρ k x (zTwo ρ.n) = S at this q hcr hk
      simp (disch := first | assumption | exact zk_258 | ((repeat (first | exact z1n | refine z1I ?_ | refine z1R ?_)); done) | exact rfl | omega | decide) only [zb_258_3, zb_258_4, r_aload_0, r_iload_1, r_inv_2_0, r_inv_2_1, r_inv_2_2, r_inv_2_3, r_inv_2_4, r_K0, r_K1, r_if_ne, r_iconst, r_iret, r_bret_0, r_bret_1, r_istore_2i, r_istore_2r, r_istore_2j, r_dconst, r_dstore_3i, r_dstore_3r, r_dstore_3j, r_istore_5i, r_istore_5r, r_istore_5j, r_goto_w, r_iload_5, r_gf_640, r_ial, r_ial30, r_ial32, r_icmp_ge, r_dstore_6i, r_dstore_6r, r_dstore_6j, r_iload_2, r_icmp_eq, r_dload_6, r_dload_3, r_dcmp, r_if_le, r_iinc_5i, r_iinc_5r, r_iinc_5j, r_goto, vm_s, gn, hk, zcl_eq, wne, ↓reduceIte, not_true_eq_false, not_false_eq_true, Int.reduceEq, Int.reduceLE, Int.reduceLT, Int.reduceAdd, Int.reduceNeg, Int.reduceMul, Int.reduceSub, Int.reduceToNat]
      rw [if_neg (by omega), if_neg (by omega)]
      exact this
    · rw [if_neg q] at this
      dsimp only at this
      generalize zavS ρ k x (zTwo ρ.n) = S at this q hcr hk
      simp (disch := first | assumption | exact zk_258 | ((repeat (first | exact z1n | refine z1I ?_ | refine z1R ?_)); done) | exact rfl | omega | decide) only [zb_258_3, zb_258_4, r_aload_0, r_iload_1, r_inv_2_0, r_inv_2_1, r_inv_2_2, r_inv_2_3, r_inv_2_4, r_K0, r_K1, r_if_ne, r_iconst, r_iret, r_bret_0, r_bret_1, r_istore_2i, r_istore_2r, r_istore_2j, r_dconst, r_dstore_3i, r_dstore_3r, r_dstore_3j, r_istore_5i, r_istore_5r, r_istore_5j, r_goto_w, r_iload_5, r_gf_640, r_ial, r_ial30, r_ial32, r_icmp_ge, r_dstore_6i, r_dstore_6r, r_dstore_6j, r_iload_2, r_icmp_eq, r_dload_6, r_dload_3, r_dcmp, r_if_le, r_iinc_5i, r_iinc_5r, r_iinc_5j, r_goto, vm_s, gn, hk, zcl_eq, wne, ↓reduceIte, not_true_eq_false, not_false_eq_true, Int.reduceEq, Int.reduceLE, Int.reduceLT, Int.reduceAdd, Int.reduceNeg, Int.reduceMul, Int.reduceSub, Int.reduceToNat]
      rw [if_neg (by omega), if_pos (by omega)]
      exact this
  · intro _ _ w6
    have hwr := zavW_rng (ρ := ρ) (x := x) (k := ρ.n) (by omega)
    have := hQ hM
    simp (disch := first | assumption | exact zk_258 | ((repeat (first | exact z1n | refine z1I ?_ | refine z1R ?_)); done) | exact rfl | omega | decide) only [zb_258_2, zb_258_5, r_aload_0, r_iload_1, r_inv_2_0, r_inv_2_1, r_inv_2_2, r_inv_2_3, r_inv_2_4, r_K0, r_K1, r_if_ne, r_iconst, r_iret, r_bret_0, r_bret_1, r_istore_2i, r_istore_2r, r_istore_2j, r_dconst, r_dstore_3i, r_dstore_3r, r_dstore_3j, r_istore_5i, r_istore_5r, r_istore_5j, r_goto_w, r_iload_5, r_gf_640, r_ial, r_ial30, r_ial32, r_icmp_ge, r_dstore_6i, r_dstore_6r, r_dstore_6j, r_iload_2, r_icmp_eq, r_dload_6, r_dload_3, r_dcmp, r_if_le, r_iinc_5i, r_iinc_5r, r_iinc_5j, r_goto, vm_s, gn, Int.le_refl, m_tells, ↓reduceIte, not_true_eq_false, not_false_eq_true, Int.reduceEq, Int.reduceLE, Int.reduceLT, Int.reduceAdd, Int.reduceNeg, Int.reduceMul, Int.reduceSub, Int.reduceToNat]
    exact this
end
