/-! CHAINS AND BOUNDS, in both -/
section
variable {d : Nat} {s : zS} {V : zV} {Q : zO → zH → Prop} {a : Nat} {ρ : zR} {h : zH}
set_option maxRecDepth 20000 in
theorem c_max (hd : 1 ≤ d) {x y : Int} (hx : zI32 x) (hy : zI32 y) : zcall d 300 [zi x, zi y] h Q = Q (.inl (some (zi (if x < y then y else x)))) h := by
  obtain ⟨x1, x2⟩ := hx
  obtain ⟨y1, y2⟩ := hy
  obtain ⟨d, rfl⟩ : ∃ e, d = e + 1 := ⟨d - 1, by omega⟩
  simp (disch := first | assumption | omega) only [zc_300]
  simp (disch := first | assumption | exact zk_300 | ((repeat (first | exact z1n | refine z1I ?_ | refine z1R ?_)); done) | exact rfl | omega | decide) only [zb_300_0, zb_300_1, zb_300_2, r_iload_0, r_iload_1, r_icmp_lt, r_goto, r_goto_w, r_iret, r_bret_0, r_bret_1, ↓reduceIte, not_true_eq_false, not_false_eq_true, Int.reduceEq, Int.reduceLE, Int.reduceLT, Int.reduceAdd, Int.reduceNeg, Int.reduceMul, Int.reduceSub, Int.reduceToNat]
  (repeat' split) <;> first | rfl | (exfalso; omega) | (exfalso; grind)
set_option maxRecDepth 20000 in
theorem c_min (hd : 1 ≤ d) {x y : Int} (hx : zI32 x) (hy : zI32 y) : zcall d 301 [zi x, zi y] h Q = Q (.inl (some (zi (if x < y then x else y)))) h := by
  obtain ⟨x1, x2⟩ := hx
  obtain ⟨y1, y2⟩ := hy
  obtain ⟨d, rfl⟩ : ∃ e, d = e + 1 := ⟨d - 1, by omega⟩
  simp (disch := first | assumption | omega) only [zc_301]
  simp (disch := first | assumption | exact zk_301 | ((repeat (first | exact z1n | refine z1I ?_ | refine z1R ?_)); done) | exact rfl | omega | decide) only [zb_301_0, zb_301_1, zb_301_2, r_iload_0, r_iload_1, r_icmp_gt, r_goto, r_goto_w, r_iret, r_bret_0, r_bret_1, ↓reduceIte, not_true_eq_false, not_false_eq_true, Int.reduceEq, Int.reduceLE, Int.reduceLT, Int.reduceAdd, Int.reduceNeg, Int.reduceMul, Int.reduceSub, Int.reduceToNat]
  rcases Int.lt_trichotomy x y with e | e | e
  · rw [if_neg (by omega), if_pos e]
  · rw [if_neg (by omega), if_neg (by omega), e]
  · rw [if_pos (by omega), if_neg (by omega)]
/-- a row that holds A at the callees of x -/
def zCee (ρ : zR) (V : zV) (r : Nat) (A : Int → Int) (x : Int) : Prop := ∀ k, 0 ≤ k → k < ρ.c → ρ.K 0 k = x → V r (ρ.K 1 k) = zi (A (ρ.K 1 k))
set_option maxRecDepth 20000 in
theorem c_chainOf (hd : 2 ≤ d) (hG : zGP s V) (hP : zStP s V a) (hC : zStC ρ V a) (hW : zWF ρ) {x : Int} (x0 : 0 ≤ x) (x1 : x < ρ.n) {A : Int → Int} (hA : ∀ y, 0 ≤ A y ∧ A y ≤ 1000) (hv : zCee ρ V 119 A x) : zcall d 24 [.ref 116, .ref a, zi x] (s, V) Q = Q (.inl (some (zi (zChO ρ A x)))) (s, V) := by
  obtain ⟨n0, n1, c0, c1⟩ := hW.1
  obtain ⟨g1, ⟨-, -, g2, -⟩, ⟨-, -, g3, -⟩, -, -, g4, -⟩ := hG
  have tO := hP.1
  have vB := hP.2.2.2.2.1
  have tB := hP.2.2.2.2.2.1
  have lB := hP.2.2.2.2.2.2.1
  have vn := hC.1
  have vc := hC.2.1
  have vc0 : V (a + 11) 0 = .ref (a + 12) := (hP.2.2.2.2.2.2.2.2 0 (by omega)).1
  have tc0 : s.tg (a + 12) = 20 := (hP.2.2.2.2.2.2.2.2 0 (by omega)).2.1
  have lc0 : s.ln (a + 12) = 24 := (hP.2.2.2.2.2.2.2.2 0 (by omega)).2.2
  have ec0 : ∀ x : Int, 0 ≤ x → x < ρ.c → V (a + 12) x = zi (ρ.K 0 x) := hC.2.2.2.1 0 (by omega)
  have vc1 : V (a + 11) 1 = .ref (a + 13) := (hP.2.2.2.2.2.2.2.2 1 (by omega)).1
  have tc1 : s.tg (a + 13) = 20 := (hP.2.2.2.2.2.2.2.2 1 (by omega)).2.1
  have lc1 : s.ln (a + 13) = 24 := (hP.2.2.2.2.2.2.2.2 1 (by omega)).2.2
  have ec1 : ∀ x : Int, 0 ≤ x → x < ρ.c → V (a + 13) x = zi (ρ.K 1 x) := hC.2.2.2.1 1 (by omega)
  obtain ⟨d, rfl⟩ : ∃ e, d = e + 1 := ⟨d - 1, by omega⟩
  simp (disch := first | assumption | omega) only [zc_24]
  simp (disch := first | assumption | exact zk_24 | ((repeat (first | exact z1n | refine z1I ?_ | refine z1R ?_)); done) | exact rfl | omega | decide) only [zb_24_0, r_iconst, r_istore_3i, r_istore_3r, r_istore_3j, r_istore_4i, r_istore_4r, r_istore_4j, r_goto_w, r_iload_4, r_aload_1, r_gf_449, r_icmp_ge, r_gf_451, r_aaload, r_ial, r_ial30, r_ial32, r_iload_2, r_icmp_ne, r_iload_3, r_aload_0, r_gf_131, r_iadd, r_inv_2_0, r_inv_2_1, r_inv_2_2, r_inv_2_3, r_inv_2_4, r_K0, r_K1, r_iinc_4i, r_iinc_4r, r_iinc_4j, r_goto, r_iret, r_bret_0, r_bret_1, vB, vn, vc, vc0, ec0, vc1, ec1, ↓reduceIte, not_true_eq_false, not_false_eq_true, Int.reduceEq, Int.reduceLE, Int.reduceLT, Int.reduceAdd, Int.reduceNeg, Int.reduceMul, Int.reduceSub, Int.reduceToNat]
  unfold zChO
  refine (z_chainI (F := fun k => zwp (zcall d) 24 Q (zB 24 1) [.ref 116, .ref a, zi x, zi (zfo (fun c m => if ρ.K 0 c = x then (if m < A (ρ.K 1 c) + 1 then A (ρ.K 1 c) + 1 else m) else m) 0 k), zi k] [] (s, V)) c0 (fun k k0 k1 => ?_)).trans ?_
  · have w := hW.2.2.1 k k0 k1
    have hr := zfo_inv (f := fun c m => if ρ.K 0 c = x then (if m < A (ρ.K 1 c) + 1 then A (ρ.K 1 c) + 1 else m) else m) (x := (0 : Int)) (k := k) (fun _ m => 0 ≤ m ∧ m ≤ 1001) ⟨by omega, by omega⟩ (fun j y h1 h2 hy => by have := hA (ρ.K 1 j); split; (split <;> omega); exact hy) k0
    have ha := hA (ρ.K 1 k)
    rw [zfo_s k0]
    generalize zfo (fun c m => if ρ.K 0 c = x then (if m < A (ρ.K 1 c) + 1 then A (ρ.K 1 c) + 1 else m) else m) 0 k = m at hr ⊢
    have i1 : zI32 m := ⟨by omega, by omega⟩
    have i2 : zI32 (1 + A (ρ.K 1 k)) := ⟨by omega, by omega⟩
    conv => lhs; rw [zb_24_1]
    by_cases q : ρ.K 0 k = x
    · have hk := hv k k0 k1 q
      simp (disch := first | assumption | exact zk_24 | ((repeat (first | exact z1n | refine z1I ?_ | refine z1R ?_)); done) | exact rfl | omega | decide) only [zb_24_2, r_iconst, r_istore_3i, r_istore_3r, r_istore_3j, r_istore_4i, r_istore_4r, r_istore_4j, r_goto_w, r_iload_4, r_aload_1, r_gf_449, r_icmp_ge, r_gf_451, r_aaload, r_ial, r_ial30, r_ial32, r_iload_2, r_icmp_ne, r_iload_3, r_aload_0, r_gf_131, r_iadd, r_inv_2_0, r_inv_2_1, r_inv_2_2, r_inv_2_3, r_inv_2_4, r_K0, r_K1, r_iinc_4i, r_iinc_4r, r_iinc_4j, r_goto, r_iret, r_bret_0, r_bret_1, vB, vn, vc, vc0, ec0, vc1, ec1, q, g2, hk, c_max, ↓reduceIte, not_true_eq_false, not_false_eq_true, Int.reduceEq, Int.reduceLE, Int.reduceLT, Int.reduceAdd, Int.reduceNeg, Int.reduceMul, Int.reduceSub, Int.reduceToNat]
      rw [if_neg (by omega), Int.add_comm 1]
    · simp (disch := first | assumption | exact zk_24 | ((repeat (first | exact z1n | refine z1I ?_ | refine z1R ?_)); done) | exact rfl | omega | decide) only [zb_24_2, r_iconst, r_istore_3i, r_istore_3r, r_istore_3j, r_istore_4i, r_istore_4r, r_istore_4j, r_goto_w, r_iload_4, r_aload_1, r_gf_449, r_icmp_ge, r_gf_451, r_aaload, r_ial, r_ial30, r_ial32, r_iload_2, r_icmp_ne, r_iload_3, r_aload_0, r_gf_131, r_iadd, r_inv_2_0, r_inv_2_1, r_inv_2_2, r_inv_2_3, r_inv_2_4, r_K0, r_K1, r_iinc_4i, r_iinc_4r, r_iinc_4j, r_goto, r_iret, r_bret_0, r_bret_1, vB, vn, vc, vc0, ec0, vc1, ec1, q, g2, ↓reduceIte, not_true_eq_false, not_false_eq_true, Int.reduceEq, Int.reduceLE, Int.reduceLT, Int.reduceAdd, Int.reduceNeg, Int.reduceMul, Int.reduceSub, Int.reduceToNat]
      rw [if_neg (by omega)]
  · simp (disch := first | assumption | exact zk_24 | ((repeat (first | exact z1n | refine z1I ?_ | refine z1R ?_)); done) | exact rfl | omega | decide) only [zb_24_1, zb_24_3, r_iconst, r_istore_3i, r_istore_3r, r_istore_3j, r_istore_4i, r_istore_4r, r_istore_4j, r_goto_w, r_iload_4, r_aload_1, r_gf_449, r_icmp_ge, r_gf_451, r_aaload, r_ial, r_ial30, r_ial32, r_iload_2, r_icmp_ne, r_iload_3, r_aload_0, r_gf_131, r_iadd, r_inv_2_0, r_inv_2_1, r_inv_2_2, r_inv_2_3, r_inv_2_4, r_K0, r_K1, r_iinc_4i, r_iinc_4r, r_iinc_4j, r_goto, r_iret, r_bret_0, r_bret_1, vB, vn, vc, vc0, ec0, vc1, ec1, Int.le_refl, ↓reduceIte, not_true_eq_false, not_false_eq_true, Int.reduceEq, Int.reduceLE, Int.reduceLT, Int.reduceAdd, Int.reduceNeg, Int.reduceMul, Int.reduceSub, Int.reduceToNat]
set_option maxRecDepth 20000 in
theorem c_boundOf (hd : 2 ≤ d) (hG : zGP s V) (hP : zStP s V a) (hC : zStC ρ V a) (hW : zWF ρ) {x : Int} (x0 : 0 ≤ x) (x1 : x < ρ.n) {A : Int → Int} (hA : ∀ y, 0 ≤ A y ∧ A y ≤ 100000) (hv : zCee ρ V 120 A x) : zcall d 26 [.ref 116, .ref a, zi x] (s, V) Q = Q (.inl (some (zi (zBnO ρ A x)))) (s, V) := by
  obtain ⟨n0, n1, c0, c1⟩ := hW.1
  obtain ⟨g1, ⟨-, -, -, g2⟩, ⟨-, -, -, g3⟩, -, -, -, g4⟩ := hG
  have tO := hP.1
  have vB := hP.2.2.2.2.1
  have tB := hP.2.2.2.2.2.1
  have lB := hP.2.2.2.2.2.2.1
  have vn := hC.1
  have vc := hC.2.1
  have vc0 : V (a + 11) 0 = .ref (a + 12) := (hP.2.2.2.2.2.2.2.2 0 (by omega)).1
  have tc0 : s.tg (a + 12) = 20 := (hP.2.2.2.2.2.2.2.2 0 (by omega)).2.1
  have lc0 : s.ln (a + 12) = 24 := (hP.2.2.2.2.2.2.2.2 0 (by omega)).2.2
  have ec0 : ∀ x : Int, 0 ≤ x → x < ρ.c → V (a + 12) x = zi (ρ.K 0 x) := hC.2.2.2.1 0 (by omega)
  have vc1 : V (a + 11) 1 = .ref (a + 13) := (hP.2.2.2.2.2.2.2.2 1 (by omega)).1
  have tc1 : s.tg (a + 13) = 20 := (hP.2.2.2.2.2.2.2.2 1 (by omega)).2.1
  have lc1 : s.ln (a + 13) = 24 := (hP.2.2.2.2.2.2.2.2 1 (by omega)).2.2
  have ec1 : ∀ x : Int, 0 ≤ x → x < ρ.c → V (a + 13) x = zi (ρ.K 1 x) := hC.2.2.2.1 1 (by omega)
  have vc2 : V (a + 11) 2 = .ref (a + 14) := (hP.2.2.2.2.2.2.2.2 2 (by omega)).1
  have tc2 : s.tg (a + 14) = 20 := (hP.2.2.2.2.2.2.2.2 2 (by omega)).2.1
  have lc2 : s.ln (a + 14) = 24 := (hP.2.2.2.2.2.2.2.2 2 (by omega)).2.2
  have ec2 : ∀ x : Int, 0 ≤ x → x < ρ.c → V (a + 14) x = zi (ρ.K 2 x) := hC.2.2.2.1 2 (by omega)
  have vc3 : V (a + 11) 3 = .ref (a + 15) := (hP.2.2.2.2.2.2.2.2 3 (by omega)).1
  have tc3 : s.tg (a + 15) = 20 := (hP.2.2.2.2.2.2.2.2 3 (by omega)).2.1
  have lc3 : s.ln (a + 15) = 24 := (hP.2.2.2.2.2.2.2.2 3 (by omega)).2.2
  have ec3 : ∀ x : Int, 0 ≤ x → x < ρ.c → V (a + 15) x = zi (ρ.K 3 x) := hC.2.2.2.1 3 (by omega)
  obtain ⟨d, rfl⟩ : ∃ e, d = e + 1 := ⟨d - 1, by omega⟩
  simp (disch := first | assumption | omega) only [zc_26]
  have hown : zdiv (ρ.S 0 x * ρ.S 1 x + 99) 100 = zOwn ρ x := rfl
  simp (disch := first | assumption | exact zk_26 | ((repeat (first | exact z1n | refine z1I ?_ | refine z1R ?_)); done) | exact rfl | omega | decide) only [zb_26_0, r_aload_1, r_iload_2, r_inv_2_0, r_inv_2_1, r_inv_2_2, r_inv_2_3, r_inv_2_4, r_K0, r_K1, r_istore_3i, r_istore_3r, r_istore_3j, r_iconst, r_istore_4i, r_istore_4r, r_istore_4j, r_goto_w, r_iload_4, r_gf_449, r_icmp_ge, r_gf_451, r_aaload, r_ial, r_ial30, r_ial32, r_icmp_ne, r_istore_5i, r_istore_5r, r_istore_5j, r_iload_5, r_aload_0, r_gf_132, r_istore_6i, r_istore_6r, r_istore_6j, r_iload_3, r_iload_6, r_imul, r_iadd, r_iinc_4i, r_iinc_4r, r_iinc_4j, r_goto, r_iret, r_bret_0, r_bret_1, vB, vn, vc, vc0, ec0, vc1, ec1, vc2, ec2, vc3, ec3, c_own (hC := hC), hown, ↓reduceIte, not_true_eq_false, not_false_eq_true, Int.reduceEq, Int.reduceLE, Int.reduceLT, Int.reduceAdd, Int.reduceNeg, Int.reduceMul, Int.reduceSub, Int.reduceToNat]
  have hloop := z_iter (i := 0) (n := ρ.c) (I := fun _ (q : Value × Value) => (q.1 = zJ ∨ ∃ y, q.1 = zi y) ∧ (q.2 = zJ ∨ ∃ y, q.2 = zi y)) (P := fun k q => zwp (zcall d) 26 Q (zB 26 1) [.ref 116, .ref a, zi x, zi (zBnS ρ A x k), zi k, q.1, q.2] [] (s, V) = Q (.inl (some (zi (zBnO ρ A x)))) (s, V)) c0
  refine hloop ?_ ?_ (zJ, zJ) ⟨Or.inl rfl, Or.inl rfl⟩
  · rintro k ⟨w5, w6⟩ k0 k1 hw ih
    dsimp only at ih ⊢
    have w := hW.2.2.1 k k0 k1
    have ha := hA (ρ.K 1 k)
    have hs : zBnS ρ A x (k + 1) = if ρ.K 0 k = x then zBnS ρ A x k + ρ.K 3 k * (if ρ.K 2 k < A (ρ.K 1 k) then ρ.K 2 k else A (ρ.K 1 k)) else zBnS ρ A x k := zfo_s k0
    have i1 : zI32 (ρ.K 2 k) := ⟨by omega, by omega⟩
    have i2 : zI32 (A (ρ.K 1 k)) := ⟨by omega, by omega⟩
    conv => lhs; rw [zb_26_1]
    by_cases q : ρ.K 0 k = x
    · have hk := hv k k0 k1 q
      simp (disch := first | assumption | exact zk_26 | ((repeat (first | exact z1n | refine z1I ?_ | refine z1R ?_)); done) | exact rfl | omega | decide) only [zb_26_2, r_aload_1, r_iload_2, r_inv_2_0, r_inv_2_1, r_inv_2_2, r_inv_2_3, r_inv_2_4, r_K0, r_K1, r_istore_3i, r_istore_3r, r_istore_3j, r_iconst, r_istore_4i, r_istore_4r, r_istore_4j, r_goto_w, r_iload_4, r_gf_449, r_icmp_ge, r_gf_451, r_aaload, r_ial, r_ial30, r_ial32, r_icmp_ne, r_istore_5i, r_istore_5r, r_istore_5j, r_iload_5, r_aload_0, r_gf_132, r_istore_6i, r_istore_6r, r_istore_6j, r_iload_3, r_iload_6, r_imul, r_iadd, r_iinc_4i, r_iinc_4r, r_iinc_4j, r_goto, r_iret, r_bret_0, r_bret_1, vB, vn, vc, vc0, ec0, vc1, ec1, vc2, ec2, vc3, ec3, q, g2, hk, c_min, ↓reduceIte, not_true_eq_false, not_false_eq_true, Int.reduceEq, Int.reduceLE, Int.reduceLT, Int.reduceAdd, Int.reduceNeg, Int.reduceMul, Int.reduceSub, Int.reduceToNat]
      rw [if_neg (by omega)]
      rw [if_pos q] at hs
      have := ih (zi (ρ.K 2 k), zi (if ρ.K 2 k < A (ρ.K 1 k) then ρ.K 2 k else A (ρ.K 1 k))) ⟨Or.inr ⟨_, rfl⟩, Or.inr ⟨_, rfl⟩⟩
      rw [hs] at this
      exact this
    · simp (disch := first | assumption | exact zk_26 | ((repeat (first | exact z1n | refine z1I ?_ | refine z1R ?_)); done) | exact rfl | omega | decide) only [zb_26_2, r_aload_1, r_iload_2, r_inv_2_0, r_inv_2_1, r_inv_2_2, r_inv_2_3, r_inv_2_4, r_K0, r_K1, r_istore_3i, r_istore_3r, r_istore_3j, r_iconst, r_istore_4i, r_istore_4r, r_istore_4j, r_goto_w, r_iload_4, r_gf_449, r_icmp_ge, r_gf_451, r_aaload, r_ial, r_ial30, r_ial32, r_icmp_ne, r_istore_5i, r_istore_5r, r_istore_5j, r_iload_5, r_aload_0, r_gf_132, r_istore_6i, r_istore_6r, r_istore_6j, r_iload_3, r_iload_6, r_imul, r_iadd, r_iinc_4i, r_iinc_4r, r_iinc_4j, r_goto, r_iret, r_bret_0, r_bret_1, vB, vn, vc, vc0, ec0, vc1, ec1, vc2, ec2, vc3, ec3, q, g2, ↓reduceIte, not_true_eq_false, not_false_eq_true, Int.reduceEq, Int.reduceLE, Int.reduceLT, Int.reduceAdd, Int.reduceNeg, Int.reduceMul, Int.reduceSub, Int.reduceToNat]
      rw [if_neg (by omega)]
      rw [if_neg q] at hs
      have := ih (w5, w6) hw
      rw [hs] at this
      exact this
  · rintro ⟨w5, w6⟩ -
    dsimp only
    have hr := zBnS_rng hW hA x0 x1 c0 (Int.le_refl _)
    have i1 : zI32 (zBnS ρ A x ρ.c) := ⟨by omega, by omega⟩
    have i2 : zI32 100000 := ⟨by omega, by omega⟩
    simp (disch := first | assumption | exact zk_26 | ((repeat (first | exact z1n | refine z1I ?_ | refine z1R ?_)); done) | exact rfl | omega | decide) only [zb_26_1, zb_26_3, r_aload_1, r_iload_2, r_inv_2_0, r_inv_2_1, r_inv_2_2, r_inv_2_3, r_inv_2_4, r_K0, r_K1, r_istore_3i, r_istore_3r, r_istore_3j, r_iconst, r_istore_4i, r_istore_4r, r_istore_4j, r_goto_w, r_iload_4, r_gf_449, r_icmp_ge, r_gf_451, r_aaload, r_ial, r_ial30, r_ial32, r_icmp_ne, r_istore_5i, r_istore_5r, r_istore_5j, r_iload_5, r_aload_0, r_gf_132, r_istore_6i, r_istore_6r, r_istore_6j, r_iload_3, r_iload_6, r_imul, r_iadd, r_iinc_4i, r_iinc_4r, r_iinc_4j, r_goto, r_iret, r_bret_0, r_bret_1, vB, vn, vc, vc0, ec0, vc1, ec1, vc2, ec2, vc3, ec3, Int.le_refl, c_min, ↓reduceIte, not_true_eq_false, not_false_eq_true, Int.reduceEq, Int.reduceLE, Int.reduceLT, Int.reduceAdd, Int.reduceNeg, Int.reduceMul, Int.reduceSub, Int.reduceToNat]
    rfl
end
/-- the callees of the k-th service are placed before it -/
theorem zCee_plc {ρ : zR} (hW : zWF ρ) {k : Int} (k0 : 0 ≤ k) (k1 : k < ρ.n) {V : zV} {r : Nat} {A : Int → Int} (hv : ∀ y, 0 ≤ y → zin (zDone ρ k.toNat) y = true → V r y = zi (A y)) : zCee ρ V r A (zPlc ρ k) := by
  obtain ⟨-, -, h3, -⟩ := zPlc_ok hW k0 k1
  intro j j0 j1 hj
  have w := hW.2.2.1 j j0 j1
  exact hv _ w.2.1.1 (h3 _ w.2.1.1 (Relation.TransGen.single ⟨j, j0, j1, hj, rfl⟩))
theorem zAlo_done {ρ : zR} (hW : zWF ρ) {f : (Int → Int) → Int → Int} {k : Int} (k0 : 0 ≤ k) (k1 : k < ρ.n) {y : Int} (y0 : 0 ≤ y) (hy : zin (zDone ρ (k + 1).toNat) y = true) : zAlo ρ f (k + 1).toNat y = if y = zPlc ρ k then f (zAlo ρ f k.toNat) (zPlc ρ k) else zAlo ρ f k.toNat y := by
  rw [show (k + 1).toNat = k.toNat + 1 by omega]
  show (if y = zPlc ρ (k.toNat : Int) then f (zAlo ρ f k.toNat) (zPlc ρ (k.toNat : Int)) else zAlo ρ f k.toNat y) = _
  rw [Int.toNat_of_nonneg k0]
theorem zDone_s {ρ : zR} (hW : zWF ρ) {k : Int} (k0 : 0 ≤ k) (k1 : k < ρ.n) {y : Int} (y0 : 0 ≤ y) (hy : zin (zDone ρ (k + 1).toNat) y = true) (hne : y ≠ zPlc ρ k) : zin (zDone ρ k.toNat) y = true := by
  obtain ⟨⟨a, b⟩, -⟩ := zPlc_ok hW k0 k1
  rw [show (k + 1).toNat = k.toNat + 1 by omega] at hy
  have hy : zin (zDone ρ k.toNat ||| zone (zPlc ρ k)) y = true := hy
  rw [zin_or, Bool.or_eq_true, zone_bit a y0, decide_eq_true_eq] at hy
  rcases hy with q | q
  · exact q
  · exact absurd q.symm hne
section
variable {d : Nat} {s : zS} {V : zV} {Q : zO → zH → Prop} {a : Nat} {ρ : zR} {h : zH}
set_option maxRecDepth 20000 in
theorem c_measureChains (hd : 4 ≤ d) (ha : a + 18 ≤ 116) (hG : zGP s V) (hP : zStP s V a) (hC : zStC ρ V a) (hW : zWF ρ) (hQ : ∀ V', zFrg 116 120 V V' → zGP s V' → (∀ y, 0 ≤ y → y < ρ.n → V' 119 y = zi (zChn ρ y)) → Q (.inl none) (s, V')) : zcall d 23 [.ref 116, .ref a] (s, V) Q := by
  obtain ⟨n0, n1, c0, c1⟩ := hW.1
  have tG := hG.1
  obtain ⟨d, rfl⟩ : ∃ e, d = e + 1 := ⟨d - 1, by omega⟩
  simp (disch := first | assumption | omega) only [zc_23]
  simp (disch := first | assumption | exact zk_23 | ((repeat (first | exact z1n | refine z1I ?_ | refine z1R ?_)); done) | exact rfl | omega | decide) only [zb_23_0, r_aload_0, r_aload_1, r_inv_2_0, r_inv_2_1, r_inv_2_2, r_inv_2_3, r_inv_2_4, r_K0, r_K1, r_iconst, r_istore_2i, r_istore_2r, r_istore_2j, r_goto_w, r_iload_2, r_gf_130, r_icmp_ge, r_gf_131, r_gf_129, r_ial, r_ial30, r_ial32, r_inv_3_0, r_inv_3_1, r_inv_3_2, r_inv_3_3, r_inv_3_4, r_iastore, r_iinc_2i, r_iinc_2r, r_iinc_2j, r_goto, r_ret, ↓reduceIte, not_true_eq_false, not_false_eq_true, Int.reduceEq, Int.reduceLE, Int.reduceLT, Int.reduceAdd, Int.reduceNeg, Int.reduceMul, Int.reduceSub, Int.reduceToNat]
  refine c_sort (by omega) ha hG hP hC hW (fun V1 f1 hG1 hS1 => ?_)
  simp (disch := first | assumption | exact zk_23 | ((repeat (first | exact z1n | refine z1I ?_ | refine z1R ?_)); done) | exact rfl | omega | decide) only [r_aload_0, r_aload_1, r_inv_2_0, r_inv_2_1, r_inv_2_2, r_inv_2_3, r_inv_2_4, r_K0, r_K1, r_iconst, r_istore_2i, r_istore_2r, r_istore_2j, r_goto_w, r_iload_2, r_gf_130, r_icmp_ge, r_gf_131, r_gf_129, r_ial, r_ial30, r_ial32, r_inv_3_0, r_inv_3_1, r_inv_3_2, r_inv_3_3, r_inv_3_4, r_iastore, r_iinc_2i, r_iinc_2r, r_iinc_2j, r_goto, r_ret, ↓reduceIte, not_true_eq_false, not_false_eq_true, Int.reduceEq, Int.reduceLE, Int.reduceLT, Int.reduceAdd, Int.reduceNeg, Int.reduceMul, Int.reduceSub, Int.reduceToNat]
  have hx := z_iter (i := 0) (n := ρ.n) (I := fun k (q : zV) => zFrg 116 120 V q ∧ zGP s q ∧ zSrd ρ q ∧ ∀ y, 0 ≤ y → zin (zDone ρ k.toNat) y = true → q 119 y = zi (zAlo ρ (zChO ρ) k.toNat y)) (P := fun k q => zwp (zcall d) 23 Q (zB 23 1) [.ref 116, .ref a, zi k] [] (s, q)) n0
  refine hx ?_ ?_ V1 ⟨fun r hr => f1 r (by omega), hG1, hS1, fun y _ hy => by rw [show zDone ρ (0 : Int).toNat = 0 from rfl, zin_zero] at hy; cases hy⟩
  · rintro k V2 k0 k1 ⟨f2, hG2, hS2, e2⟩ ih
    obtain ⟨⟨x0, x1⟩, x2, x3, x4⟩ := zPlc_ok hW k0 k1
    have hP2 := hP.frg f2 (by omega)
    have hC2 := hC.frg f2 (by omega)
    have hG3 := hG2
    obtain ⟨g1, ⟨-, g3, g4, -⟩, ⟨-, g5, g6, -⟩, -, g7, g8, -⟩ := hG3
    have gp := hS2.1
    have gk := hS2.2 k k0 k1
    have hA : ∀ y, 0 ≤ zAlo ρ (zChO ρ) k.toNat y ∧ zAlo ρ (zChO ρ) k.toNat y ≤ 1000 := fun y => by
      have := zChK_rng (ρ := ρ) k.toNat y
      have := this.2 c0
      omega
    have hcee := zCee_plc hW k0 k1 e2
    conv => rw [zb_23_1]
    simp (disch := first | assumption | omega) only [r_iload_2, r_aload_0, r_aload_1, r_gf_130, r_gf_129, r_gf_131, gp, g3, g4, gk, r_ial, r_icmp_ge]
    rw [if_neg (by omega : ¬ ρ.n ≤ k), r_inv_3_2 (z1I (z1R (z1R z1n))), c_chainOf (d := d) (by omega) hG2 hP2 hC2 hW x0 x1 hA hcee]
    simp (disch := first | assumption | exact zk_23 | ((repeat (first | exact z1n | refine z1I ?_ | refine z1R ?_)); done) | exact rfl | omega | decide) only [r_aload_0, r_aload_1, r_inv_2_0, r_inv_2_1, r_inv_2_2, r_inv_2_3, r_inv_2_4, r_K0, r_K1, r_iconst, r_istore_2i, r_istore_2r, r_istore_2j, r_goto_w, r_iload_2, r_gf_130, r_icmp_ge, r_gf_131, r_gf_129, r_ial, r_ial30, r_ial32, r_inv_3_0, r_inv_3_1, r_inv_3_2, r_inv_3_3, r_inv_3_4, r_iastore, r_iinc_2i, r_iinc_2r, r_iinc_2j, r_goto, r_ret, ↓reduceIte, not_true_eq_false, not_false_eq_true, Int.reduceEq, Int.reduceLE, Int.reduceLT, Int.reduceAdd, Int.reduceNeg, Int.reduceMul, Int.reduceSub, Int.reduceToNat]
    refine ih _ ⟨f2.p (by omega) (by omega), hG2.p (by omega), ⟨(zput_r (by omega)).trans hS2.1, fun j j0 j1 => (zput_r (by omega)).trans (hS2.2 j j0 j1)⟩, fun y y0 hy => ?_⟩
    rw [zAlo_done hW k0 k1 y0 hy]
    by_cases q : y = zPlc ρ k
    · rw [if_pos q, q, zput_at]
    · rw [if_neg q, zput_i q]
      exact e2 y y0 (zDone_s hW k0 k1 y0 hy q)
  · rintro V2 ⟨f2, hG2, hS2, e2⟩
    have gp := hS2.1
    have tG2 := hG2.1
    simp (disch := first | assumption | exact zk_23 | ((repeat (first | exact z1n | refine z1I ?_ | refine z1R ?_)); done) | exact rfl | omega | decide) only [zb_23_1, zb_23_2, r_aload_0, r_aload_1, r_inv_2_0, r_inv_2_1, r_inv_2_2, r_inv_2_3, r_inv_2_4, r_K0, r_K1, r_iconst, r_istore_2i, r_istore_2r, r_istore_2j, r_goto_w, r_iload_2, r_gf_130, r_icmp_ge, r_gf_131, r_gf_129, r_ial, r_ial30, r_ial32, r_inv_3_0, r_inv_3_1, r_inv_3_2, r_inv_3_3, r_inv_3_4, r_iastore, r_iinc_2i, r_iinc_2r, r_iinc_2j, r_goto, r_ret, gp, Int.le_refl, ↓reduceIte, not_true_eq_false, not_false_eq_true, Int.reduceEq, Int.reduceLE, Int.reduceLT, Int.reduceAdd, Int.reduceNeg, Int.reduceMul, Int.reduceSub, Int.reduceToNat]
    exact hQ V2 f2 hG2 (fun y y0 y1 => e2 y y0 (zDone_all hW y0 y1))
set_option maxRecDepth 20000 in
theorem c_measureBounds (hd : 4 ≤ d) (ha : a + 18 ≤ 116) (hG : zGP s V) (hP : zStP s V a) (hC : zStC ρ V a) (hW : zWF ρ) (hQ : ∀ V', zFrg 116 121 V V' → zGP s V' → (∀ y, 0 ≤ y → y < ρ.n → V' 120 y = zi (zBnd ρ y)) → Q (.inl none) (s, V')) : zcall d 25 [.ref 116, .ref a] (s, V) Q := by
  obtain ⟨n0, n1, c0, c1⟩ := hW.1
  have tG := hG.1
  obtain ⟨d, rfl⟩ : ∃ e, d = e + 1 := ⟨d - 1, by omega⟩
  simp (disch := first | assumption | omega) only [zc_25]
  simp (disch := first | assumption | exact zk_25 | ((repeat (first | exact z1n | refine z1I ?_ | refine z1R ?_)); done) | exact rfl | omega | decide) only [zb_25_0, r_aload_0, r_aload_1, r_inv_2_0, r_inv_2_1, r_inv_2_2, r_inv_2_3, r_inv_2_4, r_K0, r_K1, r_iconst, r_istore_2i, r_istore_2r, r_istore_2j, r_goto_w, r_iload_2, r_gf_130, r_icmp_ge, r_gf_132, r_gf_129, r_ial, r_ial30, r_ial32, r_inv_3_0, r_inv_3_1, r_inv_3_2, r_inv_3_3, r_inv_3_4, r_iastore, r_iinc_2i, r_iinc_2r, r_iinc_2j, r_goto, r_ret, ↓reduceIte, not_true_eq_false, not_false_eq_true, Int.reduceEq, Int.reduceLE, Int.reduceLT, Int.reduceAdd, Int.reduceNeg, Int.reduceMul, Int.reduceSub, Int.reduceToNat]
  refine c_sort (by omega) ha hG hP hC hW (fun V1 f1 hG1 hS1 => ?_)
  simp (disch := first | assumption | exact zk_25 | ((repeat (first | exact z1n | refine z1I ?_ | refine z1R ?_)); done) | exact rfl | omega | decide) only [r_aload_0, r_aload_1, r_inv_2_0, r_inv_2_1, r_inv_2_2, r_inv_2_3, r_inv_2_4, r_K0, r_K1, r_iconst, r_istore_2i, r_istore_2r, r_istore_2j, r_goto_w, r_iload_2, r_gf_130, r_icmp_ge, r_gf_132, r_gf_129, r_ial, r_ial30, r_ial32, r_inv_3_0, r_inv_3_1, r_inv_3_2, r_inv_3_3, r_inv_3_4, r_iastore, r_iinc_2i, r_iinc_2r, r_iinc_2j, r_goto, r_ret, ↓reduceIte, not_true_eq_false, not_false_eq_true, Int.reduceEq, Int.reduceLE, Int.reduceLT, Int.reduceAdd, Int.reduceNeg, Int.reduceMul, Int.reduceSub, Int.reduceToNat]
  have hx := z_iter (i := 0) (n := ρ.n) (I := fun k (q : zV) => zFrg 116 121 V q ∧ zGP s q ∧ zSrd ρ q ∧ ∀ y, 0 ≤ y → zin (zDone ρ k.toNat) y = true → q 120 y = zi (zAlo ρ (zBnO ρ) k.toNat y)) (P := fun k q => zwp (zcall d) 25 Q (zB 25 1) [.ref 116, .ref a, zi k] [] (s, q)) n0
  refine hx ?_ ?_ V1 ⟨fun r hr => f1 r (by omega), hG1, hS1, fun y _ hy => by rw [show zDone ρ (0 : Int).toNat = 0 from rfl, zin_zero] at hy; cases hy⟩
  · rintro k V2 k0 k1 ⟨f2, hG2, hS2, e2⟩ ih
    obtain ⟨⟨x0, x1⟩, x2, x3, x4⟩ := zPlc_ok hW k0 k1
    have hP2 := hP.frg f2 (by omega)
    have hC2 := hC.frg f2 (by omega)
    have hG3 := hG2
    obtain ⟨g1, ⟨-, g3, -, g4⟩, ⟨-, g5, -, g6⟩, -, g7, -, g8⟩ := hG3
    have gp := hS2.1
    have gk := hS2.2 k k0 k1
    have hA := zBnK_rng hW k.toNat (by omega)
    have hcee := zCee_plc hW k0 k1 e2
    conv => rw [zb_25_1]
    simp (disch := first | assumption | omega) only [r_iload_2, r_aload_0, r_aload_1, r_gf_130, r_gf_129, r_gf_132, gp, g3, g4, gk, r_ial, r_icmp_ge]
    rw [if_neg (by omega : ¬ ρ.n ≤ k), r_inv_3_2 (z1I (z1R (z1R z1n))), c_boundOf (d := d) (by omega) hG2 hP2 hC2 hW x0 x1 hA hcee]
    simp (disch := first | assumption | exact zk_25 | ((repeat (first | exact z1n | refine z1I ?_ | refine z1R ?_)); done) | exact rfl | omega | decide) only [r_aload_0, r_aload_1, r_inv_2_0, r_inv_2_1, r_inv_2_2, r_inv_2_3, r_inv_2_4, r_K0, r_K1, r_iconst, r_istore_2i, r_istore_2r, r_istore_2j, r_goto_w, r_iload_2, r_gf_130, r_icmp_ge, r_gf_132, r_gf_129, r_ial, r_ial30, r_ial32, r_inv_3_0, r_inv_3_1, r_inv_3_2, r_inv_3_3, r_inv_3_4, r_iastore, r_iinc_2i, r_iinc_2r, r_iinc_2j, r_goto, r_ret, ↓reduceIte, not_true_eq_false, not_false_eq_true, Int.reduceEq, Int.reduceLE, Int.reduceLT, Int.reduceAdd, Int.reduceNeg, Int.reduceMul, Int.reduceSub, Int.reduceToNat]
    refine ih _ ⟨f2.p (by omega) (by omega), hG2.p (by omega), ⟨(zput_r (by omega)).trans hS2.1, fun j j0 j1 => (zput_r (by omega)).trans (hS2.2 j j0 j1)⟩, fun y y0 hy => ?_⟩
    rw [zAlo_done hW k0 k1 y0 hy]
    by_cases q : y = zPlc ρ k
    · rw [if_pos q, q, zput_at]
    · rw [if_neg q, zput_i q]
      exact e2 y y0 (zDone_s hW k0 k1 y0 hy q)
  · rintro V2 ⟨f2, hG2, hS2, e2⟩
    have gp := hS2.1
    have tG2 := hG2.1
    simp (disch := first | assumption | exact zk_25 | ((repeat (first | exact z1n | refine z1I ?_ | refine z1R ?_)); done) | exact rfl | omega | decide) only [zb_25_1, zb_25_2, r_aload_0, r_aload_1, r_inv_2_0, r_inv_2_1, r_inv_2_2, r_inv_2_3, r_inv_2_4, r_K0, r_K1, r_iconst, r_istore_2i, r_istore_2r, r_istore_2j, r_goto_w, r_iload_2, r_gf_130, r_icmp_ge, r_gf_132, r_gf_129, r_ial, r_ial30, r_ial32, r_inv_3_0, r_inv_3_1, r_inv_3_2, r_inv_3_3, r_inv_3_4, r_iastore, r_iinc_2i, r_iinc_2r, r_iinc_2j, r_goto, r_ret, gp, Int.le_refl, ↓reduceIte, not_true_eq_false, not_false_eq_true, Int.reduceEq, Int.reduceLE, Int.reduceLT, Int.reduceAdd, Int.reduceNeg, Int.reduceMul, Int.reduceSub, Int.reduceToNat]
    exact hQ V2 f2 hG2 (fun y y0 y1 => e2 y y0 (zDone_all hW y0 y1))
def zUns (ρ : zR) : Int := zfo (fun k m => if ρ.K 2 k < zBnd ρ (ρ.K 1 k) then m + 1 else m) 0 ρ.c
set_option maxRecDepth 20000 in
theorem c_countUnsound (hd : 1 ≤ d) (hG : zGP s V) (hP : zStP s V a) (hC : zStC ρ V a) (hW : zWF ρ) (hb : ∀ y, 0 ≤ y → y < ρ.n → V 120 y = zi (zBnd ρ y)) : zcall d 27 [.ref 116, .ref a] (s, V) Q = Q (.inl (some (zi (zUns ρ)))) (s, V) := by
  obtain ⟨n0, n1, c0, c1⟩ := hW.1
  obtain ⟨g1, ⟨-, -, -, g2⟩, ⟨-, -, -, g3⟩, -, -, -, g4⟩ := hG
  have tO := hP.1
  have vB := hP.2.2.2.2.1
  have tB := hP.2.2.2.2.2.1
  have lB := hP.2.2.2.2.2.2.1
  have vn := hC.1
  have vc := hC.2.1
  have vc1 : V (a + 11) 1 = .ref (a + 13) := (hP.2.2.2.2.2.2.2.2 1 (by omega)).1
  have tc1 : s.tg (a + 13) = 20 := (hP.2.2.2.2.2.2.2.2 1 (by omega)).2.1
  have lc1 : s.ln (a + 13) = 24 := (hP.2.2.2.2.2.2.2.2 1 (by omega)).2.2
  have ec1 : ∀ x : Int, 0 ≤ x → x < ρ.c → V (a + 13) x = zi (ρ.K 1 x) := hC.2.2.2.1 1 (by omega)
  have vc2 : V (a + 11) 2 = .ref (a + 14) := (hP.2.2.2.2.2.2.2.2 2 (by omega)).1
  have tc2 : s.tg (a + 14) = 20 := (hP.2.2.2.2.2.2.2.2 2 (by omega)).2.1
  have lc2 : s.ln (a + 14) = 24 := (hP.2.2.2.2.2.2.2.2 2 (by omega)).2.2
  have ec2 : ∀ x : Int, 0 ≤ x → x < ρ.c → V (a + 14) x = zi (ρ.K 2 x) := hC.2.2.2.1 2 (by omega)
  obtain ⟨d, rfl⟩ : ∃ e, d = e + 1 := ⟨d - 1, by omega⟩
  simp (disch := first | assumption | omega) only [zc_27]
  simp (disch := first | assumption | exact zk_27 | ((repeat (first | exact z1n | refine z1I ?_ | refine z1R ?_)); done) | exact rfl | omega | decide) only [zb_27_0, r_iconst, r_istore_2i, r_istore_2r, r_istore_2j, r_istore_3i, r_istore_3r, r_istore_3j, r_goto_w, r_iload_3, r_aload_1, r_gf_449, r_icmp_ge, r_gf_451, r_aaload, r_ial, r_ial30, r_ial32, r_aload_0, r_gf_132, r_iinc_2i, r_iinc_2r, r_iinc_2j, r_iinc_3i, r_iinc_3r, r_iinc_3j, r_goto, r_iload_2, r_iret, r_bret_0, r_bret_1, vB, vn, vc, vc1, ec1, vc2, ec2, ↓reduceIte, not_true_eq_false, not_false_eq_true, Int.reduceEq, Int.reduceLE, Int.reduceLT, Int.reduceAdd, Int.reduceNeg, Int.reduceMul, Int.reduceSub, Int.reduceToNat]
  unfold zUns
  refine (z_chainI (F := fun k => zwp (zcall d) 27 Q (zB 27 1) [.ref 116, .ref a, zi (zfo (fun k m => if ρ.K 2 k < zBnd ρ (ρ.K 1 k) then m + 1 else m) 0 k), zi k] [] (s, V)) c0 (fun k k0 k1 => ?_)).trans ?_
  · have w := hW.2.2.1 k k0 k1
    have hk := hb (ρ.K 1 k) w.2.1.1 w.2.1.2
    have hr : 0 ≤ zBnd ρ (ρ.K 1 k) ∧ zBnd ρ (ρ.K 1 k) ≤ 100000 := zBnK_rng hW _ (by omega) _
    conv => lhs; rw [zb_27_1]
    rw [zfo_s k0]
    simp (disch := first | assumption | exact zk_27 | ((repeat (first | exact z1n | refine z1I ?_ | refine z1R ?_)); done) | exact rfl | omega | decide) only [zb_27_2, r_iconst, r_istore_2i, r_istore_2r, r_istore_2j, r_istore_3i, r_istore_3r, r_istore_3j, r_goto_w, r_iload_3, r_aload_1, r_gf_449, r_icmp_ge, r_gf_451, r_aaload, r_ial, r_ial30, r_ial32, r_aload_0, r_gf_132, r_iinc_2i, r_iinc_2r, r_iinc_2j, r_iinc_3i, r_iinc_3r, r_iinc_3j, r_goto, r_iload_2, r_iret, r_bret_0, r_bret_1, vB, vn, vc, vc1, ec1, vc2, ec2, g2, hk, ↓reduceIte, not_true_eq_false, not_false_eq_true, Int.reduceEq, Int.reduceLE, Int.reduceLT, Int.reduceAdd, Int.reduceNeg, Int.reduceMul, Int.reduceSub, Int.reduceToNat]
    rw [if_neg (by omega : ¬ ρ.c ≤ k)]
    split
    · rename_i q
      rw [if_neg (by omega)]
    · rename_i q
      rw [if_pos (by omega)]
  · simp (disch := first | assumption | exact zk_27 | ((repeat (first | exact z1n | refine z1I ?_ | refine z1R ?_)); done) | exact rfl | omega | decide) only [zb_27_1, zb_27_3, r_iconst, r_istore_2i, r_istore_2r, r_istore_2j, r_istore_3i, r_istore_3r, r_istore_3j, r_goto_w, r_iload_3, r_aload_1, r_gf_449, r_icmp_ge, r_gf_451, r_aaload, r_ial, r_ial30, r_ial32, r_aload_0, r_gf_132, r_iinc_2i, r_iinc_2r, r_iinc_2j, r_iinc_3i, r_iinc_3r, r_iinc_3j, r_goto, r_iload_2, r_iret, r_bret_0, r_bret_1, vB, vn, vc, vc1, ec1, vc2, ec2, Int.le_refl, ↓reduceIte, not_true_eq_false, not_false_eq_true, Int.reduceEq, Int.reduceLE, Int.reduceLT, Int.reduceAdd, Int.reduceNeg, Int.reduceMul, Int.reduceSub, Int.reduceToNat]
end
