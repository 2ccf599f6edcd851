/-! STATE, 6: new and dropped services and calls; reasons against -/
/-- how many a set has -/
def zpop (v : Nat) : Int := zfo (fun x m => if zin v x = true then m + 1 else m) 0 12
def zbc (x : Int) : Int := (
  let x1 := Int32.ofInt x - ((((Int32.ofInt x).toUInt32 >>> ((Int32.ofInt 1).toUInt32 &&& Int32.toUInt32 31)).toInt32) &&& 1431655765)
  let x2 := (x1 &&& 858993459) + ((((x1).toUInt32 >>> ((Int32.ofInt 2).toUInt32 &&& Int32.toUInt32 31)).toInt32) &&& 858993459)
  let x3 := (x2 + (((x2).toUInt32 >>> ((Int32.ofInt 4).toUInt32 &&& Int32.toUInt32 31)).toInt32)) &&& 252645135
  let x4 := x3 + (((x3).toUInt32 >>> ((Int32.ofInt 8).toUInt32 &&& Int32.toUInt32 31)).toInt32)
  let x5 := x4 + (((x4).toUInt32 >>> ((Int32.ofInt 16).toUInt32 &&& Int32.toUInt32 31)).toInt32)
  (x5 &&& 63)).toInt
theorem zbc_ok' : ∀ i : Nat, i < 64 → ∀ j : Nat, j < 64 → zbc ((64 * i + j : Nat) : Int) = zpop (64 * i + j) := by decide +kernel
theorem zbc_ok (v : Nat) (hv : v < 4096) : zbc (v : Int) = zpop v := by
  have := zbc_ok' (v / 64) (by omega) (v % 64) (by omega)
  rwa [Nat.div_add_mod] at this
section
variable {d : Nat} {s : zS} {V : zV} {Q : zO → zH → Prop} {a : Nat} {ρ : zR} {h : zH}
set_option maxRecDepth 20000 in
theorem c_bitCount (hd : 1 ≤ d) {v : Nat} (hv : v < 4096) : zcall d 302 [zi (v : Nat)] h Q = Q (.inl (some (zi (zpop v)))) h := by
  obtain ⟨d, rfl⟩ : ∃ e, d = e + 1 := ⟨d - 1, by omega⟩
  simp (disch := first | assumption | omega) only [zc_302]
  simp (disch := first | assumption | exact zk_302 | ((repeat (first | exact z1n | refine z1I ?_ | refine z1R ?_)); done) | exact rfl | omega | decide) only [zb_302_0, r_iload_0, r_iconst, r_iushr, r_iand, r_isub, r_istore_0, r_iadd, r_iret, r_bret_0, r_bret_1, ↓reduceIte, not_true_eq_false, not_false_eq_true, Int.reduceEq, Int.reduceLE, Int.reduceLT, Int.reduceAdd, Int.reduceNeg, Int.reduceMul, Int.reduceSub, Int.reduceToNat]
  rw [← zbc_ok v hv]
  unfold zbc zand zushr zi
  simp only [Int32.ofInt_toInt, Int32.ofInt_sub, Int32.ofInt_add]
  rfl
theorem zpop_rng {v : Nat} : 0 ≤ zpop v ∧ zpop v ≤ 12 := by
  refine zfo_inv (fun k m => 0 ≤ m ∧ m ≤ k) ⟨by omega, by omega⟩ (fun j y h1 h2 hy => ?_) (by omega)
  try dsimp only
  split <;> omega
set_option maxRecDepth 20000 in
theorem c_countUp (hd : 3 ≤ d) (hP : zStP s V a) (hC : zStC ρ V a) (hW : zWF ρ) : zcall d 93 [.ref a] (s, V) Q = Q (.inl (some (zi (ρ.n - zpop (zDown ρ))))) (s, V) := by
  obtain ⟨n0, n1, c0, c1⟩ := hW.1
  have hv : zDown ρ < 4096 := zms_lt n0 n1
  have tO := hP.1
  have vn := hC.1
  have vc := hC.2.1
  obtain ⟨d, rfl⟩ : ∃ e, d = e + 1 := ⟨d - 1, by omega⟩
  simp (disch := first | assumption | omega) only [zc_93]
  simp (disch := first | assumption | exact zk_93 | ((repeat (first | exact z1n | refine z1I ?_ | refine z1R ?_)); done) | exact rfl | omega | decide) only [zb_93_0, r_aload_0, r_gf_448, r_inv_1_0, r_inv_1_1, r_inv_1_2, r_inv_1_3, r_inv_1_4, r_K0, r_K1, r_isub, r_iret, r_bret_0, r_bret_1, vn, vc, c_downSet (hC := hC), c_bitCount, ↓reduceIte, not_true_eq_false, not_false_eq_true, Int.reduceEq, Int.reduceLE, Int.reduceLT, Int.reduceAdd, Int.reduceNeg, Int.reduceMul, Int.reduceSub, Int.reduceToNat]
set_option maxRecDepth 20000 in
theorem c_whyNotGoDown (hd : 2 ≤ d) (hP : zStP s V a) (hC : zStC ρ V a) (hW : zWF ρ) {x : Int} (hx : zI32 x) : zcall d 94 [.ref a, zi x] (s, V) Q = if 0 ≤ x ∧ x < ρ.n then if ρ.S 6 x = 1 then Q (.inl (some (zi 0))) (s, V) else Q (.inl (some (zi 3))) (s, V) else Q (.inl (some (zi 1))) (s, V) := by
  obtain ⟨n0, n1, c0, c1⟩ := hW.1
  have tO := hP.1
  have vn := hC.1
  have vc := hC.2.1
  obtain ⟨d, rfl⟩ : ∃ e, d = e + 1 := ⟨d - 1, by omega⟩
  simp (disch := first | assumption | omega) only [zc_94]
  by_cases e : 0 ≤ x ∧ x < ρ.n
  · obtain ⟨e1, e2⟩ := e
    simp (disch := first | assumption | exact zk_94 | ((repeat (first | exact z1n | refine z1I ?_ | refine z1R ?_)); done) | exact rfl | omega | decide) only [zb_94_0, zb_94_1, zb_94_2, zb_94_3, r_aload_0, r_iload_1, r_inv_2_0, r_inv_2_1, r_inv_2_2, r_inv_2_3, r_inv_2_4, r_K0, r_K1, r_if_eq, r_iconst, r_iret, r_bret_0, r_bret_1, r_goto, r_goto_w, vn, vc, c_whyNoService (hC := hC), c_isUp (hC := hC), e1, e2, and_self, ↓reduceIte, not_true_eq_false, not_false_eq_true, Int.reduceEq, Int.reduceLE, Int.reduceLT, Int.reduceAdd, Int.reduceNeg, Int.reduceMul, Int.reduceSub, Int.reduceToNat]
  · simp (disch := first | assumption | exact zk_94 | ((repeat (first | exact z1n | refine z1I ?_ | refine z1R ?_)); done) | exact rfl | omega | decide) only [zb_94_0, zb_94_1, zb_94_2, zb_94_3, r_aload_0, r_iload_1, r_inv_2_0, r_inv_2_1, r_inv_2_2, r_inv_2_3, r_inv_2_4, r_K0, r_K1, r_if_eq, r_iconst, r_iret, r_bret_0, r_bret_1, r_goto, r_goto_w, vn, vc, c_whyNoService (hC := hC), e, ↓reduceIte, not_true_eq_false, not_false_eq_true, Int.reduceEq, Int.reduceLE, Int.reduceLT, Int.reduceAdd, Int.reduceNeg, Int.reduceMul, Int.reduceSub, Int.reduceToNat]
set_option maxRecDepth 20000 in
theorem c_whyNotBeginRepair (hd : 2 ≤ d) (hP : zStP s V a) (hC : zStC ρ V a) (hW : zWF ρ) {x : Int} (hx : zI32 x) : zcall d 96 [.ref a, zi x] (s, V) Q = if 0 ≤ x ∧ x < ρ.n then if ρ.S 6 x ≠ 1 ∧ ρ.S 8 x = -1 then Q (.inl (some (zi 0))) (s, V) else Q (.inl (some (zi 3))) (s, V) else Q (.inl (some (zi 1))) (s, V) := by
  obtain ⟨n0, n1, c0, c1⟩ := hW.1
  have tO := hP.1
  have vA := hP.2.1
  have tA := hP.2.2.1
  have lA := hP.2.2.2.1
  have vn := hC.1
  have vc := hC.2.1
  have vs8 : V (a + 1) 8 = .ref (a + 10) := (hP.2.2.2.2.2.2.2.1 8 (by omega)).1
  have ts8 : s.tg (a + 10) = 20 := (hP.2.2.2.2.2.2.2.1 8 (by omega)).2.1
  have ls8 : s.ln (a + 10) = 12 := (hP.2.2.2.2.2.2.2.1 8 (by omega)).2.2
  have es8 : ∀ x : Int, 0 ≤ x → x < ρ.n → V (a + 10) x = zi (ρ.S 8 x) := hC.2.2.1 8 (by omega)
  obtain ⟨d, rfl⟩ : ∃ e, d = e + 1 := ⟨d - 1, by omega⟩
  simp (disch := first | assumption | omega) only [zc_96]
  by_cases e : 0 ≤ x ∧ x < ρ.n
  · obtain ⟨e1, e2⟩ := e
    have w := (hW.2.1 x e1 e2).2.2.2.2.2.2.2.2
    simp (disch := first | assumption | exact zk_96 | ((repeat (first | exact z1n | refine z1I ?_ | refine z1R ?_)); done) | exact rfl | omega | decide) only [zb_96_0, zb_96_1, zb_96_2, zb_96_3, zb_96_4, r_aload_0, r_iload_1, r_inv_2_0, r_inv_2_1, r_inv_2_2, r_inv_2_3, r_inv_2_4, r_K0, r_K1, r_if_eq, r_iconst, r_iret, r_bret_0, r_bret_1, r_if_ne, r_gf_450, r_aaload, r_ial, r_ial30, r_ial32, r_icmp_eq, r_goto_w, r_goto, vA, vn, vc, vs8, es8, c_whyNoService (hC := hC), c_isUp (hC := hC), e1, e2, and_self, ↓reduceIte, not_true_eq_false, not_false_eq_true, Int.reduceEq, Int.reduceLE, Int.reduceLT, Int.reduceAdd, Int.reduceNeg, Int.reduceMul, Int.reduceSub, Int.reduceToNat]
    (repeat' split) <;> first | rfl | (exfalso; omega) | (exfalso; grind)
  · simp (disch := first | assumption | exact zk_96 | ((repeat (first | exact z1n | refine z1I ?_ | refine z1R ?_)); done) | exact rfl | omega | decide) only [zb_96_0, zb_96_1, zb_96_2, zb_96_3, zb_96_4, r_aload_0, r_iload_1, r_inv_2_0, r_inv_2_1, r_inv_2_2, r_inv_2_3, r_inv_2_4, r_K0, r_K1, r_if_eq, r_iconst, r_iret, r_bret_0, r_bret_1, r_if_ne, r_gf_450, r_aaload, r_ial, r_ial30, r_ial32, r_icmp_eq, r_goto_w, r_goto, vA, vn, vc, vs8, es8, c_whyNoService (hC := hC), e, ↓reduceIte, not_true_eq_false, not_false_eq_true, Int.reduceEq, Int.reduceLE, Int.reduceLT, Int.reduceAdd, Int.reduceNeg, Int.reduceMul, Int.reduceSub, Int.reduceToNat]
set_option maxRecDepth 20000 in
theorem c_tell (hd : 2 ≤ d) (hP : zStP s V a) (hC : zStC ρ V a) (hW : zWF ρ) {x w : Int} (h1 : 0 ≤ x) (h2 : x < ρ.n) (w1 : 0 ≤ w) (w2 : w ≤ 10) : zcall d 80 [.ref a, zi x, zi w] (s, V) Q = Q (.inl (some (zi (if w ≤ 8 then ρ.S w x else if w = 9 then zdiv (ρ.S 0 x * ρ.S 1 x + 99) 100 else zCnt ρ x)))) (s, V) := by
  obtain ⟨n0, n1, c0, c1⟩ := hW.1
  have tO := hP.1
  have vA := hP.2.1
  have tA := hP.2.2.1
  have lA := hP.2.2.2.1
  have vn := hC.1
  have vc := hC.2.1
  have vs0 : V (a + 1) 0 = .ref (a + 2) := (hP.2.2.2.2.2.2.2.1 0 (by omega)).1
  have ts0 : s.tg (a + 2) = 20 := (hP.2.2.2.2.2.2.2.1 0 (by omega)).2.1
  have ls0 : s.ln (a + 2) = 12 := (hP.2.2.2.2.2.2.2.1 0 (by omega)).2.2
  have es0 : ∀ x : Int, 0 ≤ x → x < ρ.n → V (a + 2) x = zi (ρ.S 0 x) := hC.2.2.1 0 (by omega)
  obtain ⟨d, rfl⟩ : ∃ e, d = e + 1 := ⟨d - 1, by omega⟩
  simp (disch := first | assumption | omega) only [zc_80]
  by_cases e : w ≤ 8
  · obtain ⟨k, rfl⟩ : ∃ k : Nat, w = k := ⟨w.toNat, by omega⟩
    have vk : V (a + 1) (k : Int) = .ref (a + 2 + k) := (hP.2.2.2.2.2.2.2.1 k (by omega)).1
    have tk := (hP.2.2.2.2.2.2.2.1 k (by omega)).2.1
    have lk := (hP.2.2.2.2.2.2.2.1 k (by omega)).2.2
    have ek := hC.2.2.1 k (by omega)
    simp (disch := first | assumption | exact zk_80 | ((repeat (first | exact z1n | refine z1I ?_ | refine z1R ?_)); done) | exact rfl | omega | decide) only [zb_80_0, r_iload_2, r_iconst, r_icmp_gt, r_aload_0, r_gf_450, r_aaload, r_iload_1, r_ial, r_ial30, r_ial32, r_iret, r_bret_0, r_bret_1, r_icmp_ne, r_inv_2_0, r_inv_2_1, r_inv_2_2, r_inv_2_3, r_inv_2_4, r_K0, r_K1, r_goto, r_goto_w, vA, vn, vc, vs0, es0, vk, ek, ↓reduceIte, not_true_eq_false, not_false_eq_true, Int.reduceEq, Int.reduceLE, Int.reduceLT, Int.reduceAdd, Int.reduceNeg, Int.reduceMul, Int.reduceSub, Int.reduceToNat]
    rw [if_neg (by omega), if_pos e]
  · rw [if_neg e]
    simp (disch := first | assumption | exact zk_80 | ((repeat (first | exact z1n | refine z1I ?_ | refine z1R ?_)); done) | exact rfl | omega | decide) only [zb_80_0, zb_80_1, zb_80_2, zb_80_3, r_iload_2, r_iconst, r_icmp_gt, r_aload_0, r_gf_450, r_aaload, r_iload_1, r_ial, r_ial30, r_ial32, r_iret, r_bret_0, r_bret_1, r_icmp_ne, r_inv_2_0, r_inv_2_1, r_inv_2_2, r_inv_2_3, r_inv_2_4, r_K0, r_K1, r_goto, r_goto_w, vA, vn, vc, vs0, es0, c_own (hC := hC), c_count (hC := hC), ↓reduceIte, not_true_eq_false, not_false_eq_true, Int.reduceEq, Int.reduceLE, Int.reduceLT, Int.reduceAdd, Int.reduceNeg, Int.reduceMul, Int.reduceSub, Int.reduceToNat]
    rw [if_pos (by omega)]
    split
    · rfl
    · rename_i q
      rw [if_pos (by omega)]
/-- a new service -/
def zR.addS (ρ : zR) (work : Int) : zR := (ρ.1 + 1, ρ.2.1, fun w x => if x = ρ.1 then (if w = 0 then work else if w = 1 then 100 else if w = 2 then 2 else if w = 3 then 3 else if w = 4 then 1 else if w = 5 then 990 else if w = 6 then 1 else if w = 7 then 0 else -1) else ρ.S w x, ρ.2.2.2)
set_option maxRecDepth 20000 in
theorem c_whyNotNewService (hd : 1 ≤ d) (hA : zSA s V) (hP : zStP s V a) (hC : zStC ρ V a) (hW : zWF ρ) {x : Int} (hx : zI32 x) : zcall d 70 [.ref a, zi x] (s, V) Q = if 1 ≤ x ∧ x ≤ 100 then if ρ.n = 12 then Q (.inl (some (zi 3))) (s, V) else Q (.inl (some (zi 0))) (s, V) else Q (.inl (some (zi 2))) (s, V) := by
  obtain ⟨n0, n1, c0, c1⟩ := hW.1
  obtain ⟨x1, x2⟩ := hx
  have tO := hP.1
  have vn := hC.1
  have vc := hC.2.1
  obtain ⟨t0, l0, v0⟩ := hA 0 (by omega)
  obtain ⟨t1, l1, v1⟩ := hA 1 (by omega)
  have u0 : V 0 0 = zi 1 := v0 0 (by omega)
  have u1 : V 1 0 = zi 100 := v1 0 (by omega)
  obtain ⟨d, rfl⟩ : ∃ e, d = e + 1 := ⟨d - 1, by omega⟩
  simp (disch := first | assumption | omega) only [zc_70]
  simp (disch := first | assumption | exact zk_70 | ((repeat (first | exact z1n | refine z1I ?_ | refine z1R ?_)); done) | exact rfl | omega | decide) only [zb_70_0, zb_70_1, zb_70_2, zb_70_3, zb_70_4, r_iload_1, r_gets, r_iconst, r_ial, r_ial30, r_ial32, r_icmp_lt, r_icmp_le, r_goto_w, r_iret, r_bret_0, r_bret_1, r_aload_0, r_gf_448, r_goto, vn, vc, u0, u1, ↓reduceIte, not_true_eq_false, not_false_eq_true, Int.reduceEq, Int.reduceLE, Int.reduceLT, Int.reduceAdd, Int.reduceNeg, Int.reduceMul, Int.reduceSub, Int.reduceToNat]
  (repeat' split) <;> first | rfl | (exfalso; omega) | (exfalso; grind)
set_option maxRecDepth 20000 in
theorem c_newService (hd : 1 ≤ d) (hA : zSA s V) (hP : zStP s V a) (hC : zStC ρ V a) (hW : zWF ρ) (hn : ρ.n < 12) (ha : 5 ≤ a) {x : Int} (hQ : zTo s V a (ρ.addS x) Q (.inl (some (zi ρ.n)))) : zcall d 71 [.ref a, zi x] (s, V) Q := by
  obtain ⟨n0, n1, c0, c1⟩ := hW.1
  have tO := hP.1
  have vA := hP.2.1
  have tA := hP.2.2.1
  have lA := hP.2.2.2.1
  have vn := hC.1
  have vc := hC.2.1
  have vs0 : V (a + 1) 0 = .ref (a + 2) := (hP.2.2.2.2.2.2.2.1 0 (by omega)).1
  have ts0 : s.tg (a + 2) = 20 := (hP.2.2.2.2.2.2.2.1 0 (by omega)).2.1
  have ls0 : s.ln (a + 2) = 12 := (hP.2.2.2.2.2.2.2.1 0 (by omega)).2.2
  have es0 : ∀ x : Int, 0 ≤ x → x < ρ.n → V (a + 2) x = zi (ρ.S 0 x) := hC.2.2.1 0 (by omega)
  have vs1 : V (a + 1) 1 = .ref (a + 3) := (hP.2.2.2.2.2.2.2.1 1 (by omega)).1
  have ts1 : s.tg (a + 3) = 20 := (hP.2.2.2.2.2.2.2.1 1 (by omega)).2.1
  have ls1 : s.ln (a + 3) = 12 := (hP.2.2.2.2.2.2.2.1 1 (by omega)).2.2
  have es1 : ∀ x : Int, 0 ≤ x → x < ρ.n → V (a + 3) x = zi (ρ.S 1 x) := hC.2.2.1 1 (by omega)
  have vs2 : V (a + 1) 2 = .ref (a + 4) := (hP.2.2.2.2.2.2.2.1 2 (by omega)).1
  have ts2 : s.tg (a + 4) = 20 := (hP.2.2.2.2.2.2.2.1 2 (by omega)).2.1
  have ls2 : s.ln (a + 4) = 12 := (hP.2.2.2.2.2.2.2.1 2 (by omega)).2.2
  have es2 : ∀ x : Int, 0 ≤ x → x < ρ.n → V (a + 4) x = zi (ρ.S 2 x) := hC.2.2.1 2 (by omega)
  have vs3 : V (a + 1) 3 = .ref (a + 5) := (hP.2.2.2.2.2.2.2.1 3 (by omega)).1
  have ts3 : s.tg (a + 5) = 20 := (hP.2.2.2.2.2.2.2.1 3 (by omega)).2.1
  have ls3 : s.ln (a + 5) = 12 := (hP.2.2.2.2.2.2.2.1 3 (by omega)).2.2
  have es3 : ∀ x : Int, 0 ≤ x → x < ρ.n → V (a + 5) x = zi (ρ.S 3 x) := hC.2.2.1 3 (by omega)
  have vs4 : V (a + 1) 4 = .ref (a + 6) := (hP.2.2.2.2.2.2.2.1 4 (by omega)).1
  have ts4 : s.tg (a + 6) = 20 := (hP.2.2.2.2.2.2.2.1 4 (by omega)).2.1
  have ls4 : s.ln (a + 6) = 12 := (hP.2.2.2.2.2.2.2.1 4 (by omega)).2.2
  have es4 : ∀ x : Int, 0 ≤ x → x < ρ.n → V (a + 6) x = zi (ρ.S 4 x) := hC.2.2.1 4 (by omega)
  have vs5 : V (a + 1) 5 = .ref (a + 7) := (hP.2.2.2.2.2.2.2.1 5 (by omega)).1
  have ts5 : s.tg (a + 7) = 20 := (hP.2.2.2.2.2.2.2.1 5 (by omega)).2.1
  have ls5 : s.ln (a + 7) = 12 := (hP.2.2.2.2.2.2.2.1 5 (by omega)).2.2
  have es5 : ∀ x : Int, 0 ≤ x → x < ρ.n → V (a + 7) x = zi (ρ.S 5 x) := hC.2.2.1 5 (by omega)
  have vs6 : V (a + 1) 6 = .ref (a + 8) := (hP.2.2.2.2.2.2.2.1 6 (by omega)).1
  have ts6 : s.tg (a + 8) = 20 := (hP.2.2.2.2.2.2.2.1 6 (by omega)).2.1
  have ls6 : s.ln (a + 8) = 12 := (hP.2.2.2.2.2.2.2.1 6 (by omega)).2.2
  have es6 : ∀ x : Int, 0 ≤ x → x < ρ.n → V (a + 8) x = zi (ρ.S 6 x) := hC.2.2.1 6 (by omega)
  have vs7 : V (a + 1) 7 = .ref (a + 9) := (hP.2.2.2.2.2.2.2.1 7 (by omega)).1
  have ts7 : s.tg (a + 9) = 20 := (hP.2.2.2.2.2.2.2.1 7 (by omega)).2.1
  have ls7 : s.ln (a + 9) = 12 := (hP.2.2.2.2.2.2.2.1 7 (by omega)).2.2
  have es7 : ∀ x : Int, 0 ≤ x → x < ρ.n → V (a + 9) x = zi (ρ.S 7 x) := hC.2.2.1 7 (by omega)
  have vs8 : V (a + 1) 8 = .ref (a + 10) := (hP.2.2.2.2.2.2.2.1 8 (by omega)).1
  have ts8 : s.tg (a + 10) = 20 := (hP.2.2.2.2.2.2.2.1 8 (by omega)).2.1
  have ls8 : s.ln (a + 10) = 12 := (hP.2.2.2.2.2.2.2.1 8 (by omega)).2.2
  have es8 : ∀ x : Int, 0 ≤ x → x < ρ.n → V (a + 10) x = zi (ρ.S 8 x) := hC.2.2.1 8 (by omega)
  obtain ⟨t2, l2, v2⟩ := hA 2 (by omega)
  have u0 : V 2 0 = zi 1 := v2 0 (by omega)
  have u1 : V 2 1 = zi 100 := v2 1 (by omega)
  have u2 : V 2 2 = zi 2 := v2 2 (by omega)
  have u3 : V 2 3 = zi 3 := v2 3 (by omega)
  have u4 : V 2 4 = zi 1 := v2 4 (by omega)
  have u5 : V 2 5 = zi 990 := v2 5 (by omega)
  obtain ⟨d, rfl⟩ : ∃ e, d = e + 1 := ⟨d - 1, by omega⟩
  simp (disch := first | assumption | omega) only [zc_71]
  simp (disch := first | assumption | exact zk_71 | ((repeat (first | exact z1n | refine z1I ?_ | refine z1R ?_)); done) | exact rfl | omega | decide) only [zb_71_0, zb_71_1, zb_71_2, r_aload_0, r_gf_448, r_istore_2i, r_istore_2r, r_istore_2j, r_iconst, r_istore_3i, r_istore_3r, r_istore_3j, r_goto_w, r_iload_3, r_icmp_gt, r_gf_450, r_aaload, r_iload_2, r_gets, r_ial, r_ial30, r_ial32, r_iastore, r_iinc_3i, r_iinc_3r, r_iinc_3j, r_goto, r_iload_1, r_dup_i, r_dup_r, r_iadd, r_pf_448, r_iret, r_bret_0, r_bret_1, vA, vn, vc, vs0, es0, vs1, es1, vs2, es2, vs3, es3, vs4, es4, vs5, es5, vs6, es6, vs7, es7, vs8, es8, u0, u1, u2, u3, u4, u5, zput_r, ↓reduceIte, not_true_eq_false, not_false_eq_true, Int.reduceEq, Int.reduceLE, Int.reduceLT, Int.reduceAdd, Int.reduceNeg, Int.reduceMul, Int.reduceSub, Int.reduceToNat]
  refine hQ _ ?_ ?_ ?_
  · repeat (first | exact zFr.rf | refine zFr.p ?_ (by omega) (by omega))
  · repeat (first | exact hP | refine zStP.put ?_ (by omega) (by omega) | refine zStP.putf ?_ (by omega) (by omega))
  · refine ⟨zput_at, ?_, fun k hk y y0 y1 => ?_, fun k hk y y0 y1 => ?_, fun y y0 y1 => ?_⟩
    · simp (disch := omega) only [zput_r, zput_k, vc]
      rfl
    · have hn1 : (ρ.addS x).n = ρ.n + 1 := rfl
      have hS1 : (ρ.addS x).S k y = if y = ρ.n then (if (k : Int) = 0 then x else if (k : Int) = 1 then 100 else if (k : Int) = 2 then 2 else if (k : Int) = 3 then 3 else if (k : Int) = 4 then 1 else if (k : Int) = 5 then 990 else if (k : Int) = 6 then 1 else if (k : Int) = 7 then 0 else -1) else ρ.S k y := rfl
      rw [hn1] at y1
      rw [hS1, zput_r (by omega)]
      by_cases e : y = ρ.n
      · rw [if_pos e, e]
        rcases (by omega : k = 0 ∨ k = 1 ∨ k = 2 ∨ k = 3 ∨ k = 4 ∨ k = 5 ∨ k = 6 ∨ k = 7 ∨ k = 8) with rfl | rfl | rfl | rfl | rfl | rfl | rfl | rfl | rfl <;> simp (disch := omega) only [zput_r, zput_at] <;> rfl
      · rw [if_neg e]
        simp (disch := omega) only [zput_i]
        exact hC.2.2.1 k hk y y0 (by omega)
    · have hc1 : (ρ.addS x).c = ρ.c := rfl
      rw [hc1] at y1
      simp (disch := omega) only [zput_r]
      exact hC.2.2.2.1 k hk y y0 y1
    · have hc1 : (ρ.addS x).c = ρ.c := rfl
      rw [hc1] at y1
      simp (disch := omega) only [zput_r]
      exact (hC.2.2.2.2 y y0 y1).trans (congrArg zi (zLead_congr (fun _ _ _ => ⟨rfl, rfl⟩) y0))
end
