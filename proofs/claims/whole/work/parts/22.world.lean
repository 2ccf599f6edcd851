/-! WORLD: the abstract state of services and calls; the class's State objects; small methods of State -/
/-- services, calls, S what service, K what call -/
def zR : Type := Int × Int × (Int → Int → Int) × (Int → Int → Int)
def zR.n (ρ : zR) : Int := ρ.1
def zR.c (ρ : zR) : Int := ρ.2.1
def zR.S (ρ : zR) (w x : Int) : Int := ρ.2.2.1 w x
def zR.K (ρ : zR) (w k : Int) : Int := ρ.2.2.2 w k
/-- the last call below j of the service x that is no replacement -/
def zHd (ρ : zR) (x : Int) : Nat → Int
  | 0 => -1
  | j + 1 => if ρ.K 0 j = x ∧ ρ.K 4 j ≠ 2 then j else zHd ρ x j
def zLead (ρ : zR) (k : Int) : Int := if ρ.K 4 k = 2 then zHd ρ (ρ.K 0 k) k.toNat else -1
/-- a call from x to y -/
def zEd (ρ : zR) (x y : Int) : Prop := ∃ k, 0 ≤ k ∧ k < ρ.c ∧ ρ.K 0 k = x ∧ ρ.K 1 k = y
def zDep (ρ : zR) : Int → Int → Prop := Relation.TransGen (zEd ρ)
def zWFs (ρ : zR) : Prop := ∀ x, 0 ≤ x → x < ρ.n → (1 ≤ ρ.S 0 x ∧ ρ.S 0 x ≤ 100) ∧ (50 ≤ ρ.S 1 x ∧ ρ.S 1 x ≤ 400) ∧ (1 ≤ ρ.S 2 x ∧ ρ.S 2 x ≤ 9) ∧ (1 ≤ ρ.S 3 x ∧ ρ.S 3 x ≤ 20) ∧ (1 ≤ ρ.S 4 x ∧ ρ.S 4 x ≤ 9) ∧ (0 ≤ ρ.S 5 x ∧ ρ.S 5 x ≤ 1000) ∧ (0 ≤ ρ.S 6 x ∧ ρ.S 6 x ≤ 1) ∧ (0 ≤ ρ.S 7 x ∧ ρ.S 7 x ≤ 9) ∧ (-1 ≤ ρ.S 8 x ∧ ρ.S 8 x ≤ 20)
def zWFk (ρ : zR) : Prop := ∀ k, 0 ≤ k → k < ρ.c → (0 ≤ ρ.K 0 k ∧ ρ.K 0 k < ρ.n) ∧ (0 ≤ ρ.K 1 k ∧ ρ.K 1 k < ρ.n) ∧ (1 ≤ ρ.K 2 k ∧ ρ.K 2 k ≤ 500) ∧ (1 ≤ ρ.K 3 k ∧ ρ.K 3 k ≤ 3) ∧ (0 ≤ ρ.K 4 k ∧ ρ.K 4 k ≤ 2)
def zWF (ρ : zR) : Prop := (0 ≤ ρ.n ∧ ρ.n ≤ 12 ∧ 0 ≤ ρ.c ∧ ρ.c ≤ 24) ∧ zWFs ρ ∧ zWFk ρ ∧ (∀ x, ¬ zDep ρ x x) ∧ ∀ k, 0 ≤ k → k < ρ.c → ρ.K 4 k = 2 → 0 ≤ zHd ρ (ρ.K 0 k) k.toNat
/-- the structure of a State object at a; what it holds -/
def zStP (s : zS) (V : zV) (a : Nat) : Prop := s.tg a = 7 ∧ V a 2 = .ref (a + 1) ∧ s.tg (a + 1) = 24 ∧ s.ln (a + 1) = 9 ∧ V a 3 = .ref (a + 11) ∧ s.tg (a + 11) = 24 ∧ s.ln (a + 11) = 6 ∧
  (∀ k : Nat, k < 9 → V (a + 1) k = .ref (a + 2 + k) ∧ s.tg (a + 2 + k) = 20 ∧ s.ln (a + 2 + k) = 12) ∧ (∀ k : Nat, k < 6 → V (a + 11) k = .ref (a + 12 + k) ∧ s.tg (a + 12 + k) = 20 ∧ s.ln (a + 12 + k) = 24)
def zStC (ρ : zR) (V : zV) (a : Nat) : Prop := V a 0 = zi ρ.n ∧ V a 1 = zi ρ.c ∧ (∀ k : Nat, k < 9 → ∀ x : Int, 0 ≤ x → x < ρ.n → V (a + 2 + k) x = zi (ρ.S k x)) ∧ (∀ k : Nat, k < 5 → ∀ x : Int, 0 ≤ x → x < ρ.c → V (a + 12 + k) x = zi (ρ.K k x)) ∧ (∀ x : Int, 0 ≤ x → x < ρ.c → V (a + 17) x = zi (zLead ρ x))
/-- nothing but the State at a has changed -/
def zFr (a : Nat) (V V' : zV) : Prop := ∀ r : Nat, r < a ∨ a + 18 ≤ r → V' r = V r
/-- the static rows -/
def zStI2 : List (List Int) := [[1, 50, 1, 1, 1, 0], [100, 400, 9, 20, 9, 1000], [1, 100, 2, 3, 1, 990]]
def zSA (s : zS) (V : zV) : Prop := ∀ k : Nat, k < 3 → s.tg k = 30 ∧ s.ln k = 6 ∧ ∀ j : Nat, j < 6 → V k j = zi ((zStI2.getD k []).getD j 0)
section
variable {d : Nat} {s : zS} {V : zV} {Q : zO → zH → Prop} {a : Nat} {ρ : zR} {h : zH}
/-- an int of the machine -/
def zI32 (x : Int) : Prop := -2147483648 ≤ x ∧ x < 2147483648
set_option maxRecDepth 20000 in
theorem c_within (hd : 1 ≤ d) {x y z : Int} (hx : zI32 x) (hy : zI32 y) (hz : zI32 z) : zcall d 157 [zi x, zi y, zi z] h Q = if y ≤ x ∧ x ≤ z then Q (.inl (some (zi 0))) h else Q (.inl (some (zi 2))) h := by
  obtain ⟨x1, x2⟩ := hx
  obtain ⟨y1, y2⟩ := hy
  obtain ⟨z1, z2⟩ := hz
  obtain ⟨d, rfl⟩ : ∃ e, d = e + 1 := ⟨d - 1, by omega⟩
  simp (disch := first | assumption | omega) only [zc_157]
  simp (disch := first | assumption | exact zk_157 | ((repeat (first | exact z1n | refine z1I ?_ | refine z1R ?_)); done) | exact rfl | omega | decide) only [zb_157_0, zb_157_1, zb_157_2, zb_157_3, r_iload_0, r_iload_1, r_icmp_lt, r_iload_2, r_icmp_le, r_goto_w, r_iconst, r_goto, r_iret, r_bret_0, r_bret_1, ↓reduceIte, not_true_eq_false, not_false_eq_true, Int.reduceEq, Int.reduceLE, Int.reduceLT, Int.reduceAdd, Int.reduceNeg, Int.reduceMul, Int.reduceSub, Int.reduceToNat]
  (repeat' split) <;> first | rfl | (exfalso; omega) | (exfalso; grind)
set_option maxRecDepth 20000 in
theorem c_contains (hd : 1 ≤ d) {v : Nat} {x : Int} (hv : v < 4096) (h1 : 0 ≤ x) (h2 : x < 31) : zcall d 158 [zi v, zi x] h Q = if zin v x = true then Q (.inl (some (zi 1))) h else Q (.inl (some (zi 0))) h := by
  obtain ⟨d, rfl⟩ : ∃ e, d = e + 1 := ⟨d - 1, by omega⟩
  simp (disch := first | assumption | omega) only [zc_158]
  have e := zhas (a := v) (x := x) (by omega) h1 h2
  by_cases c : zin v x = true
  · rw [if_pos c] at e
    rw [if_pos c]
    simp (disch := first | assumption | exact zk_158 | ((repeat (first | exact z1n | refine z1I ?_ | refine z1R ?_)); done) | exact rfl | omega | decide) only [zb_158_0, zb_158_1, zb_158_2, r_iload_0, r_iload_1, r_ishr, r_iconst, r_iand, r_if_eq, r_goto, r_goto_w, r_iret, r_bret_0, r_bret_1, e, ↓reduceIte, not_true_eq_false, not_false_eq_true, Int.reduceEq, Int.reduceLE, Int.reduceLT, Int.reduceAdd, Int.reduceNeg, Int.reduceMul, Int.reduceSub, Int.reduceToNat]
  · rw [if_neg c] at e
    rw [if_neg c]
    simp (disch := first | assumption | exact zk_158 | ((repeat (first | exact z1n | refine z1I ?_ | refine z1R ?_)); done) | exact rfl | omega | decide) only [zb_158_0, zb_158_1, zb_158_2, r_iload_0, r_iload_1, r_ishr, r_iconst, r_iand, r_if_eq, r_goto, r_goto_w, r_iret, r_bret_0, r_bret_1, e, ↓reduceIte, not_true_eq_false, not_false_eq_true, Int.reduceEq, Int.reduceLE, Int.reduceLT, Int.reduceAdd, Int.reduceNeg, Int.reduceMul, Int.reduceSub, Int.reduceToNat]
set_option maxRecDepth 20000 in
theorem c_whyNoService (hd : 1 ≤ d) (hP : zStP s V a) (hC : zStC ρ V a) (hW : zWF ρ) {x : Int} (hx : zI32 x) : zcall d 67 [.ref a, zi x] (s, V) Q = if 0 ≤ x ∧ x < ρ.n then Q (.inl (some (zi 0))) (s, V) else Q (.inl (some (zi 1))) (s, V) := by
  obtain ⟨x1, x2⟩ := hx
  obtain ⟨n0, n1, c0, c1⟩ := hW.1
  have tO := hP.1
  have vn := hC.1
  have vc := hC.2.1
  obtain ⟨d, rfl⟩ : ∃ e, d = e + 1 := ⟨d - 1, by omega⟩
  simp (disch := first | assumption | omega) only [zc_67]
  simp (disch := first | assumption | exact zk_67 | ((repeat (first | exact z1n | refine z1I ?_ | refine z1R ?_)); done) | exact rfl | omega | decide) only [zb_67_0, zb_67_1, zb_67_2, zb_67_3, r_iload_1, r_if_lt, r_aload_0, r_gf_448, r_icmp_lt, r_goto_w, r_iconst, r_goto, r_iret, r_bret_0, r_bret_1, vn, vc, ↓reduceIte, not_true_eq_false, not_false_eq_true, Int.reduceEq, Int.reduceLE, Int.reduceLT, Int.reduceAdd, Int.reduceNeg, Int.reduceMul, Int.reduceSub, Int.reduceToNat]
  (repeat' split) <;> first | rfl | (exfalso; omega) | (exfalso; grind)
set_option maxRecDepth 20000 in
theorem c_whyNoCall (hd : 1 ≤ d) (hP : zStP s V a) (hC : zStC ρ V a) (hW : zWF ρ) {x : Int} (hx : zI32 x) : zcall d 68 [.ref a, zi x] (s, V) Q = if 0 ≤ x ∧ x < ρ.c then Q (.inl (some (zi 0))) (s, V) else Q (.inl (some (zi 1))) (s, V) := by
  obtain ⟨x1, x2⟩ := hx
  obtain ⟨n0, n1, c0, c1⟩ := hW.1
  have tO := hP.1
  have vn := hC.1
  have vc := hC.2.1
  obtain ⟨d, rfl⟩ : ∃ e, d = e + 1 := ⟨d - 1, by omega⟩
  simp (disch := first | assumption | omega) only [zc_68]
  simp (disch := first | assumption | exact zk_68 | ((repeat (first | exact z1n | refine z1I ?_ | refine z1R ?_)); done) | exact rfl | omega | decide) only [zb_68_0, zb_68_1, zb_68_2, zb_68_3, r_iload_1, r_if_lt, r_aload_0, r_gf_449, r_icmp_lt, r_goto_w, r_iconst, r_goto, r_iret, r_bret_0, r_bret_1, vn, vc, ↓reduceIte, not_true_eq_false, not_false_eq_true, Int.reduceEq, Int.reduceLE, Int.reduceLT, Int.reduceAdd, Int.reduceNeg, Int.reduceMul, Int.reduceSub, Int.reduceToNat]
  (repeat' split) <;> first | rfl | (exfalso; omega) | (exfalso; grind)
set_option maxRecDepth 20000 in
theorem c_isUp (hd : 1 ≤ d) (hP : zStP s V a) (hC : zStC ρ V a) (hW : zWF ρ) {x : Int} (h1 : 0 ≤ x) (h2 : x < ρ.n) : zcall d 91 [.ref a, zi x] (s, V) Q = if ρ.S 6 x = 1 then Q (.inl (some (zi 1))) (s, V) else Q (.inl (some (zi 0))) (s, V) := by
  obtain ⟨n0, n1, c0, c1⟩ := hW.1
  have w := (hW.2.1 x h1 h2).2.2.2.2.2.2.1
  have tO := hP.1
  have vA := hP.2.1
  have tA := hP.2.2.1
  have lA := hP.2.2.2.1
  have vn := hC.1
  have vc := hC.2.1
  have vs6 : V (a + 1) 6 = .ref (a + 8) := (hP.2.2.2.2.2.2.2.1 6 (by omega)).1
  have ts6 : s.tg (a + 8) = 20 := (hP.2.2.2.2.2.2.2.1 6 (by omega)).2.1
  have ls6 : s.ln (a + 8) = 12 := (hP.2.2.2.2.2.2.2.1 6 (by omega)).2.2
  have es6 : ∀ x : Int, 0 ≤ x → x < ρ.n → V (a + 8) x = zi (ρ.S 6 x) := hC.2.2.1 6 (by omega)
  obtain ⟨d, rfl⟩ : ∃ e, d = e + 1 := ⟨d - 1, by omega⟩
  simp (disch := first | assumption | omega) only [zc_91]
  simp (disch := first | assumption | exact zk_91 | ((repeat (first | exact z1n | refine z1I ?_ | refine z1R ?_)); done) | exact rfl | omega | decide) only [zb_91_0, zb_91_1, zb_91_2, r_aload_0, r_gf_450, r_iconst, r_aaload, r_iload_1, r_ial, r_ial30, r_ial32, r_icmp_ne, r_goto, r_goto_w, r_iret, r_bret_0, r_bret_1, vA, vn, vc, vs6, es6, ↓reduceIte, not_true_eq_false, not_false_eq_true, Int.reduceEq, Int.reduceLE, Int.reduceLT, Int.reduceAdd, Int.reduceNeg, Int.reduceMul, Int.reduceSub, Int.reduceToNat]
  (repeat' split) <;> first | rfl | (exfalso; omega) | (exfalso; grind)
set_option maxRecDepth 20000 in
theorem c_own (hd : 1 ≤ d) (hP : zStP s V a) (hC : zStC ρ V a) (hW : zWF ρ) {x : Int} (h1 : 0 ≤ x) (h2 : x < ρ.n) : zcall d 81 [.ref a, zi x] (s, V) Q = Q (.inl (some (zi (zdiv (ρ.S 0 x * ρ.S 1 x + 99) 100)))) (s, V) := by
  obtain ⟨n0, n1, c0, c1⟩ := hW.1
  have tO := hP.1
  have vA := hP.2.1
  have tA := hP.2.2.1
  have lA := hP.2.2.2.1
  have vn := hC.1
  have vc := hC.2.1
  have vs0 : V (a + 1) 0 = .ref (a + 2) := (hP.2.2.2.2.2.2.2.1 0 (by omega)).1
  have ts0 : s.tg (a + 2) = 20 := (hP.2.2.2.2.2.2.2.1 0 (by omega)).2.1
  have ls0 : s.ln (a + 2) = 12 := (hP.2.2.2.2.2.2.2.1 0 (by omega)).2.2
  have es0 : ∀ x : Int, 0 ≤ x → x < ρ.n → V (a + 2) x = zi (ρ.S 0 x) := hC.2.2.1 0 (by omega)
  have vs1 : V (a + 1) 1 = .ref (a + 3) := (hP.2.2.2.2.2.2.2.1 1 (by omega)).1
  have ts1 : s.tg (a + 3) = 20 := (hP.2.2.2.2.2.2.2.1 1 (by omega)).2.1
  have ls1 : s.ln (a + 3) = 12 := (hP.2.2.2.2.2.2.2.1 1 (by omega)).2.2
  have es1 : ∀ x : Int, 0 ≤ x → x < ρ.n → V (a + 3) x = zi (ρ.S 1 x) := hC.2.2.1 1 (by omega)
  obtain ⟨d, rfl⟩ : ∃ e, d = e + 1 := ⟨d - 1, by omega⟩
  simp (disch := first | assumption | omega) only [zc_81]
  simp (disch := first | assumption | exact zk_81 | ((repeat (first | exact z1n | refine z1I ?_ | refine z1R ?_)); done) | exact rfl | omega | decide) only [zb_81_0, r_aload_0, r_gf_450, r_iconst, r_aaload, r_iload_1, r_ial, r_ial30, r_ial32, r_imul, r_iadd, r_idiv, r_iret, r_bret_0, r_bret_1, vA, vn, vc, vs0, es0, vs1, es1, ↓reduceIte, not_true_eq_false, not_false_eq_true, Int.reduceEq, Int.reduceLE, Int.reduceLT, Int.reduceAdd, Int.reduceNeg, Int.reduceMul, Int.reduceSub, Int.reduceToNat]
set_option maxRecDepth 20000 in
theorem c_isHeadOf (hd : 1 ≤ d) (hP : zStP s V a) (hC : zStC ρ V a) (hW : zWF ρ) {x k : Int} (h1 : 0 ≤ k) (h2 : k < ρ.c) (h3 : 0 ≤ x) (h4 : x < ρ.n) : zcall d 84 [.ref a, zi k, zi x] (s, V) Q = if ρ.K 0 k = x ∧ ρ.K 4 k ≠ 2 then Q (.inl (some (zi 1))) (s, V) else Q (.inl (some (zi 0))) (s, V) := by
  obtain ⟨n0, n1, c0, c1⟩ := hW.1
  have w := hW.2.2.1 k h1 h2
  have tO := hP.1
  have vB := hP.2.2.2.2.1
  have tB := hP.2.2.2.2.2.1
  have lB := hP.2.2.2.2.2.2.1
  have vn := hC.1
  have vc := hC.2.1
  have vc0 : V (a + 11) 0 = .ref (a + 12) := (hP.2.2.2.2.2.2.2.2 0 (by omega)).1
  have tc0 : s.tg (a + 12) = 20 := (hP.2.2.2.2.2.2.2.2 0 (by omega)).2.1
  have lc0 : s.ln (a + 12) = 24 := (hP.2.2.2.2.2.2.2.2 0 (by omega)).2.2
  have ec0 : ∀ x : Int, 0 ≤ x → x < ρ.c → V (a + 12) x = zi (ρ.K 0 x) := hC.2.2.2.1 0 (by omega)
  have vc4 : V (a + 11) 4 = .ref (a + 16) := (hP.2.2.2.2.2.2.2.2 4 (by omega)).1
  have tc4 : s.tg (a + 16) = 20 := (hP.2.2.2.2.2.2.2.2 4 (by omega)).2.1
  have lc4 : s.ln (a + 16) = 24 := (hP.2.2.2.2.2.2.2.2 4 (by omega)).2.2
  have ec4 : ∀ x : Int, 0 ≤ x → x < ρ.c → V (a + 16) x = zi (ρ.K 4 x) := hC.2.2.2.1 4 (by omega)
  obtain ⟨d, rfl⟩ : ∃ e, d = e + 1 := ⟨d - 1, by omega⟩
  simp (disch := first | assumption | omega) only [zc_84]
  simp (disch := first | assumption | exact zk_84 | ((repeat (first | exact z1n | refine z1I ?_ | refine z1R ?_)); done) | exact rfl | omega | decide) only [zb_84_0, zb_84_1, zb_84_2, r_aload_0, r_gf_451, r_iconst, r_aaload, r_iload_1, r_ial, r_ial30, r_ial32, r_iload_2, r_icmp_ne, r_icmp_eq, r_goto, r_goto_w, r_iret, r_bret_0, r_bret_1, vB, vn, vc, vc0, ec0, vc4, ec4, ↓reduceIte, not_true_eq_false, not_false_eq_true, Int.reduceEq, Int.reduceLE, Int.reduceLT, Int.reduceAdd, Int.reduceNeg, Int.reduceMul, Int.reduceSub, Int.reduceToNat]
  (repeat' split) <;> first | rfl | (exfalso; omega) | (exfalso; grind)
set_option maxRecDepth 20000 in
theorem c_isNeeded (hd : 1 ≤ d) (hP : zStP s V a) (hC : zStC ρ V a) (hW : zWF ρ) {k : Int} (h1 : 0 ≤ k) (h2 : k < ρ.c) : zcall d 86 [.ref a, zi k] (s, V) Q = if ρ.K 4 k = 0 then Q (.inl (some (zi 1))) (s, V) else Q (.inl (some (zi 0))) (s, V) := by
  obtain ⟨n0, n1, c0, c1⟩ := hW.1
  have w := hW.2.2.1 k h1 h2
  have tO := hP.1
  have vB := hP.2.2.2.2.1
  have tB := hP.2.2.2.2.2.1
  have lB := hP.2.2.2.2.2.2.1
  have vn := hC.1
  have vc := hC.2.1
  have vc4 : V (a + 11) 4 = .ref (a + 16) := (hP.2.2.2.2.2.2.2.2 4 (by omega)).1
  have tc4 : s.tg (a + 16) = 20 := (hP.2.2.2.2.2.2.2.2 4 (by omega)).2.1
  have lc4 : s.ln (a + 16) = 24 := (hP.2.2.2.2.2.2.2.2 4 (by omega)).2.2
  have ec4 : ∀ x : Int, 0 ≤ x → x < ρ.c → V (a + 16) x = zi (ρ.K 4 x) := hC.2.2.2.1 4 (by omega)
  obtain ⟨d, rfl⟩ : ∃ e, d = e + 1 := ⟨d - 1, by omega⟩
  simp (disch := first | assumption | omega) only [zc_86]
  simp (disch := first | assumption | exact zk_86 | ((repeat (first | exact z1n | refine z1I ?_ | refine z1R ?_)); done) | exact rfl | omega | decide) only [zb_86_0, zb_86_1, zb_86_2, r_aload_0, r_gf_451, r_iconst, r_aaload, r_iload_1, r_ial, r_ial30, r_ial32, r_if_ne, r_goto, r_goto_w, r_iret, r_bret_0, r_bret_1, vB, vn, vc, vc4, ec4, ↓reduceIte, not_true_eq_false, not_false_eq_true, Int.reduceEq, Int.reduceLE, Int.reduceLT, Int.reduceAdd, Int.reduceNeg, Int.reduceMul, Int.reduceSub, Int.reduceToNat]
  (repeat' split) <;> first | rfl | (exfalso; omega) | (exfalso; grind)
end
