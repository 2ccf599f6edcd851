/-! TEXT, 1: reading a command, in both -/
def zNum (l : Int) : Nat := if l = 97 ∨ l = 100 ∨ l = 114 ∨ l = 115 then 1 else if l = 99 then 5 else if l = 112 then 3 else 0
def zDig (T : Int → Int) (j : Int) : Bool := decide (48 ≤ T j ∧ T j ≤ 57)
/-- where the digits from p on end -/
def zDe (T : Int → Int) (n p : Int) : Int := zfst (fun j => !zDig T j) p (zMnI (p + 3) n)
/-- the value of the digits from p to q -/
def zVl (T : Int → Int) (p q : Int) : Int := zfo (fun k v => 10 * v + T (p + k) - 48) 0 (q - p)
/-- the rest of a command with m numbers: where it ends or is wrong, whether it is right -/
def zCmL (T : Int → Int) (n : Int) : Nat → Int → Int × Bool
  | 0, p => (p, true)
  | m + 1, p => if zDe T n p = p ∨ n ≤ zDe T n p ∨ T (zDe T n p) ≠ (if m = 0 then 59 else 44) then (zDe T n p, false) else zCmL T n m (zDe T n p + 1)
def zCm (T : Int → Int) (n p : Int) : Int × Bool := if zNum (T p) = 0 then (p, false) else zCmL T n (zNum (T p)) (p + 1)
/-- where the j-th number begins, the first one beginning at p -/
def zNs (T : Int → Int) (n : Int) : Nat → Int → Int
  | 0, p => p
  | j + 1, p => zDe T n (zNs T n j p) + 1
def zNb (T : Int → Int) (n p : Int) (j : Nat) : Int := zVl T (zNs T n j (p + 1)) (zDe T n (zNs T n j (p + 1)))
theorem zDe_is {T : Int → Int} {n p : Int} (h : p ≤ n) : p ≤ zDe T n p ∧ zDe T n p ≤ p + 3 ∧ zDe T n p ≤ n ∧ (∀ j, p ≤ j → j < zDe T n p → 48 ≤ T j ∧ T j ≤ 57) ∧ (zDe T n p < p + 3 → zDe T n p < n → ¬ (48 ≤ T (zDe T n p) ∧ T (zDe T n p) ≤ 57)) := by
  have hm : p ≤ zMnI (p + 3) n ∧ zMnI (p + 3) n ≤ p + 3 ∧ zMnI (p + 3) n ≤ n ∧ (zMnI (p + 3) n = p + 3 ∨ zMnI (p + 3) n = n) := by unfold zMnI; split <;> omega
  obtain ⟨a, b, c, e⟩ := zfst_is (fun j => !zDig T j) hm.1
  refine ⟨a, by unfold zDe; omega, by unfold zDe; omega, fun j j0 j1 => ?_, fun q1 q2 => ?_⟩
  · have := c j j0 j1
    unfold zDig at this
    simpa using this
  · have h9 : (!zDig T (zDe T n p)) = true := e (by unfold zDe at q1 q2; omega)
    rw [Bool.not_eq_true'] at h9
    exact of_decide_eq_false h9
theorem zVl_s {T : Int → Int} {p q : Int} (h : p ≤ q) : zVl T p (q + 1) = 10 * zVl T p q + T q - 48 := by
  unfold zVl
  rw [show q + 1 - p = (q - p) + 1 by omega, zfo_s (by omega), show p + (q - p) = q by omega]
theorem zVl_0 {T : Int → Int} {p : Int} : zVl T p p = 0 := by
  unfold zVl
  rw [Int.sub_self]
  rfl
theorem zVl_rng {T : Int → Int} {p q : Int} (h : p ≤ q) (h3 : q ≤ p + 3) (hd : ∀ j, p ≤ j → j < q → 48 ≤ T j ∧ T j ≤ 57) : 0 ≤ zVl T p q ∧ zVl T p q ≤ 999 := by
  rcases (by omega : q = p ∨ q = p + 1 ∨ q = p + 1 + 1 ∨ q = p + 1 + 1 + 1) with e | e | e | e
  · rw [e, zVl_0]; omega
  · have h0 := hd p (by omega) (by omega)
    rw [e, zVl_s (by omega), zVl_0]; omega
  · have h0 := hd p (by omega) (by omega)
    have h1 := hd (p + 1) (by omega) (by omega)
    rw [e, zVl_s (by omega), zVl_s (by omega), zVl_0]; omega
  · have h0 := hd p (by omega) (by omega)
    have h1 := hd (p + 1) (by omega) (by omega)
    have h2 := hd (p + 1 + 1) (by omega) (by omega)
    rw [e, zVl_s (by omega), zVl_s (by omega), zVl_s (by omega), zVl_0]; omega
section
variable {d : Nat} {s : zS} {V : zV} {Q : zO → zH → Prop} {h : zH} {T : Int → Int} {n : Int}
/-- the class's Text; its signs -/
def zTxP (s : zS) (V : zV) : Prop := s.tg 155 = 8 ∧ (V 155 0 = .ref 156 ∧ V 155 2 = .ref 157 ∧ V 155 3 = .ref 158) ∧ (s.tg 156 = 20 ∧ s.ln 156 = 120) ∧ (s.tg 157 = 20 ∧ s.ln 157 = 40) ∧ (s.tg 158 = 24 ∧ s.ln 158 = 5) ∧ ∀ w : Nat, w < 5 → V 158 w = .ref (159 + w) ∧ s.tg (159 + w) = 20 ∧ s.ln (159 + w) = 40
def zTxC (T : Int → Int) (n : Int) (V : zV) : Prop := V 155 1 = zi n ∧ ∀ k, 0 ≤ k → k < n → V 156 k = zi (T k)
def zTok2 (T : Int → Int) (n : Int) : Prop := (0 ≤ n ∧ n ≤ 120) ∧ ∀ k, 0 ≤ k → k < n → 0 ≤ T k ∧ T k ≤ 127
set_option maxRecDepth 20000 in
theorem c_numbersOf (hd : 1 ≤ d) {l : Int} (l0 : 0 ≤ l) (l1 : l ≤ 127) : zcall d 110 [zi l] h Q = Q (.inl (some (zi (zNum l : Nat)))) h := by
  obtain ⟨d, rfl⟩ : ∃ e, d = e + 1 := ⟨d - 1, by omega⟩
  simp (disch := first | assumption | omega) only [zc_110]
  have hs : zsw [(97, 1), (98, 4), (99, 3), (100, 1), (101, 4), (102, 4), (103, 4), (104, 4), (105, 4), (106, 4), (107, 4), (108, 4), (109, 4), (110, 4), (111, 4), (112, 2), (113, 4), (114, 1), (115, 1)] 4 l = if zNum l = 1 then 1 else if zNum l = 3 then 2 else if zNum l = 5 then 3 else 4 := by
    have : ∀ m : Nat, m < 128 → zsw [(97, 1), (98, 4), (99, 3), (100, 1), (101, 4), (102, 4), (103, 4), (104, 4), (105, 4), (106, 4), (107, 4), (108, 4), (109, 4), (110, 4), (111, 4), (112, 2), (113, 4), (114, 1), (115, 1)] 4 (m : Int) = if zNum (m : Int) = 1 then 1 else if zNum (m : Int) = 3 then 2 else if zNum (m : Int) = 5 then 3 else 4 := by decide +kernel
    have := this l.toNat (by omega)
    rwa [Int.toNat_of_nonneg l0] at this
  have hn : zNum l = 0 ∨ zNum l = 1 ∨ zNum l = 3 ∨ zNum l = 5 := by unfold zNum; (repeat' split) <;> omega
  rcases hn with e | e | e | e
  · rw [e] at hs ⊢
    have hs : zsw [(97, 1), (98, 4), (99, 3), (100, 1), (101, 4), (102, 4), (103, 4), (104, 4), (105, 4), (106, 4), (107, 4), (108, 4), (109, 4), (110, 4), (111, 4), (112, 2), (113, 4), (114, 1), (115, 1)] 4 l = 4 := hs
    simp (disch := first | assumption | exact zk_110 | ((repeat (first | exact z1n | refine z1I ?_ | refine z1R ?_)); done) | exact rfl | omega | decide) only [zb_110_0, zb_110_4, r_iload_0, r_sw, r_iconst, r_iret, r_bret_0, r_bret_1, hs, ↓reduceIte, not_true_eq_false, not_false_eq_true, Int.reduceEq, Int.reduceLE, Int.reduceLT, Int.reduceAdd, Int.reduceNeg, Int.reduceMul, Int.reduceSub, Int.reduceToNat]
    rfl
  · rw [e] at hs ⊢
    have hs : zsw [(97, 1), (98, 4), (99, 3), (100, 1), (101, 4), (102, 4), (103, 4), (104, 4), (105, 4), (106, 4), (107, 4), (108, 4), (109, 4), (110, 4), (111, 4), (112, 2), (113, 4), (114, 1), (115, 1)] 4 l = 1 := hs
    simp (disch := first | assumption | exact zk_110 | ((repeat (first | exact z1n | refine z1I ?_ | refine z1R ?_)); done) | exact rfl | omega | decide) only [zb_110_0, zb_110_1, r_iload_0, r_sw, r_iconst, r_iret, r_bret_0, r_bret_1, hs, ↓reduceIte, not_true_eq_false, not_false_eq_true, Int.reduceEq, Int.reduceLE, Int.reduceLT, Int.reduceAdd, Int.reduceNeg, Int.reduceMul, Int.reduceSub, Int.reduceToNat]
    rfl
  · rw [e] at hs ⊢
    have hs : zsw [(97, 1), (98, 4), (99, 3), (100, 1), (101, 4), (102, 4), (103, 4), (104, 4), (105, 4), (106, 4), (107, 4), (108, 4), (109, 4), (110, 4), (111, 4), (112, 2), (113, 4), (114, 1), (115, 1)] 4 l = 2 := hs
    simp (disch := first | assumption | exact zk_110 | ((repeat (first | exact z1n | refine z1I ?_ | refine z1R ?_)); done) | exact rfl | omega | decide) only [zb_110_0, zb_110_2, r_iload_0, r_sw, r_iconst, r_iret, r_bret_0, r_bret_1, hs, ↓reduceIte, not_true_eq_false, not_false_eq_true, Int.reduceEq, Int.reduceLE, Int.reduceLT, Int.reduceAdd, Int.reduceNeg, Int.reduceMul, Int.reduceSub, Int.reduceToNat]
    rfl
  · rw [e] at hs ⊢
    have hs : zsw [(97, 1), (98, 4), (99, 3), (100, 1), (101, 4), (102, 4), (103, 4), (104, 4), (105, 4), (106, 4), (107, 4), (108, 4), (109, 4), (110, 4), (111, 4), (112, 2), (113, 4), (114, 1), (115, 1)] 4 l = 3 := hs
    simp (disch := first | assumption | exact zk_110 | ((repeat (first | exact z1n | refine z1I ?_ | refine z1R ?_)); done) | exact rfl | omega | decide) only [zb_110_0, zb_110_3, r_iload_0, r_sw, r_iconst, r_iret, r_bret_0, r_bret_1, hs, ↓reduceIte, not_true_eq_false, not_false_eq_true, Int.reduceEq, Int.reduceLE, Int.reduceLT, Int.reduceAdd, Int.reduceNeg, Int.reduceMul, Int.reduceSub, Int.reduceToNat]
    rfl
set_option maxRecDepth 20000 in
theorem c_endOfDigits (hd : 1 ≤ d) (hP : zTxP s V) (hC : zTxC T n V) (hk : zTok2 T n) {p : Int} (p0 : 0 ≤ p) (p1 : p ≤ n) : zcall d 111 [.ref 155, zi p] (s, V) Q = Q (.inl (some (zi (zDe T n p)))) (s, V) := by
  obtain ⟨t1, ⟨v0, -, -⟩, ⟨t2, l2⟩, -⟩ := hP
  obtain ⟨u1, hT⟩ := hC
  obtain ⟨⟨n0, n1⟩, hr⟩ := hk
  obtain ⟨a, b, c, e, f⟩ := zDe_is (T := T) p1
  obtain ⟨d, rfl⟩ : ∃ e, d = e + 1 := ⟨d - 1, by omega⟩
  simp (disch := first | assumption | omega) only [zc_111]
  simp (disch := first | assumption | exact zk_111 | ((repeat (first | exact z1n | refine z1I ?_ | refine z1R ?_)); done) | exact rfl | omega | decide) only [zb_111_0, r_iload_1, r_istore_2i, r_istore_2r, r_istore_2j, r_goto_w, r_iload_2, r_aload_0, r_gf_513, r_icmp_ge, r_iconst, r_iadd, r_gf_512, r_ial, r_ial30, r_ial32, r_icmp_lt, r_icmp_gt, r_iinc_2i, r_iinc_2r, r_iinc_2j, r_goto, r_iret, r_bret_0, r_bret_1, ↓reduceIte, not_true_eq_false, not_false_eq_true, Int.reduceEq, Int.reduceLE, Int.reduceLT, Int.reduceAdd, Int.reduceNeg, Int.reduceMul, Int.reduceSub, Int.reduceToNat]
  generalize hq : zDe T n p = q at *
  refine (z_chainA (F := fun j => zwp (zcall d) 111 Q (zB 111 1) [.ref 155, zi p, zi j] [] (s, V)) a (fun j j0 j1 => ?_)).trans ?_
  · have hj := hT j (by omega) (by omega)
    have hg := e j j0 j1
    conv => lhs; rw [zb_111_1]
    simp (disch := first | assumption | exact zk_111 | ((repeat (first | exact z1n | refine z1I ?_ | refine z1R ?_)); done) | exact rfl | omega | decide) only [r_iload_1, r_istore_2i, r_istore_2r, r_istore_2j, r_goto_w, r_iload_2, r_aload_0, r_gf_513, r_icmp_ge, r_iconst, r_iadd, r_gf_512, r_ial, r_ial30, r_ial32, r_icmp_lt, r_icmp_gt, r_iinc_2i, r_iinc_2r, r_iinc_2j, r_goto, r_iret, r_bret_0, r_bret_1, u1, v0, hj, ↓reduceIte, not_true_eq_false, not_false_eq_true, Int.reduceEq, Int.reduceLE, Int.reduceLT, Int.reduceAdd, Int.reduceNeg, Int.reduceMul, Int.reduceSub, Int.reduceToNat]
    rw [if_neg (by omega), if_neg (by omega), if_neg (by omega), if_neg (by omega)]
  · by_cases z1 : q < n
    · have hj := hT q (by omega) z1
      have hrq := hr q (by omega) z1
      conv => lhs; rw [zb_111_1]
      simp (disch := first | assumption | exact zk_111 | ((repeat (first | exact z1n | refine z1I ?_ | refine z1R ?_)); done) | exact rfl | omega | decide) only [zb_111_2, r_iload_1, r_istore_2i, r_istore_2r, r_istore_2j, r_goto_w, r_iload_2, r_aload_0, r_gf_513, r_icmp_ge, r_iconst, r_iadd, r_gf_512, r_ial, r_ial30, r_ial32, r_icmp_lt, r_icmp_gt, r_iinc_2i, r_iinc_2r, r_iinc_2j, r_goto, r_iret, r_bret_0, r_bret_1, u1, v0, hj, ↓reduceIte, not_true_eq_false, not_false_eq_true, Int.reduceEq, Int.reduceLE, Int.reduceLT, Int.reduceAdd, Int.reduceNeg, Int.reduceMul, Int.reduceSub, Int.reduceToNat]
      rw [if_neg (by omega)]
      by_cases z2 : q < p + 3
      · have := f z2 z1
        rw [if_neg (by omega)]
        (repeat' split) <;> first | rfl | (exfalso; omega)
      · rw [if_pos (by omega)]
    · have : q = n := by omega
      subst this
      simp (disch := first | assumption | exact zk_111 | ((repeat (first | exact z1n | refine z1I ?_ | refine z1R ?_)); done) | exact rfl | omega | decide) only [zb_111_1, zb_111_2, r_iload_1, r_istore_2i, r_istore_2r, r_istore_2j, r_goto_w, r_iload_2, r_aload_0, r_gf_513, r_icmp_ge, r_iconst, r_iadd, r_gf_512, r_ial, r_ial30, r_ial32, r_icmp_lt, r_icmp_gt, r_iinc_2i, r_iinc_2r, r_iinc_2j, r_goto, r_iret, r_bret_0, r_bret_1, u1, Int.le_refl, ↓reduceIte, not_true_eq_false, not_false_eq_true, Int.reduceEq, Int.reduceLE, Int.reduceLT, Int.reduceAdd, Int.reduceNeg, Int.reduceMul, Int.reduceSub, Int.reduceToNat]
set_option maxRecDepth 20000 in
theorem c_valueOf (hd : 1 ≤ d) (hP : zTxP s V) (hC : zTxC T n V) (hk : zTok2 T n) {p q : Int} (p0 : 0 ≤ p) (p1 : p ≤ q) (q1 : q ≤ n) : zcall d 112 [.ref 155, zi p, zi q] (s, V) Q = Q (.inl (some (zi (zVl T p q)))) (s, V) := by
  obtain ⟨t1, ⟨v0, -, -⟩, ⟨t2, l2⟩, -⟩ := hP
  obtain ⟨u1, hT⟩ := hC
  obtain ⟨⟨n0, n1⟩, hr⟩ := hk
  obtain ⟨d, rfl⟩ : ∃ e, d = e + 1 := ⟨d - 1, by omega⟩
  simp (disch := first | assumption | omega) only [zc_112]
  simp (disch := first | assumption | exact zk_112 | ((repeat (first | exact z1n | refine z1I ?_ | refine z1R ?_)); done) | exact rfl | omega | decide) only [zb_112_0, r_iconst, r_istore_3i, r_istore_3r, r_istore_3j, r_iload_1, r_istore_4i, r_istore_4r, r_istore_4j, r_goto_w, r_iload_4, r_iload_2, r_icmp_ge, r_iload_3, r_imul, r_aload_0, r_gf_512, r_ial, r_ial30, r_ial32, r_iadd, r_isub, r_iinc_4i, r_iinc_4r, r_iinc_4j, r_goto, r_iret, r_bret_0, r_bret_1, ↓reduceIte, not_true_eq_false, not_false_eq_true, Int.reduceEq, Int.reduceLE, Int.reduceLT, Int.reduceAdd, Int.reduceNeg, Int.reduceMul, Int.reduceSub, Int.reduceToNat]
  have hch := z_chainA (F := fun j => zwp (zcall d) 112 Q (zB 112 1) [.ref 155, zi p, zi q, zi (zVl T p j), zi j] [] (s, V)) p1 (fun j j0 j1 => by
    have hj := hT j (by omega) (by omega)
    conv => lhs; rw [zb_112_1]
    rw [zVl_s j0]
    simp (disch := first | assumption | exact zk_112 | ((repeat (first | exact z1n | refine z1I ?_ | refine z1R ?_)); done) | exact rfl | omega | decide) only [r_iconst, r_istore_3i, r_istore_3r, r_istore_3j, r_iload_1, r_istore_4i, r_istore_4r, r_istore_4j, r_goto_w, r_iload_4, r_iload_2, r_icmp_ge, r_iload_3, r_imul, r_aload_0, r_gf_512, r_ial, r_ial30, r_ial32, r_iadd, r_isub, r_iinc_4i, r_iinc_4r, r_iinc_4j, r_goto, r_iret, r_bret_0, r_bret_1, v0, hj, ↓reduceIte, not_true_eq_false, not_false_eq_true, Int.reduceEq, Int.reduceLE, Int.reduceLT, Int.reduceAdd, Int.reduceNeg, Int.reduceMul, Int.reduceSub, Int.reduceToNat]
    rw [if_neg (by omega)])
  rw [zVl_0] at hch
  rw [hch]
  simp (disch := first | assumption | exact zk_112 | ((repeat (first | exact z1n | refine z1I ?_ | refine z1R ?_)); done) | exact rfl | omega | decide) only [zb_112_1, zb_112_2, r_iconst, r_istore_3i, r_istore_3r, r_istore_3j, r_iload_1, r_istore_4i, r_istore_4r, r_istore_4j, r_goto_w, r_iload_4, r_iload_2, r_icmp_ge, r_iload_3, r_imul, r_aload_0, r_gf_512, r_ial, r_ial30, r_ial32, r_iadd, r_isub, r_iinc_4i, r_iinc_4r, r_iinc_4j, r_goto, r_iret, r_bret_0, r_bret_1, Int.le_refl, ↓reduceIte, not_true_eq_false, not_false_eq_true, Int.reduceEq, Int.reduceLE, Int.reduceLT, Int.reduceAdd, Int.reduceNeg, Int.reduceMul, Int.reduceSub, Int.reduceToNat]
end
