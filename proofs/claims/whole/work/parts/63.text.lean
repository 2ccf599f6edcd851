/-! TEXT, 3: a command in the model -/
section
variable {d : Nat} {s : zS} {V : zV} {Q : zO → zH → Prop} {h : zH} {T : Int → Int} {n : Int}
/-- the model's text -/
def zMx (T : Int → Int) (n : Int) (V : zV) : Prop := V 164 5 = zi n ∧ ∀ k, 0 ≤ k → k < n → V 168 k = zi (T k)
theorem zMx.fm {l : List Nat} {ks : List Int} {V' : zV} (hC : zMx T n V) (h : zFm l ks V V') (hl : 168 ∉ l) (hk : (5 : Int) ∉ ks) : zMx T n V' := by
  unfold zMx
  rw [h.1 168 (by decide) hl, h.2 5 hk]
  exact hC
set_option maxRecDepth 20000 in
theorem m_numbersOf (hd : 1 ≤ d) {l : Int} (l0 : 0 ≤ l) (l1 : l ≤ 127) : zcall d 262 [zi l] h Q = Q (.inl (some (zi (zNum l : Nat)))) h := by
  obtain ⟨d, rfl⟩ : ∃ e, d = e + 1 := ⟨d - 1, by omega⟩
  simp (disch := first | assumption | omega) only [zc_262]
  have hs : zsw [(97, 1), (98, 4), (99, 2), (100, 1), (101, 4), (102, 4), (103, 4), (104, 4), (105, 4), (106, 4), (107, 4), (108, 4), (109, 4), (110, 4), (111, 4), (112, 3), (113, 4), (114, 1), (115, 1)] 4 l = if zNum l = 1 then 1 else if zNum l = 3 then 3 else if zNum l = 5 then 2 else 4 := by
    have : ∀ m : Nat, m < 128 → zsw [(97, 1), (98, 4), (99, 2), (100, 1), (101, 4), (102, 4), (103, 4), (104, 4), (105, 4), (106, 4), (107, 4), (108, 4), (109, 4), (110, 4), (111, 4), (112, 3), (113, 4), (114, 1), (115, 1)] 4 (m : Int) = if zNum (m : Int) = 1 then 1 else if zNum (m : Int) = 3 then 3 else if zNum (m : Int) = 5 then 2 else 4 := by decide +kernel
    have := this l.toNat (by omega)
    rwa [Int.toNat_of_nonneg l0] at this
  have hn : zNum l = 0 ∨ zNum l = 1 ∨ zNum l = 3 ∨ zNum l = 5 := by unfold zNum; (repeat' split) <;> omega
  have hb : ∀ k : Int, zsw [(97, 1), (98, 4), (99, 2), (100, 1), (101, 4), (102, 4), (103, 4), (104, 4), (105, 4), (106, 4), (107, 4), (108, 4), (109, 4), (110, 4), (111, 4), (112, 3), (113, 4), (114, 1), (115, 1)] 4 l = k → zsw [(97, 1), (98, 4), (99, 2), (100, 1), (101, 4), (102, 4), (103, 4), (104, 4), (105, 4), (106, 4), (107, 4), (108, 4), (109, 4), (110, 4), (111, 4), (112, 3), (113, 4), (114, 1), (115, 1)] 4 l = k := fun _ h => h
  rcases hn with e | e | e | e
  · rw [e] at hs ⊢
    have hs := hb 4 hs
    simp (disch := first | assumption | exact zk_262 | ((repeat (first | exact z1n | refine z1I ?_ | refine z1R ?_)); done) | exact rfl | omega | decide) only [zb_262_0, zb_262_4, r_iload_0, r_sw, r_iconst, r_iret, r_bret_0, r_bret_1, hs, ↓reduceIte, not_true_eq_false, not_false_eq_true, Int.reduceEq, Int.reduceLE, Int.reduceLT, Int.reduceAdd, Int.reduceNeg, Int.reduceMul, Int.reduceSub, Int.reduceToNat]
    rfl
  · rw [e] at hs ⊢
    have hs := hb 1 hs
    simp (disch := first | assumption | exact zk_262 | ((repeat (first | exact z1n | refine z1I ?_ | refine z1R ?_)); done) | exact rfl | omega | decide) only [zb_262_0, zb_262_1, r_iload_0, r_sw, r_iconst, r_iret, r_bret_0, r_bret_1, hs, ↓reduceIte, not_true_eq_false, not_false_eq_true, Int.reduceEq, Int.reduceLE, Int.reduceLT, Int.reduceAdd, Int.reduceNeg, Int.reduceMul, Int.reduceSub, Int.reduceToNat]
    rfl
  · rw [e] at hs ⊢
    have hs := hb 3 hs
    simp (disch := first | assumption | exact zk_262 | ((repeat (first | exact z1n | refine z1I ?_ | refine z1R ?_)); done) | exact rfl | omega | decide) only [zb_262_0, zb_262_3, r_iload_0, r_sw, r_iconst, r_iret, r_bret_0, r_bret_1, hs, ↓reduceIte, not_true_eq_false, not_false_eq_true, Int.reduceEq, Int.reduceLE, Int.reduceLT, Int.reduceAdd, Int.reduceNeg, Int.reduceMul, Int.reduceSub, Int.reduceToNat]
    rfl
  · rw [e] at hs ⊢
    have hs := hb 2 hs
    simp (disch := first | assumption | exact zk_262 | ((repeat (first | exact z1n | refine z1I ?_ | refine z1R ?_)); done) | exact rfl | omega | decide) only [zb_262_0, zb_262_2, r_iload_0, r_sw, r_iconst, r_iret, r_bret_0, r_bret_1, hs, ↓reduceIte, not_true_eq_false, not_false_eq_true, Int.reduceEq, Int.reduceLE, Int.reduceLT, Int.reduceAdd, Int.reduceNeg, Int.reduceMul, Int.reduceSub, Int.reduceToNat]
    rfl
set_option maxRecDepth 20000 in
theorem m_isAt (hd : 2 ≤ d) (hM : zMP s V) (hX : zMx T n V) (hk : zTok2 T n) {p lo hi : Int} (hA : V 164 40 = zi p) (p0 : 0 ≤ p) (p1 : p ≤ n) (l1 : zI32 lo) (l2 : zI32 hi) : zcall d 261 [.ref 164, zi lo, zi hi] (s, V) Q = if p < n ∧ lo ≤ T p ∧ T p ≤ hi then Q (.inl (some (zi 1))) (s, V) else Q (.inl (some (zi 0))) (s, V) := by
  obtain ⟨u1, hT⟩ := hX
  obtain ⟨⟨n0, n1⟩, hr⟩ := hk
  have tM := hM.1
  have vm_text : V 164 4 = .ref 168 := (hM.2 3 (by decide)).1
  have tm_text : s.tg 168 = 20 := (hM.2 3 (by decide)).2.1
  have lm_text : s.ln 168 = 120 := (hM.2 3 (by decide)).2.2
  obtain ⟨d, rfl⟩ : ∃ e, d = e + 1 := ⟨d - 1, by omega⟩
  simp (disch := first | assumption | omega) only [zc_261]
  by_cases z : p < n
  · have hj := hT p p0 z
    have hrj := hr p p0 z
    have i3 : zI32 (T p) := ⟨by omega, by omega⟩
    simp (disch := first | assumption | exact zk_261 | ((repeat (first | exact z1n | refine z1I ?_ | refine z1R ?_)); done) | exact rfl | omega | decide) only [zb_261_0, zb_261_1, zb_261_2, r_aload_0, r_gf_680, r_gf_645, r_icmp_ge, r_gf_644, r_ial, r_ial30, r_ial32, r_iload_1, r_iload_2, r_inv_3_0, r_inv_3_1, r_inv_3_2, r_inv_3_3, r_inv_3_4, r_K0, r_K1, r_if_eq, r_iconst, r_goto, r_goto_w, r_iret, r_bret_0, r_bret_1, vm_text, u1, hA, hj, m_in, ↓reduceIte, not_true_eq_false, not_false_eq_true, Int.reduceEq, Int.reduceLE, Int.reduceLT, Int.reduceAdd, Int.reduceNeg, Int.reduceMul, Int.reduceSub, Int.reduceToNat]
    (repeat' split) <;> first | rfl | (exfalso; omega) | (exfalso; grind)
  · have z' : n ≤ p := by omega
    simp (disch := first | assumption | exact zk_261 | ((repeat (first | exact z1n | refine z1I ?_ | refine z1R ?_)); done) | exact rfl | omega | decide) only [zb_261_0, zb_261_1, zb_261_2, r_aload_0, r_gf_680, r_gf_645, r_icmp_ge, r_gf_644, r_ial, r_ial30, r_ial32, r_iload_1, r_iload_2, r_inv_3_0, r_inv_3_1, r_inv_3_2, r_inv_3_3, r_inv_3_4, r_K0, r_K1, r_if_eq, r_iconst, r_goto, r_goto_w, r_iret, r_bret_0, r_bret_1, vm_text, u1, hA, ↓reduceIte, not_true_eq_false, not_false_eq_true, Int.reduceEq, Int.reduceLE, Int.reduceLT, Int.reduceAdd, Int.reduceNeg, Int.reduceMul, Int.reduceSub, Int.reduceToNat]
    (repeat' split) <;> first | rfl | (exfalso; omega) | (exfalso; grind)
set_option maxRecDepth 20000 in
theorem m_isNumber (hd : 3 ≤ d) (hM : zMP s V) (hX : zMx T n V) (hk : zTok2 T n) {p k : Int} (hA : V 164 40 = zi p) (p0 : 0 ≤ p) (p1 : p ≤ n) (k0 : 0 ≤ k) (k1 : k < 5) (hQ : ∀ V', zFm [190] [40] V V' → V' 164 40 = zi (zDe T n p) → V' 190 k = zi (zVl T p (zDe T n p)) → (∀ i : Int, i ≠ k → V' 190 i = V 190 i) → Q (.inl (some (zi (if p < zDe T n p then 1 else 0)))) (s, V')) : zcall d 263 [.ref 164, zi k] (s, V) Q := by
  obtain ⟨u1, hT⟩ := hX
  obtain ⟨⟨n0, n1⟩, hr⟩ := id hk
  obtain ⟨a, b, c, e, f⟩ := zDe_is (T := T) p1
  have tM := hM.1
  have vm_text : V 164 4 = .ref 168 := (hM.2 3 (by decide)).1
  have tm_text : s.tg 168 = 20 := (hM.2 3 (by decide)).2.1
  have lm_text : s.ln 168 = 120 := (hM.2 3 (by decide)).2.2
  have vm_numbers : V 164 42 = .ref 190 := (hM.2 25 (by decide)).1
  have tm_numbers : s.tg 190 = 20 := (hM.2 25 (by decide)).2.1
  have lm_numbers : s.ln 190 = 5 := (hM.2 25 (by decide)).2.2
  obtain ⟨d, rfl⟩ : ∃ e, d = e + 1 := ⟨d - 1, by omega⟩
  rw [zc_263 tM]
  simp (disch := first | assumption | exact zk_263 | ((repeat (first | exact z1n | refine z1I ?_ | refine z1R ?_)); done) | exact rfl | omega | decide) only [zb_263_0, r_aload_0, r_gf_680, r_istore_2i, r_istore_2r, r_istore_2j, r_gf_682, r_iload_1, r_iconst, r_iastore, r_goto_w, r_inv_3_0, r_inv_3_1, r_inv_3_2, r_inv_3_3, r_inv_3_4, r_K0, r_K1, r_if_eq, r_iload_2, r_isub, r_icmp_ge, r_ial, r_ial30, r_ial32, r_imul, r_gf_644, r_iadd, r_dup_i, r_dup_r, r_pf_680, r_goto, r_icmp_le, r_iret, r_bret_0, r_bret_1, vm_text, vm_numbers, hA, ↓reduceIte, not_true_eq_false, not_false_eq_true, Int.reduceEq, Int.reduceLE, Int.reduceLT, Int.reduceAdd, Int.reduceNeg, Int.reduceMul, Int.reduceSub, Int.reduceToNat]
  have hlp := z_iter (i := p) (n := zDe T n p) (I := fun j (q : zV) => zFm [190] [40] V q ∧ q 164 40 = zi j ∧ q 190 k = zi (zVl T p j) ∧ ∀ i : Int, i ≠ k → q 190 i = V 190 i) (P := fun j q => zwp (zcall d) 263 Q (zB 263 1) [.ref 164, zi k, zi p] [] (s, q)) a
  have F0 : zFm [190] [40] V (zput V 190 k (zi 0)) := zFm.rf.pr (by simp) (by omega)
  refine hlp ?_ ?_ _ ⟨F0, by rw [zput_r (by omega)]; exact hA, by rw [zVl_0]; exact zput_at, fun i hi => zput_k hi⟩
  · rintro j V1 j0 j1 ⟨f1, e1, g1, o1⟩ ih
    have hM1 := hM.fm f1 (by decide)
    have hX1 : zMx T n V1 := zMx.fm ⟨u1, hT⟩ f1 (by decide) (by decide)
    have hdj := e j j0 j1
    have hj := hX1.2 j (by omega) (by omega)
    have n1' := (hM1.2 25 (by decide)).1
    have n1' : V1 164 42 = .ref 190 := n1'
    have x1' : V1 164 4 = .ref 168 := (hM1.2 3 (by decide)).1
    have i48 : zI32 48 := ⟨by omega, by omega⟩
    have i57 : zI32 57 := ⟨by omega, by omega⟩
    have hvr := zVl_rng (T := T) j0 (by omega) (fun i i0 i1 => e i i0 (by omega))
    have pw : j < n ∧ 48 ≤ T j ∧ T j ≤ 57 := by omega
    have jn : j ≤ n := by omega
    have jp : 0 ≤ j := by omega
    have := ih (zput (zput V1 190 k (zi (zVl T p (j + 1)))) 164 40 (zi (j + 1))) ⟨(f1.pr (by simp) (by omega)).pf (by simp), zput_at, by rw [zput_r (by omega)]; exact zput_at, fun i hi => by rw [zput_r (by omega), zput_k hi]; exact o1 i hi⟩
    rw [zVl_s j0] at this
    conv => rw [zb_263_1]
    have e9 : ∀ v, zput V1 190 k v 164 40 = zi j := fun v => by rw [zput_r (by omega)]; exact e1
    have ea : ∀ K, zcall d 261 [.ref 164, zi 48, zi 57] (s, V1) K = K (.inl (some (zi 1))) (s, V1) := fun K => by rw [m_isAt (by omega) hM1 hX1 hk e1 jp jn i48 i57, if_pos pw]
    simp (disch := first | assumption | exact zk_263 | ((repeat (first | exact z1n | refine z1I ?_ | refine z1R ?_)); done) | exact rfl | omega | decide) only [r_aload_0, r_gf_680, r_istore_2i, r_istore_2r, r_istore_2j, r_gf_682, r_iload_1, r_iconst, r_iastore, r_goto_w, r_inv_3_0, r_inv_3_1, r_inv_3_2, r_inv_3_3, r_inv_3_4, r_K0, r_K1, r_if_eq, r_iload_2, r_isub, r_icmp_ge, r_ial, r_ial30, r_ial32, r_imul, r_gf_644, r_iadd, r_dup_i, r_dup_r, r_pf_680, r_goto, r_icmp_le, r_iret, r_bret_0, r_bret_1, vm_text, vm_numbers, ea, e1, g1, hj, n1', x1', e9, ↓reduceIte, not_true_eq_false, not_false_eq_true, Int.reduceEq, Int.reduceLE, Int.reduceLT, Int.reduceAdd, Int.reduceNeg, Int.reduceMul, Int.reduceSub, Int.reduceToNat]
    rw [if_neg (by omega)]
    exact this
  · rintro V1 ⟨f1, e1, g1, o1⟩
    have hM1 := hM.fm f1 (by decide)
    have hX1 : zMx T n V1 := zMx.fm ⟨u1, hT⟩ f1 (by decide) (by decide)
    have i48 : zI32 48 := ⟨by omega, by omega⟩
    have i57 : zI32 57 := ⟨by omega, by omega⟩
    have := hQ V1 f1 e1 g1 o1
    generalize zDe T n p = q at *
    have qp : 0 ≤ q := by omega
    have fin : zwp (zcall d) 263 Q (zB 263 2) [.ref 164, zi k, zi p] [] (s, V1) := by
      by_cases z : p < q
      · rw [if_pos z] at this
        simp (disch := first | assumption | exact zk_263 | ((repeat (first | exact z1n | refine z1I ?_ | refine z1R ?_)); done) | exact rfl | omega | decide) only [zb_263_2, zb_263_3, zb_263_4, r_aload_0, r_gf_680, r_istore_2i, r_istore_2r, r_istore_2j, r_gf_682, r_iload_1, r_iconst, r_iastore, r_goto_w, r_inv_3_0, r_inv_3_1, r_inv_3_2, r_inv_3_3, r_inv_3_4, r_K0, r_K1, r_if_eq, r_iload_2, r_isub, r_icmp_ge, r_ial, r_ial30, r_ial32, r_imul, r_gf_644, r_iadd, r_dup_i, r_dup_r, r_pf_680, r_goto, r_icmp_le, r_iret, r_bret_0, r_bret_1, vm_text, vm_numbers, e1, ↓reduceIte, not_true_eq_false, not_false_eq_true, Int.reduceEq, Int.reduceLE, Int.reduceLT, Int.reduceAdd, Int.reduceNeg, Int.reduceMul, Int.reduceSub, Int.reduceToNat]
        rw [if_neg (by omega)]
        exact this
      · rw [if_neg z] at this
        simp (disch := first | assumption | exact zk_263 | ((repeat (first | exact z1n | refine z1I ?_ | refine z1R ?_)); done) | exact rfl | omega | decide) only [zb_263_2, zb_263_3, zb_263_4, r_aload_0, r_gf_680, r_istore_2i, r_istore_2r, r_istore_2j, r_gf_682, r_iload_1, r_iconst, r_iastore, r_goto_w, r_inv_3_0, r_inv_3_1, r_inv_3_2, r_inv_3_3, r_inv_3_4, r_K0, r_K1, r_if_eq, r_iload_2, r_isub, r_icmp_ge, r_ial, r_ial30, r_ial32, r_imul, r_gf_644, r_iadd, r_dup_i, r_dup_r, r_pf_680, r_goto, r_icmp_le, r_iret, r_bret_0, r_bret_1, vm_text, vm_numbers, e1, ↓reduceIte, not_true_eq_false, not_false_eq_true, Int.reduceEq, Int.reduceLE, Int.reduceLT, Int.reduceAdd, Int.reduceNeg, Int.reduceMul, Int.reduceSub, Int.reduceToNat]
        rw [if_pos (by omega)]
        exact this
    conv => rw [zb_263_1]
    by_cases z : q < n ∧ 48 ≤ T q ∧ T q ≤ 57
    · have z3 : p + 3 ≤ q := by
        rcases Int.lt_or_le q (p + 3) with z3 | z3
        · exact absurd z.2 (f z3 z.1)
        · exact z3
      have ea : ∀ K, zcall d 261 [.ref 164, zi 48, zi 57] (s, V1) K = K (.inl (some (zi 1))) (s, V1) := fun K => by rw [m_isAt (by omega) hM1 hX1 hk e1 qp c i48 i57, if_pos z]
      simp (disch := first | assumption | exact zk_263 | ((repeat (first | exact z1n | refine z1I ?_ | refine z1R ?_)); done) | exact rfl | omega | decide) only [r_aload_0, r_gf_680, r_istore_2i, r_istore_2r, r_istore_2j, r_gf_682, r_iload_1, r_iconst, r_iastore, r_goto_w, r_inv_3_0, r_inv_3_1, r_inv_3_2, r_inv_3_3, r_inv_3_4, r_K0, r_K1, r_if_eq, r_iload_2, r_isub, r_icmp_ge, r_ial, r_ial30, r_ial32, r_imul, r_gf_644, r_iadd, r_dup_i, r_dup_r, r_pf_680, r_goto, r_icmp_le, r_iret, r_bret_0, r_bret_1, vm_text, vm_numbers, ea, e1, ↓reduceIte, not_true_eq_false, not_false_eq_true, Int.reduceEq, Int.reduceLE, Int.reduceLT, Int.reduceAdd, Int.reduceNeg, Int.reduceMul, Int.reduceSub, Int.reduceToNat]
      rw [if_pos (by omega)]
      exact fin
    · have ea : ∀ K, zcall d 261 [.ref 164, zi 48, zi 57] (s, V1) K = K (.inl (some (zi 0))) (s, V1) := fun K => by rw [m_isAt (by omega) hM1 hX1 hk e1 qp c i48 i57, if_neg z]
      simp (disch := first | assumption | exact zk_263 | ((repeat (first | exact z1n | refine z1I ?_ | refine z1R ?_)); done) | exact rfl | omega | decide) only [r_aload_0, r_gf_680, r_istore_2i, r_istore_2r, r_istore_2j, r_gf_682, r_iload_1, r_iconst, r_iastore, r_goto_w, r_inv_3_0, r_inv_3_1, r_inv_3_2, r_inv_3_3, r_inv_3_4, r_K0, r_K1, r_if_eq, r_iload_2, r_isub, r_icmp_ge, r_ial, r_ial30, r_ial32, r_imul, r_gf_644, r_iadd, r_dup_i, r_dup_r, r_pf_680, r_goto, r_icmp_le, r_iret, r_bret_0, r_bret_1, vm_text, vm_numbers, ea, e1, ↓reduceIte, not_true_eq_false, not_false_eq_true, Int.reduceEq, Int.reduceLE, Int.reduceLT, Int.reduceAdd, Int.reduceNeg, Int.reduceMul, Int.reduceSub, Int.reduceToNat]
      exact fin
end
