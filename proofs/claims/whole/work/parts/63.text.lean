/-! TEXT, 3: a command in the model -/
section
variable {d : Nat} {s : zS} {V : zV} {Q : zO → zH → Prop} {h : zH} {T : Int → Int} {n : Int}
/-- the model's text -/
def zMx (T : Int → Int) (n : Int) (V : zV) : Prop := V 164 5 = zi n ∧ ∀ k, 0 ≤ k → k < n → V 168 k = zi (T k)
theorem zMx.fm {l : List Nat} {ks : List Int} {V' : zV} (hC : zMx T n V) (h : zFm l ks V V') (hl : 168 ∉ l) (hk : (5 : Int) ∉ ks) : zMx T n V' := by
  unfold zMx
  rw [h.1 168 (by decide) hl, h.2 5 hk]
  exact hC
set_option maxRecDepth 20000 in
theorem m_numbersOf (hd : 1 ≤ d) {l : Int} (l0 : 0 ≤ l) (l1 : l ≤ 127) : zcall d 262 [zi l] h Q = Q (.inl (some (zi (zNum l : Nat)))) h := by
  obtain ⟨d, rfl⟩ : ∃ e, d = e + 1 := ⟨d - 1, by omega⟩
  simp (disch := first | assumption | omega) only [zc_262]
  have hs : zsw [(97, 1), (98, 4), (99, 2), (100, 1), (101, 4), (102, 4), (103, 4), (104, 4), (105, 4), (106, 4), (107, 4), (108, 4), (109, 4), (110, 4), (111, 4), (112, 3), (113, 4), (114, 1), (115, 1)] 4 l = if zNum l = 1 then 1 else if zNum l = 3 then 3 else if zNum l = 5 then 2 else 4 := by
    have : ∀ m : Nat, m < 128 → zsw [(97, 1), (98, 4), (99, 2), (100, 1), (101, 4), (102, 4), (103, 4), (104, 4), (105, 4), (106, 4), (107, 4), (108, 4), (109, 4), (110, 4), (111, 4), (112, 3), (113, 4), (114, 1), (115, 1)] 4 (m : Int) = if zNum (m : Int) = 1 then 1 else if zNum (m : Int) = 3 then 3 else if zNum (m : Int) = 5 then 2 else 4 := by decide +kernel
    have := this l.toNat (by omega)
    rwa [Int.toNat_of_nonneg l0] at this
  have hn : zNum l = 0 ∨ zNum l = 1 ∨ zNum l = 3 ∨ zNum l = 5 := by unfold zNum; (repeat' split) <;> omega
  have hb : ∀ k : Int, zsw [(97, 1), (98, 4), (99, 2), (100, 1), (101, 4), (102, 4), (103, 4), (104, 4), (105, 4), (106, 4), (107, 4), (108, 4), (109, 4), (110, 4), (111, 4), (112, 3), (113, 4), (114, 1), (115, 1)] 4 l = k → zsw [(97, 1), (98, 4), (99, 2), (100, 1), (101, 4), (102, 4), (103, 4), (104, 4), (105, 4), (106, 4), (107, 4), (108, 4), (109, 4), (110, 4), (111, 4), (112, 3), (113, 4), (114, 1), (115, 1)] 4 l = k := fun _ h => h
  rcases hn with e | e | e | e
  · rw [e] at hs ⊢
    have hs := hb 4 hs
    simp (disch := first | assumption | exact zk_262 | ((repeat (first | exact z1n | refine z1I ?_ | refine z1R ?_)); done) | exact rfl | omega | decide) only [zb_262_0, zb_262_4, r_iload_0, r_sw, r_iconst, r_iret, r_bret_0, r_bret_1, hs, ↓reduceIte, not_true_eq_false, not_false_eq_true, Int.reduceEq, Int.reduceLE, Int.reduceLT, Int.reduceAdd, Int.reduceNeg, Int.reduceMul, Int.reduceSub, Int.reduceToNat]
    rfl
  · rw [e] at hs ⊢
    have hs := hb 1 hs
    simp (disch := first | assumption | exact zk_262 | ((repeat (first | exact z1n | refine z1I ?_ | refine z1R ?_)); done) | exact rfl | omega | decide) only [zb_262_0, zb_262_1, r_iload_0, r_sw, r_iconst, r_iret, r_bret_0, r_bret_1, hs, ↓reduceIte, not_true_eq_false, not_false_eq_true, Int.reduceEq, Int.reduceLE, Int.reduceLT, Int.reduceAdd, Int.reduceNeg, Int.reduceMul, Int.reduceSub, Int.reduceToNat]
    rfl
  · rw [e] at hs ⊢
    have hs := hb 3 hs
    simp (disch := first | assumption | exact zk_262 | ((repeat (first | exact z1n | refine z1I ?_ | refine z1R ?_)); done) | exact rfl | omega | decide) only [zb_262_0, zb_262_3, r_iload_0, r_sw, r_iconst, r_iret, r_bret_0, r_bret_1, hs, ↓reduceIte, not_true_eq_false, not_false_eq_true, Int.reduceEq, Int.reduceLE, Int.reduceLT, Int.reduceAdd, Int.reduceNeg, Int.reduceMul, Int.reduceSub, Int.reduceToNat]
    rfl
  · rw [e] at hs ⊢
    have hs := hb 2 hs
    simp (disch := first | assumption | exact zk_262 | ((repeat (first | exact z1n | refine z1I ?_ | refine z1R ?_)); done) | exact rfl | omega | decide) only [zb_262_0, zb_262_2, r_iload_0, r_sw, r_iconst, r_iret, r_bret_0, r_bret_1, hs, ↓reduceIte, not_true_eq_false, not_false_eq_true, Int.reduceEq, Int.reduceLE, Int.reduceLT, Int.reduceAdd, Int.reduceNeg, Int.reduceMul, Int.reduceSub, Int.reduceToNat]
    rfl
set_option maxRecDepth 20000 in
theorem m_isAt (hd : 2 ≤ d) (hM : zMP s V) (hX : zMx T n V) (hk : zTok2 T n) {p lo hi : Int} (hA : V 164 40 = zi p) (p0 : 0 ≤ p) (p1 : p ≤ n) (l1 : zI32 lo) (l2 : zI32 hi) : zcall d 261 [.ref 164, zi lo, zi hi] (s, V) Q = if p < n ∧ lo ≤ T p ∧ T p ≤ hi then Q (.inl (some (zi 1))) (s, V) else Q (.inl (some (zi 0))) (s, V) := by
  obtain ⟨u1, hT⟩ := hX
  obtain ⟨⟨n0, n1⟩, hr⟩ := hk
  have tM := hM.1
  have vm_text : V 164 4 = .ref 168 := (hM.2 3 (by decide)).1
  have tm_text : s.tg 168 = 20 := (hM.2 3 (by decide)).2.1
  have lm_text : s.ln 168 = 120 := (hM.2 3 (by decide)).2.2
  obtain ⟨d, rfl⟩ : ∃ e, d = e + 1 := ⟨d - 1, by omega⟩
  simp (disch := first | assumption | omega) only [zc_261]
  by_cases z : p < n
  · have hj := hT p p0 z
    have hrj := hr p p0 z
    have i3 : zI32 (T p) := ⟨by omega, by omega⟩
    simp (disch := first | assumption | exact zk_261 | ((repeat (first | exact z1n | refine z1I ?_ | refine z1R ?_)); done) | exact rfl | omega | decide) only [zb_261_0, zb_261_1, zb_261_2, r_aload_0, r_gf_680, r_gf_645, r_icmp_ge, r_gf_644, r_ial, r_ial30, r_ial32, r_iload_1, r_iload_2, r_inv_3_0, r_inv_3_1, r_inv_3_2, r_inv_3_3, r_inv_3_4, r_K0, r_K1, r_if_eq, r_iconst, r_goto, r_goto_w, r_iret, r_bret_0, r_bret_1, vm_text, u1, hA, hj, m_in, ↓reduceIte, not_true_eq_false, not_false_eq_true, Int.reduceEq, Int.reduceLE, Int.reduceLT, Int.reduceAdd, Int.reduceNeg, Int.reduceMul, Int.reduceSub, Int.reduceToNat]
    (repeat' split) <;> first | rfl | (exfalso; omega) | (exfalso; grind)
  · have z' : n ≤ p := by omega
    simp (disch := first | assumption | exact zk_261 | ((repeat (first | exact z1n | refine z1I ?_ | refine z1R ?_)); done) | exact rfl | omega | decide) only [zb_261_0, zb_261_1, zb_261_2, r_aload_0, r_gf_680, r_gf_645, r_icmp_ge, r_gf_644, r_ial, r_ial30, r_ial32, r_iload_1, r_iload_2, r_inv_3_0, r_inv_3_1, r_inv_3_2, r_inv_3_3, r_inv_3_4, r_K0, r_K1, r_if_eq, r_iconst, r_goto, r_goto_w, r_iret, r_bret_0, r_bret_1, vm_text, u1, hA, ↓reduceIte, not_true_eq_false, not_false_eq_true, Int.reduceEq, Int.reduceLE, Int.reduceLT, Int.reduceAdd, Int.reduceNeg, Int.reduceMul, Int.reduceSub, Int.reduceToNat]
    (repeat' split) <;> first | rfl | (exfalso; omega) | (exfalso; grind)
set_option maxRecDepth 20000 in
theorem m_isNumber (hd : 3 ≤ d) (hM : zMP s V) (hX : zMx T n V) (hk : zTok2 T n) {p k : Int} (hA : V 164 40 = zi p) (p0 : 0 ≤ p) (p1 : p ≤ n) (k0 : 0 ≤ k) (k1 : k < 5) (hQ : ∀ V', zFm [190] [40] V V' → V' 164 40 = zi (zDe T n p) → V' 190 k = zi (zVl T p (zDe T n p)) → (∀ i : Int, i ≠ k → V' 190 i = V 190 i) → Q (.inl (some (zi (if p < zDe T n p then 1 else 0)))) (s, V')) : zcall d 263 [.ref 164, zi k] (s, V) Q := by
  obtain ⟨u1, hT⟩ := hX
  obtain ⟨⟨n0, n1⟩, hr⟩ := id hk
  obtain ⟨a, b, c, e, f⟩ := zDe_is (T := T) p1
  have tM := hM.1
  have vm_text : V 164 4 = .ref 168 := (hM.2 3 (by decide)).1
  have tm_text : s.tg 168 = 20 := (hM.2 3 (by decide)).2.1
  have lm_text : s.ln 168 = 120 := (hM.2 3 (by decide)).2.2
  have vm_numbers : V 164 42 = .ref 190 := (hM.2 25 (by decide)).1
  have tm_numbers : s.tg 190 = 20 := (hM.2 25 (by decide)).2.1
  have lm_numbers : s.ln 190 = 5 := (hM.2 25 (by decide)).2.2
  obtain ⟨d, rfl⟩ : ∃ e, d = e + 1 := ⟨d - 1, by omega⟩
  rw [zc_263 tM]
  simp (disch := first | assumption | exact zk_263 | ((repeat (first | exact z1n | refine z1I ?_ | refine z1R ?_)); done) | exact rfl | omega | decide) only [zb_263_0, r_aload_0, r_gf_680, r_istore_2i, r_istore_2r, r_istore_2j, r_gf_682, r_iload_1, r_iconst, r_iastore, r_goto_w, r_inv_3_0, r_inv_3_1, r_inv_3_2, r_inv_3_3, r_inv_3_4, r_K0, r_K1, r_if_eq, r_iload_2, r_isub, r_icmp_ge, r_ial, r_ial30, r_ial32, r_imul, r_gf_644, r_iadd, r_dup_i, r_dup_r, r_pf_680, r_goto, r_icmp_le, r_iret, r_bret_0, r_bret_1, vm_text, vm_numbers, hA, ↓reduceIte, not_true_eq_false, not_false_eq_true, Int.reduceEq, Int.reduceLE, Int.reduceLT, Int.reduceAdd, Int.reduceNeg, Int.reduceMul, Int.reduceSub, Int.reduceToNat]
  have hlp := z_iter (i := p) (n := zDe T n p) (I := fun j (q : zV) => zFm [190] [40] V q ∧ q 164 40 = zi j ∧ q 190 k = zi (zVl T p j) ∧ ∀ i : Int, i ≠ k → q 190 i = V 190 i) (P := fun j q => zwp (zcall d) 263 Q (zB 263 1) [.ref 164, zi k, zi p] [] (s, q)) a
  have F0 : zFm [190] [40] V (zput V 190 k (zi 0)) := zFm.rf.pr (by simp) (by omega)
  refine hlp ?_ ?_ _ ⟨F0, by rw [zput_r (by omega)]; exact hA, by rw [zVl_0]; exact zput_at, fun i hi => zput_k hi⟩
  · rintro j V1 j0 j1 ⟨f1, e1, g1, o1⟩ ih
    have hM1 := hM.fm f1 (by decide)
    have hX1 : zMx T n V1 := zMx.fm ⟨u1, hT⟩ f1 (by decide) (by decide)
    have hdj := e j j0 j1
    have hj := hX1.2 j (by omega) (by omega)
    have n1' := (hM1.2 25 (by decide)).1
    have n1' : V1 164 42 = .ref 190 := n1'
    have x1' : V1 164 4 = .ref 168 := (hM1.2 3 (by decide)).1
    have i48 : zI32 48 := ⟨by omega, by omega⟩
    have i57 : zI32 57 := ⟨by omega, by omega⟩
    have hvr := zVl_rng (T := T) j0 (by omega) (fun i i0 i1 => e i i0 (by omega))
    have pw : j < n ∧ 48 ≤ T j ∧ T j ≤ 57 := by omega
    have jn : j ≤ n := by omega
    have jp : 0 ≤ j := by omega
    have := ih (zput (zput V1 190 k (zi (zVl T p (j + 1)))) 164 40 (zi (j + 1))) ⟨(f1.pr (by simp) (by omega)).pf (by simp), zput_at, by rw [zput_r (by omega)]; exact zput_at, fun i hi => by rw [zput_r (by omega), zput_k hi]; exact o1 i hi⟩
    rw [zVl_s j0] at this
    conv => rw [zb_263_1]
    have e9 : ∀ v, zput V1 190 k v 164 40 = zi j := fun v => by rw [zput_r (by omega)]; exact e1
    have ea : ∀ K, zcall d 261 [.ref 164, zi 48, zi 57] (s, V1) K = K (.inl (some (zi 1))) (s, V1) := fun K => by rw [m_isAt (by omega) hM1 hX1 hk e1 jp jn i48 i57, if_pos pw]
    simp (disch := first | assumption | exact zk_263 | ((repeat (first | exact z1n | refine z1I ?_ | refine z1R ?_)); done) | exact rfl | omega | decide) only [r_aload_0, r_gf_680, r_istore_2i, r_istore_2r, r_istore_2j, r_gf_682, r_iload_1, r_iconst, r_iastore, r_goto_w, r_inv_3_0, r_inv_3_1, r_inv_3_2, r_inv_3_3, r_inv_3_4, r_K0, r_K1, r_if_eq, r_iload_2, r_isub, r_icmp_ge, r_ial, r_ial30, r_ial32, r_imul, r_gf_644, r_iadd, r_dup_i, r_dup_r, r_pf_680, r_goto, r_icmp_le, r_iret, r_bret_0, r_bret_1, vm_text, vm_numbers, ea, e1, g1, hj, n1', x1', e9, ↓reduceIte, not_true_eq_false, not_false_eq_true, Int.reduceEq, Int.reduceLE, Int.reduceLT, Int.reduceAdd, Int.reduceNeg, Int.reduceMul, Int.reduceSub, Int.reduceToNat]
    rw [if_neg (by omega)]
    exact this
  · rintro V1 ⟨f1, e1, g1, o1⟩
    have hM1 := hM.fm f1 (by decide)
    have hX1 : zMx T n V1 := zMx.fm ⟨u1, hT⟩ f1 (by decide) (by decide)
    have i48 : zI32 48 := ⟨by omega, by omega⟩
    have i57 : zI32 57 := ⟨by omega, by omega⟩
    have := hQ V1 f1 e1 g1 o1
    generalize zDe T n p = q at *
    have qp : 0 ≤ q := by omega
    have fin : zwp (zcall d) 263 Q (zB 263 2) [.ref 164, zi k, zi p] [] (s, V1) := by
      by_cases z : p < q
      · rw [if_pos z] at this
        simp (disch := first | assumption | exact zk_263 | ((repeat (first | exact z1n | refine z1I ?_ | refine z1R ?_)); done) | exact rfl | omega | decide) only [zb_263_2, zb_263_3, zb_263_4, r_aload_0, r_gf_680, r_istore_2i, r_istore_2r, r_istore_2j, r_gf_682, r_iload_1, r_iconst, r_iastore, r_goto_w, r_inv_3_0, r_inv_3_1, r_inv_3_2, r_inv_3_3, r_inv_3_4, r_K0, r_K1, r_if_eq, r_iload_2, r_isub, r_icmp_ge, r_ial, r_ial30, r_ial32, r_imul, r_gf_644, r_iadd, r_dup_i, r_dup_r, r_pf_680, r_goto, r_icmp_le, r_iret, r_bret_0, r_bret_1, vm_text, vm_numbers, e1, ↓reduceIte, not_true_eq_false, not_false_eq_true, Int.reduceEq, Int.reduceLE, Int.reduceLT, Int.reduceAdd, Int.reduceNeg, Int.reduceMul, Int.reduceSub, Int.reduceToNat]
        rw [if_neg (by omega)]
        exact this
      · rw [if_neg z] at this
        simp (disch := first | assumption | exact zk_263 | ((repeat (first | exact z1n | refine z1I ?_ | refine z1R ?_)); done) | exact rfl | omega | decide) only [zb_263_2, zb_263_3, zb_263_4, r_aload_0, r_gf_680, r_istore_2i, r_istore_2r, r_istore_2j, r_gf_682, r_iload_1, r_iconst, r_iastore, r_goto_w, r_inv_3_0, r_inv_3_1, r_inv_3_2, r_inv_3_3, r_inv_3_4, r_K0, r_K1, r_if_eq, r_iload_2, r_isub, r_icmp_ge, r_ial, r_ial30, r_ial32, r_imul, r_gf_644, r_iadd, r_dup_i, r_dup_r, r_pf_680, r_goto, r_icmp_le, r_iret, r_bret_0, r_bret_1, vm_text, vm_numbers, e1, ↓reduceIte, not_true_eq_false, not_false_eq_true, Int.reduceEq, Int.reduceLE, Int.reduceLT, Int.reduceAdd, Int.reduceNeg, Int.reduceMul, Int.reduceSub, Int.reduceToNat]
        rw [if_pos (by omega)]
        exact this
    conv => rw [zb_263_1]
    by_cases z : q < n ∧ 48 ≤ T q ∧ T q ≤ 57
    · have z3 : p + 3 ≤ q := by
        rcases Int.lt_or_le q (p + 3) with z3 | z3
        · exact absurd z.2 (f z3 z.1)
        · exact z3
      have ea : ∀ K, zcall d 261 [.ref 164, zi 48, zi 57] (s, V1) K = K (.inl (some (zi 1))) (s, V1) := fun K => by rw [m_isAt (by omega) hM1 hX1 hk e1 qp c i48 i57, if_pos z]
      simp (disch := first | assumption | exact zk_263 | ((repeat (first | exact z1n | refine z1I ?_ | refine z1R ?_)); done) | exact rfl | omega | decide) only [r_aload_0, r_gf_680, r_istore_2i, r_istore_2r, r_istore_2j, r_gf_682, r_iload_1, r_iconst, r_iastore, r_goto_w, r_inv_3_0, r_inv_3_1, r_inv_3_2, r_inv_3_3, r_inv_3_4, r_K0, r_K1, r_if_eq, r_iload_2, r_isub, r_icmp_ge, r_ial, r_ial30, r_ial32, r_imul, r_gf_644, r_iadd, r_dup_i, r_dup_r, r_pf_680, r_goto, r_icmp_le, r_iret, r_bret_0, r_bret_1, vm_text, vm_numbers, ea, e1, ↓reduceIte, not_true_eq_false, not_false_eq_true, Int.reduceEq, Int.reduceLE, Int.reduceLT, Int.reduceAdd, Int.reduceNeg, Int.reduceMul, Int.reduceSub, Int.reduceToNat]
      rw [if_pos (by omega)]
      exact fin
    · have ea : ∀ K, zcall d 261 [.ref 164, zi 48, zi 57] (s, V1) K = K (.inl (some (zi 0))) (s, V1) := fun K => by rw [m_isAt (by omega) hM1 hX1 hk e1 qp c i48 i57, if_neg z]
      simp (disch := first | assumption | exact zk_263 | ((repeat (first | exact z1n | refine z1I ?_ | refine z1R ?_)); done) | exact rfl | omega | decide) only [r_aload_0, r_gf_680, r_istore_2i, r_istore_2r, r_istore_2j, r_gf_682, r_iload_1, r_iconst, r_iastore, r_goto_w, r_inv_3_0, r_inv_3_1, r_inv_3_2, r_inv_3_3, r_inv_3_4, r_K0, r_K1, r_if_eq, r_iload_2, r_isub, r_icmp_ge, r_ial, r_ial30, r_ial32, r_imul, r_gf_644, r_iadd, r_dup_i, r_dup_r, r_pf_680, r_goto, r_icmp_le, r_iret, r_bret_0, r_bret_1, vm_text, vm_numbers, ea, e1, ↓reduceIte, not_true_eq_false, not_false_eq_true, Int.reduceEq, Int.reduceLE, Int.reduceLT, Int.reduceAdd, Int.reduceNeg, Int.reduceMul, Int.reduceSub, Int.reduceToNat]
      exact fin
end
section
variable {d : Nat} {s : zS} {V : zV} {Q : zO → zH → Prop} {h : zH} {T : Int → Int} {n : Int}
set_option maxRecDepth 20000 in
theorem m_isCommand (hd : 4 ≤ d) (hM : zMP s V) (hX : zMx T n V) (hk : zTok2 T n) {p : Int} (hA : V 164 40 = zi p) (p0 : 0 ≤ p) (p1 : p < n) (hQ : ∀ V', zFm [190] [40, 41] V V' → V' 164 40 = zi (zCm T n p).1 → ((zCm T n p).2 = true → V' 164 41 = zi (T p) ∧ ∀ j : Nat, j < zNum (T p) → V' 190 j = zi (zNb T n p j)) → Q (.inl (some (zi (zb1 (zCm T n p).2)))) (s, V')) : zcall d 264 [.ref 164] (s, V) Q := by
  have hTp := hX.2 p p0 p1
  have hrp := hk.2 p p0 p1
  obtain ⟨⟨n0, n1⟩, hr⟩ := id hk
  have h55 := zNum_5 (T p)
  have tM := hM.1
  have vm_text : V 164 4 = .ref 168 := (hM.2 3 (by decide)).1
  have tm_text : s.tg 168 = 20 := (hM.2 3 (by decide)).2.1
  have lm_text : s.ln 168 = 120 := (hM.2 3 (by decide)).2.2
  have vm_numbers : V 164 42 = .ref 190 := (hM.2 25 (by decide)).1
  have tm_numbers : s.tg 190 = 20 := (hM.2 25 (by decide)).2.1
  have lm_numbers : s.ln 190 = 5 := (hM.2 25 (by decide)).2.2
  obtain ⟨d, rfl⟩ : ∃ e, d = e + 1 := ⟨d - 1, by omega⟩
  rw [zc_264 tM]
  have e41 : zput V 164 41 (zi (T p)) 164 41 = zi (T p) := zput_at
  have e40 : zput V 164 41 (zi (T p)) 164 40 = zi p := by rw [zput_k (by omega)]; exact hA
  have F0 : zFm [190] [40, 41] V (zput V 164 41 (zi (T p))) := zFm.rf.pf (by simp)
  by_cases hN : zNum (T p) = 0
  · have hcm : zCm T n p = (p, false) := by unfold zCm; rw [if_pos hN]
    rw [hcm] at hQ
    have := hQ _ F0 e40 (fun q => by cases q)
    rw [show zb1 (p, false).2 = 0 from rfl] at this
    simp (disch := first | assumption | exact zk_264 | ((repeat (first | exact z1n | refine z1I ?_ | refine z1R ?_)); done) | exact rfl | omega | decide) only [zb_264_0, r_aload_0, r_gf_644, r_gf_680, r_ial, r_ial30, r_ial32, r_pf_681, r_gf_681, r_inv_1_0, r_inv_1_1, r_inv_1_2, r_inv_1_3, r_inv_1_4, r_K0, r_K1, r_istore_1i, r_istore_1r, r_istore_1j, r_iload_1, r_if_ne, r_iconst, r_iret, r_bret_0, r_bret_1, r_dup_i, r_dup_r, r_iadd, r_pf_680, r_istore_2i, r_istore_2r, r_istore_2j, r_goto_w, r_iload_2, r_icmp_ge, r_inv_2_0, r_inv_2_1, r_inv_2_2, r_inv_2_3, r_inv_2_4, r_if_eq, r_isub, r_goto, r_inv_3_0, r_inv_3_1, r_inv_3_2, r_inv_3_3, r_inv_3_4, r_iinc_2i, r_iinc_2r, r_iinc_2j, vm_text, vm_numbers, hA, hTp, e41, m_numbersOf, hN, Int.cast_ofNat_Int, ↓reduceIte, not_true_eq_false, not_false_eq_true, Int.reduceEq, Int.reduceLE, Int.reduceLT, Int.reduceAdd, Int.reduceNeg, Int.reduceMul, Int.reduceSub, Int.reduceToNat]
    exact this
  · have hcm : zCm T n p = zCmL T n (zNum (T p)) (p + 1) := by unfold zCm; rw [if_neg hN]
    rw [hcm] at hQ
    simp (disch := first | assumption | exact zk_264 | ((repeat (first | exact z1n | refine z1I ?_ | refine z1R ?_)); done) | exact rfl | omega | decide) only [zb_264_0, r_aload_0, r_gf_644, r_gf_680, r_ial, r_ial30, r_ial32, r_pf_681, r_gf_681, r_inv_1_0, r_inv_1_1, r_inv_1_2, r_inv_1_3, r_inv_1_4, r_K0, r_K1, r_istore_1i, r_istore_1r, r_istore_1j, r_iload_1, r_if_ne, r_iconst, r_iret, r_bret_0, r_bret_1, r_dup_i, r_dup_r, r_iadd, r_pf_680, r_istore_2i, r_istore_2r, r_istore_2j, r_goto_w, r_iload_2, r_icmp_ge, r_inv_2_0, r_inv_2_1, r_inv_2_2, r_inv_2_3, r_inv_2_4, r_if_eq, r_isub, r_goto, r_inv_3_0, r_inv_3_1, r_inv_3_2, r_inv_3_3, r_inv_3_4, r_iinc_2i, r_iinc_2r, r_iinc_2j, vm_text, vm_numbers, hA, hTp, e41, m_numbersOf, ↓reduceIte, not_true_eq_false, not_false_eq_true, Int.reduceEq, Int.reduceLE, Int.reduceLT, Int.reduceAdd, Int.reduceNeg, Int.reduceMul, Int.reduceSub, Int.reduceToNat]
    rw [if_pos (by omega)]
    simp (disch := first | assumption | exact zk_264 | ((repeat (first | exact z1n | refine z1I ?_ | refine z1R ?_)); done) | exact rfl | omega | decide) only [zb_264_1, r_aload_0, r_gf_644, r_gf_680, r_ial, r_ial30, r_ial32, r_pf_681, r_gf_681, r_inv_1_0, r_inv_1_1, r_inv_1_2, r_inv_1_3, r_inv_1_4, r_K0, r_K1, r_istore_1i, r_istore_1r, r_istore_1j, r_iload_1, r_if_ne, r_iconst, r_iret, r_bret_0, r_bret_1, r_dup_i, r_dup_r, r_iadd, r_pf_680, r_istore_2i, r_istore_2r, r_istore_2j, r_goto_w, r_iload_2, r_icmp_ge, r_inv_2_0, r_inv_2_1, r_inv_2_2, r_inv_2_3, r_inv_2_4, r_if_eq, r_isub, r_goto, r_inv_3_0, r_inv_3_1, r_inv_3_2, r_inv_3_3, r_inv_3_4, r_iinc_2i, r_iinc_2r, r_iinc_2j, vm_text, vm_numbers, e40, ↓reduceIte, not_true_eq_false, not_false_eq_true, Int.reduceEq, Int.reduceLE, Int.reduceLT, Int.reduceAdd, Int.reduceNeg, Int.reduceMul, Int.reduceSub, Int.reduceToNat]
    have hlp := z_iter (i := 0) (n := (zNum (T p) : Int)) (I := fun j (q : zV) => zFm [190] [40, 41] V q ∧ q 164 40 = zi (zNs T n j.toNat (p + 1)) ∧ q 164 41 = zi (T p) ∧ (∀ i : Nat, (i : Int) < j → q 190 i = zi (zNb T n p i)) ∧ (0 ≤ zNs T n j.toNat (p + 1) ∧ zNs T n j.toNat (p + 1) ≤ n) ∧ zCmL T n (zNum (T p)) (p + 1) = zCmL T n (zNum (T p) - j.toNat) (zNs T n j.toNat (p + 1))) (P := fun j q => zwp (zcall d) 264 Q (zB 264 2) [.ref 164, zi (zNum (T p) : Nat), zi j] [] (s, q)) (by omega)
    refine hlp ?_ ?_ _ ⟨F0.pf (by simp), zput_at, by rw [zput_k (by omega)]; exact e41, fun i hi => by omega, ⟨by show 0 ≤ p + 1; omega, by show p + 1 ≤ n; omega⟩, rfl⟩
    · rintro j V1 j0 j1 ⟨f1, e1, l1, g1, ⟨r1, r2⟩, hz⟩ ih
      obtain ⟨w, rfl⟩ : ∃ w : Nat, j = w := ⟨j.toNat, by omega⟩
      rw [Int.toNat_natCast] at e1 r1 r2 hz
      have hw5 : w < 5 := by omega
      have hsub : zNum (T p) - w = (zNum (T p) - w - 1) + 1 := by omega
      rw [hsub] at hz
      have hns : zNs T n (w + 1) (p + 1) = zDe T n (zNs T n w (p + 1)) + 1 := rfl
      simp only [show ((w : Int) + 1).toNat = w + 1 by omega] at ih
      rw [hns] at ih
      generalize hat : zNs T n w (p + 1) = at0 at *
      obtain ⟨a, b, c, e, f⟩ := zDe_is (T := T) r2
      have hM1 := hM.fm f1 (by decide)
      have hX1 := hX.fm f1 (by decide) (by decide)
      have hcl : zCmL T n (zNum (T p) - w - 1 + 1) at0 = if zDe T n at0 = at0 ∨ n ≤ zDe T n at0 ∨ T (zDe T n at0) ≠ (if zNum (T p) - w - 1 = 0 then 59 else 44) then (zDe T n at0, false) else zCmL T n (zNum (T p) - w - 1) (zDe T n at0 + 1) := rfl
      have hnb : zVl T at0 (zDe T n at0) = zNb T n p w := by unfold zNb; rw [hat]
      conv => rw [zb_264_2]
      simp (disch := first | assumption | exact zk_264 | ((repeat (first | exact z1n | refine z1I ?_ | refine z1R ?_)); done) | exact rfl | omega | decide) only [r_aload_0, r_gf_644, r_gf_680, r_ial, r_ial30, r_ial32, r_pf_681, r_gf_681, r_inv_1_0, r_inv_1_1, r_inv_1_2, r_inv_1_3, r_inv_1_4, r_K0, r_K1, r_istore_1i, r_istore_1r, r_istore_1j, r_iload_1, r_if_ne, r_iconst, r_iret, r_bret_0, r_bret_1, r_dup_i, r_dup_r, r_iadd, r_pf_680, r_istore_2i, r_istore_2r, r_istore_2j, r_goto_w, r_iload_2, r_icmp_ge, r_inv_2_0, r_inv_2_1, r_inv_2_2, r_inv_2_3, r_inv_2_4, r_if_eq, r_isub, r_goto, r_inv_3_0, r_inv_3_1, r_inv_3_2, r_inv_3_3, r_inv_3_4, r_iinc_2i, r_iinc_2r, r_iinc_2j, vm_text, vm_numbers, ↓reduceIte, not_true_eq_false, not_false_eq_true, Int.reduceEq, Int.reduceLE, Int.reduceLT, Int.reduceAdd, Int.reduceNeg, Int.reduceMul, Int.reduceSub, Int.reduceToNat]
      rw [if_neg (by omega)]
      refine m_isNumber (by omega) hM1 hX1 hk e1 r1 r2 (by omega) (by omega) (fun V2 f2 e2 g2 o2 => ?_)
      have hM2 := hM1.fm f2 (by decide)
      have hX2 := hX1.fm f2 (by decide) (by decide)
      have F2 : zFm [190] [40, 41] V V2 := f1.tr (f2.mono (fun _ h => h) (by decide))
      have bad : zDe T n at0 = at0 ∨ n ≤ zDe T n at0 ∨ T (zDe T n at0) ≠ (if zNum (T p) - w - 1 = 0 then 59 else 44) → Q (.inl (some (zi 0))) (s, V2) := fun q => by
        rw [if_pos q] at hcl
        rw [hz, hcl] at hQ
        exact hQ V2 F2 e2 (fun q => by cases q)
      by_cases z1 : zDe T n at0 = at0
      · have := bad (Or.inl z1)
        rw [if_neg (by omega)]
        simp (disch := first | assumption | exact zk_264 | ((repeat (first | exact z1n | refine z1I ?_ | refine z1R ?_)); done) | exact rfl | omega | decide) only [zb_264_7, r_aload_0, r_gf_644, r_gf_680, r_ial, r_ial30, r_ial32, r_pf_681, r_gf_681, r_inv_1_0, r_inv_1_1, r_inv_1_2, r_inv_1_3, r_inv_1_4, r_K0, r_K1, r_istore_1i, r_istore_1r, r_istore_1j, r_iload_1, r_if_ne, r_iconst, r_iret, r_bret_0, r_bret_1, r_dup_i, r_dup_r, r_iadd, r_pf_680, r_istore_2i, r_istore_2r, r_istore_2j, r_goto_w, r_iload_2, r_icmp_ge, r_inv_2_0, r_inv_2_1, r_inv_2_2, r_inv_2_3, r_inv_2_4, r_if_eq, r_isub, r_goto, r_inv_3_0, r_inv_3_1, r_inv_3_2, r_inv_3_3, r_inv_3_4, r_iinc_2i, r_iinc_2r, r_iinc_2j, vm_text, vm_numbers, ↓reduceIte, not_true_eq_false, not_false_eq_true, Int.reduceEq, Int.reduceLE, Int.reduceLT, Int.reduceAdd, Int.reduceNeg, Int.reduceMul, Int.reduceSub, Int.reduceToNat]
        exact this
      · rw [if_pos (by omega)]
        generalize hm : (if (zNum (T p) : Int) - 1 ≤ (w : Int) then (59 : Int) else 44) = mk
        have hmm : (if zNum (T p) - w - 1 = 0 then (59 : Int) else 44) = mk := by
          rw [← hm]
          by_cases z : (zNum (T p) : Int) - 1 ≤ (w : Int)
          · rw [if_pos (by omega), if_pos z]
          · rw [if_neg (by omega), if_neg z]
        have h32 : zI32 mk := by rw [← hm]; split <;> exact ⟨by omega, by omega⟩
        have key : zwp (zcall d) 264 Q (zB 264 6) [.ref 164, zi (zNum (T p) : Nat), zi (w : Int)] [zi mk, zi mk, .ref 164] (s, V2) := by
          by_cases z : zDe T n at0 < n ∧ mk ≤ T (zDe T n at0) ∧ T (zDe T n at0) ≤ mk
          · have hg : ¬ (zDe T n at0 = at0 ∨ n ≤ zDe T n at0 ∨ T (zDe T n at0) ≠ (if zNum (T p) - w - 1 = 0 then 59 else 44)) := by rw [hmm]; omega
            rw [if_neg hg] at hcl
            have ea : ∀ K, zcall d 261 [.ref 164, zi mk, zi mk] (s, V2) K = K (.inl (some (zi 1))) (s, V2) := fun K => by rw [m_isAt (by omega) hM2 hX2 hk e2 (by omega) c h32 h32, if_pos z]
            have := ih (zput V2 164 40 (zi (zDe T n at0 + 1))) ⟨F2.pf (by simp), zput_at, by rw [zput_k (by omega), f2.2 41 (by decide)]; exact l1, fun i hi => ?_, ⟨by omega, by omega⟩, ?_⟩
            · simp (disch := first | assumption | exact zk_264 | ((repeat (first | exact z1n | refine z1I ?_ | refine z1R ?_)); done) | exact rfl | omega | decide) only [zb_264_6, zb_264_8, r_aload_0, r_gf_644, r_gf_680, r_ial, r_ial30, r_ial32, r_pf_681, r_gf_681, r_inv_1_0, r_inv_1_1, r_inv_1_2, r_inv_1_3, r_inv_1_4, r_K0, r_K1, r_istore_1i, r_istore_1r, r_istore_1j, r_iload_1, r_if_ne, r_iconst, r_iret, r_bret_0, r_bret_1, r_dup_i, r_dup_r, r_iadd, r_pf_680, r_istore_2i, r_istore_2r, r_istore_2j, r_goto_w, r_iload_2, r_icmp_ge, r_inv_2_0, r_inv_2_1, r_inv_2_2, r_inv_2_3, r_inv_2_4, r_if_eq, r_isub, r_goto, r_inv_3_0, r_inv_3_1, r_inv_3_2, r_inv_3_3, r_inv_3_4, r_iinc_2i, r_iinc_2r, r_iinc_2j, vm_text, vm_numbers, ea, e2, ↓reduceIte, not_true_eq_false, not_false_eq_true, Int.reduceEq, Int.reduceLE, Int.reduceLT, Int.reduceAdd, Int.reduceNeg, Int.reduceMul, Int.reduceSub, Int.reduceToNat]
              exact this
            · rw [zput_r (by omega)]
              by_cases ei : i = w
              · rw [ei, g2, hnb]
              · rw [o2 _ (by omega)]; exact g1 i (by omega)
            · rw [hz, hcl]; congr 1
          · have ea : ∀ K, zcall d 261 [.ref 164, zi mk, zi mk] (s, V2) K = K (.inl (some (zi 0))) (s, V2) := fun K => by rw [m_isAt (by omega) hM2 hX2 hk e2 (by omega) c h32 h32, if_neg z]
            have := bad (by rw [hmm]; omega)
            simp (disch := first | assumption | exact zk_264 | ((repeat (first | exact z1n | refine z1I ?_ | refine z1R ?_)); done) | exact rfl | omega | decide) only [zb_264_6, zb_264_7, r_aload_0, r_gf_644, r_gf_680, r_ial, r_ial30, r_ial32, r_pf_681, r_gf_681, r_inv_1_0, r_inv_1_1, r_inv_1_2, r_inv_1_3, r_inv_1_4, r_K0, r_K1, r_istore_1i, r_istore_1r, r_istore_1j, r_iload_1, r_if_ne, r_iconst, r_iret, r_bret_0, r_bret_1, r_dup_i, r_dup_r, r_iadd, r_pf_680, r_istore_2i, r_istore_2r, r_istore_2j, r_goto_w, r_iload_2, r_icmp_ge, r_inv_2_0, r_inv_2_1, r_inv_2_2, r_inv_2_3, r_inv_2_4, r_if_eq, r_isub, r_goto, r_inv_3_0, r_inv_3_1, r_inv_3_2, r_inv_3_3, r_inv_3_4, r_iinc_2i, r_iinc_2r, r_iinc_2j, vm_text, vm_numbers, ea, ↓reduceIte, not_true_eq_false, not_false_eq_true, Int.reduceEq, Int.reduceLE, Int.reduceLT, Int.reduceAdd, Int.reduceNeg, Int.reduceMul, Int.reduceSub, Int.reduceToNat]
            exact this
        by_cases z : (zNum (T p) : Int) - 1 ≤ (w : Int)
        · rw [if_pos z] at hm
          rw [← hm] at key
          simp (disch := first | assumption | exact zk_264 | ((repeat (first | exact z1n | refine z1I ?_ | refine z1R ?_)); done) | exact rfl | omega | decide) only [zb_264_3, zb_264_4, zb_264_5, r_aload_0, r_gf_644, r_gf_680, r_ial, r_ial30, r_ial32, r_pf_681, r_gf_681, r_inv_1_0, r_inv_1_1, r_inv_1_2, r_inv_1_3, r_inv_1_4, r_K0, r_K1, r_istore_1i, r_istore_1r, r_istore_1j, r_iload_1, r_if_ne, r_iconst, r_iret, r_bret_0, r_bret_1, r_dup_i, r_dup_r, r_iadd, r_pf_680, r_istore_2i, r_istore_2r, r_istore_2j, r_goto_w, r_iload_2, r_icmp_ge, r_inv_2_0, r_inv_2_1, r_inv_2_2, r_inv_2_3, r_inv_2_4, r_if_eq, r_isub, r_goto, r_inv_3_0, r_inv_3_1, r_inv_3_2, r_inv_3_3, r_inv_3_4, r_iinc_2i, r_iinc_2r, r_iinc_2j, vm_text, vm_numbers, z, ↓reduceIte, not_true_eq_false, not_false_eq_true, Int.reduceEq, Int.reduceLE, Int.reduceLT, Int.reduceAdd, Int.reduceNeg, Int.reduceMul, Int.reduceSub, Int.reduceToNat]
          exact key
        · rw [if_neg z] at hm
          rw [← hm] at key
          simp (disch := first | assumption | exact zk_264 | ((repeat (first | exact z1n | refine z1I ?_ | refine z1R ?_)); done) | exact rfl | omega | decide) only [zb_264_3, zb_264_4, zb_264_5, r_aload_0, r_gf_644, r_gf_680, r_ial, r_ial30, r_ial32, r_pf_681, r_gf_681, r_inv_1_0, r_inv_1_1, r_inv_1_2, r_inv_1_3, r_inv_1_4, r_K0, r_K1, r_istore_1i, r_istore_1r, r_istore_1j, r_iload_1, r_if_ne, r_iconst, r_iret, r_bret_0, r_bret_1, r_dup_i, r_dup_r, r_iadd, r_pf_680, r_istore_2i, r_istore_2r, r_istore_2j, r_goto_w, r_iload_2, r_icmp_ge, r_inv_2_0, r_inv_2_1, r_inv_2_2, r_inv_2_3, r_inv_2_4, r_if_eq, r_isub, r_goto, r_inv_3_0, r_inv_3_1, r_inv_3_2, r_inv_3_3, r_inv_3_4, r_iinc_2i, r_iinc_2r, r_iinc_2j, vm_text, vm_numbers, z, ↓reduceIte, not_true_eq_false, not_false_eq_true, Int.reduceEq, Int.reduceLE, Int.reduceLT, Int.reduceAdd, Int.reduceNeg, Int.reduceMul, Int.reduceSub, Int.reduceToNat]
          exact key
    · rintro V1 ⟨f1, e1, l1, g1, ⟨r1, r2⟩, hz⟩
      rw [Int.toNat_natCast] at e1 hz
      rw [Nat.sub_self] at hz
      have hz : zCmL T n (zNum (T p)) (p + 1) = (zNs T n (zNum (T p)) (p + 1), true) := hz
      rw [hz] at hQ
      have := hQ V1 f1 e1 (fun _ => ⟨l1, fun j hj => g1 j (by omega)⟩)
      rw [show zb1 (zNs T n (zNum (T p)) (p + 1), true).2 = 1 from rfl] at this
      simp (disch := first | assumption | exact zk_264 | ((repeat (first | exact z1n | refine z1I ?_ | refine z1R ?_)); done) | exact rfl | omega | decide) only [zb_264_2, zb_264_9, r_aload_0, r_gf_644, r_gf_680, r_ial, r_ial30, r_ial32, r_pf_681, r_gf_681, r_inv_1_0, r_inv_1_1, r_inv_1_2, r_inv_1_3, r_inv_1_4, r_K0, r_K1, r_istore_1i, r_istore_1r, r_istore_1j, r_iload_1, r_if_ne, r_iconst, r_iret, r_bret_0, r_bret_1, r_dup_i, r_dup_r, r_iadd, r_pf_680, r_istore_2i, r_istore_2r, r_istore_2j, r_goto_w, r_iload_2, r_icmp_ge, r_inv_2_0, r_inv_2_1, r_inv_2_2, r_inv_2_3, r_inv_2_4, r_if_eq, r_isub, r_goto, r_inv_3_0, r_inv_3_1, r_inv_3_2, r_inv_3_3, r_inv_3_4, r_iinc_2i, r_iinc_2r, r_iinc_2j, vm_text, vm_numbers, Int.le_refl, ↓reduceIte, not_true_eq_false, not_false_eq_true, Int.reduceEq, Int.reduceLE, Int.reduceLT, Int.reduceAdd, Int.reduceNeg, Int.reduceMul, Int.reduceSub, Int.reduceToNat]
      exact this
end
