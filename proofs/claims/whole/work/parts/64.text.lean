/-! TEXT, 4: a command carried out, in both -/
def zAr (ρ : zR) (x y l t k : Int) : Prop := ((0 ≤ x ∧ x < ρ.n) ∧ 0 ≤ y ∧ y < ρ.n) ∧ ((1 ≤ l ∧ l ≤ 500) ∧ 1 ≤ t ∧ t ≤ 3) ∧ 0 ≤ k ∧ k ≤ 2
/-- the command can be carried out -/
def zOkC (ρ : zR) (l : Int) (f : Nat → Int) : Prop :=
  if l = 97 then (1 ≤ f 0 ∧ f 0 ≤ 100) ∧ ρ.n < 12
  else if l = 99 then zAr ρ (f 0) (f 1) (f 2) (f 3) (f 4) ∧ ¬ zNk ρ (f 0) (f 1) (f 4)
  else if l = 100 then (0 ≤ f 0 ∧ f 0 < ρ.n) ∧ ρ.S 6 (f 0) = 1
  else if l = 114 then (0 ≤ f 0 ∧ f 0 < ρ.n) ∧ ρ.S 6 (f 0) ≠ 1 ∧ ρ.S 8 (f 0) = -1
  else if l = 115 then 1 ≤ f 0 ∧ f 0 ≤ 50
  else (0 ≤ f 1 ∧ f 1 < ρ.n) ∧ (0 ≤ f 0 ∧ f 0 ≤ 5) ∧ zLeast (f 0) ≤ f 2 ∧ f 2 ≤ zMost (f 0)
def zEfC (ρ : zR) (l : Int) (f : Nat → Int) : zR :=
  if l = 97 then ρ.addS (f 0)
  else if l = 99 then ρ.addK (f 0) (f 1) (f 2) (f 3) (f 4)
  else if l = 100 then zGd ρ (f 0)
  else if l = 114 then ρ.sS 8 (f 0) (ρ.S 3 (f 0))
  else if l = 115 then zSteps ρ (f 0).toNat
  else ρ.sS (f 0) (f 1) (f 2)
theorem zNum_ne {l : Int} (h : zNum l ≠ 0) : l = 97 ∨ l = 99 ∨ l = 100 ∨ l = 114 ∨ l = 115 ∨ l = 112 := by
  unfold zNum at h
  (repeat' split at h) <;> omega
theorem zCmd_congr {ρ : zR} {l : Int} {f g : Nat → Int} (hl : zNum l ≠ 0) (h : ∀ j, j < zNum l → f j = g j) : (zOkC ρ l f ↔ zOkC ρ l g) ∧ zEfC ρ l f = zEfC ρ l g := by
  rcases zNum_ne hl with rfl | rfl | rfl | rfl | rfl | rfl
  · have h0 := h 0 (by decide)
    exact ⟨by show ((1 ≤ f 0 ∧ f 0 ≤ 100) ∧ ρ.n < 12) ↔ ((1 ≤ g 0 ∧ g 0 ≤ 100) ∧ ρ.n < 12); rw [h0], by show ρ.addS (f 0) = ρ.addS (g 0); rw [h0]⟩
  · have h0 := h 0 (by decide)
    have h1 := h 1 (by decide)
    have h2 := h 2 (by decide)
    have h3 := h 3 (by decide)
    have h4 := h 4 (by decide)
    exact ⟨by show (zAr ρ (f 0) (f 1) (f 2) (f 3) (f 4) ∧ ¬ zNk ρ (f 0) (f 1) (f 4)) ↔ (zAr ρ (g 0) (g 1) (g 2) (g 3) (g 4) ∧ ¬ zNk ρ (g 0) (g 1) (g 4)); rw [h0, h1, h2, h3, h4], by show ρ.addK (f 0) (f 1) (f 2) (f 3) (f 4) = ρ.addK (g 0) (g 1) (g 2) (g 3) (g 4); rw [h0, h1, h2, h3, h4]⟩
  · have h0 := h 0 (by decide)
    exact ⟨by show ((0 ≤ f 0 ∧ f 0 < ρ.n) ∧ ρ.S 6 (f 0) = 1) ↔ ((0 ≤ g 0 ∧ g 0 < ρ.n) ∧ ρ.S 6 (g 0) = 1); rw [h0], by show zGd ρ (f 0) = zGd ρ (g 0); rw [h0]⟩
  · have h0 := h 0 (by decide)
    exact ⟨by show ((0 ≤ f 0 ∧ f 0 < ρ.n) ∧ ρ.S 6 (f 0) ≠ 1 ∧ ρ.S 8 (f 0) = -1) ↔ ((0 ≤ g 0 ∧ g 0 < ρ.n) ∧ ρ.S 6 (g 0) ≠ 1 ∧ ρ.S 8 (g 0) = -1); rw [h0], by show ρ.sS 8 (f 0) (ρ.S 3 (f 0)) = ρ.sS 8 (g 0) (ρ.S 3 (g 0)); rw [h0]⟩
  · have h0 := h 0 (by decide)
    exact ⟨by show (1 ≤ f 0 ∧ f 0 ≤ 50) ↔ (1 ≤ g 0 ∧ g 0 ≤ 50); rw [h0], by show zSteps ρ (f 0).toNat = zSteps ρ (g 0).toNat; rw [h0]⟩
  · have h0 := h 0 (by decide)
    have h1 := h 1 (by decide)
    have h2 := h 2 (by decide)
    exact ⟨by show ((0 ≤ f 1 ∧ f 1 < ρ.n) ∧ (0 ≤ f 0 ∧ f 0 ≤ 5) ∧ zLeast (f 0) ≤ f 2 ∧ f 2 ≤ zMost (f 0)) ↔ ((0 ≤ g 1 ∧ g 1 < ρ.n) ∧ (0 ≤ g 0 ∧ g 0 ≤ 5) ∧ zLeast (g 0) ≤ g 2 ∧ g 2 ≤ zMost (g 0)); rw [h0, h1, h2], by show ρ.sS (f 0) (f 1) (f 2) = ρ.sS (g 0) (g 1) (g 2); rw [h0, h1, h2]⟩
theorem zEfC_wf {ρ : zR} (hW : zWF ρ) {l : Int} {f : Nat → Int} (hl : zNum l ≠ 0) (h : zOkC ρ l f) : zWF (zEfC ρ l f) := by
  rcases zNum_ne hl with rfl | rfl | rfl | rfl | rfl | rfl
  · obtain ⟨⟨a, b⟩, c⟩ : (1 ≤ f 0 ∧ f 0 ≤ 100) ∧ ρ.n < 12 := h
    exact hW.addS c a b
  · obtain ⟨⟨⟨a, b⟩, ⟨c, e⟩, k⟩, n⟩ : zAr ρ (f 0) (f 1) (f 2) (f 3) (f 4) ∧ ¬ zNk ρ (f 0) (f 1) (f 4) := h
    have n1 : ¬ (f 0 = f 1) := fun z => n (Or.inl (Or.inl (Or.inl z)))
    have n2 : ¬ (zin (zNeeds ρ (f 1)) (f 0) = true) := fun z => n (Or.inl (Or.inl (Or.inr z)))
    have n3 : ¬ (f 4 = 2 ∧ zHd ρ (f 0) ρ.c.toNat = -1) := fun z => n (Or.inl (Or.inr z))
    have n4 : ¬ (ρ.c = 24) := fun z => n (Or.inr z)
    have := hW.1
    exact hW.addK (by omega) a b c e k n1 (by simpa using n2) (fun z1 z2 => n3 ⟨z1, z2⟩)
  · exact hW.gd
  · obtain ⟨⟨a, b⟩, -⟩ : (0 ≤ f 0 ∧ f 0 < ρ.n) ∧ ρ.S 6 (f 0) ≠ 1 ∧ ρ.S 8 (f 0) = -1 := h
    exact hW.rep a b
  · exact (zSteps_wf hW (f 0).toNat).2
  · obtain ⟨-, ⟨a, b⟩, c, e⟩ : (0 ≤ f 1 ∧ f 1 < ρ.n) ∧ (0 ≤ f 0 ∧ f 0 ≤ 5) ∧ zLeast (f 0) ≤ f 2 ∧ f 2 ≤ zMost (f 0) := h
    exact hW.sS a b c e
section
variable {d : Nat} {s : zS} {V : zV} {Q : zO → zH → Prop} {a : Nat} {ρ : zR} {h : zH} {T : Int → Int} {n : Int} {g : Nat → Int}
set_option maxRecDepth 20000 in
theorem c_whyNotCommand (hd : 5 ≤ d) (hA : zSA s V) (hX : zTxP s V) (hP : zStP s V a) (hC : zStC ρ V a) (hW : zWF ρ) {k l : Int} (k0 : 0 ≤ k) (k1 : k < 40) (hl : zNum l ≠ 0) (hL : V 157 k = zi l) (hN : ∀ j : Nat, j < 5 → V (159 + j) k = zi (g j)) (hg : ∀ j : Nat, j < zNum l → 0 ≤ g j ∧ g j ≤ 999) (h0 : zOkC ρ l g → Q (.inl (some (zi 0))) (s, V)) (h1 : ¬ zOkC ρ l g → ∀ e : Int, 1 ≤ e → e ≤ 3 → Q (.inl (some (zi e))) (s, V)) : zcall d 113 [.ref 155, .ref a, zi k] (s, V) Q := by
  obtain ⟨n0, n1, c0, c1⟩ := hW.1
  obtain ⟨t1, ⟨v0, v2, v3⟩, ⟨t2, l2⟩, ⟨t3, l3⟩, ⟨t4, l4⟩, h5⟩ := hX
  have tO := hP.1
  have r0 : V 158 0 = .ref 159 := (h5 0 (by omega)).1
  have r1 : V 158 1 = .ref 160 := (h5 1 (by omega)).1
  have r2 : V 158 2 = .ref 161 := (h5 2 (by omega)).1
  have r3 : V 158 3 = .ref 162 := (h5 3 (by omega)).1
  have r4 : V 158 4 = .ref 163 := (h5 4 (by omega)).1
  have q0 : V 159 k = zi (g 0) := hN 0 (by omega)
  have q1 : V 160 k = zi (g 1) := hN 1 (by omega)
  have q2 : V 161 k = zi (g 2) := hN 2 (by omega)
  have q3 : V 162 k = zi (g 3) := hN 3 (by omega)
  have q4 : V 163 k = zi (g 4) := hN 4 (by omega)
  have ta0 : s.tg 159 = 20 := (h5 0 (by omega)).2.1
  have ta1 : s.tg 160 = 20 := (h5 1 (by omega)).2.1
  have ta2 : s.tg 161 = 20 := (h5 2 (by omega)).2.1
  have ta3 : s.tg 162 = 20 := (h5 3 (by omega)).2.1
  have ta4 : s.tg 163 = 20 := (h5 4 (by omega)).2.1
  have la0 : s.ln 159 = 40 := (h5 0 (by omega)).2.2
  have la1 : s.ln 160 = 40 := (h5 1 (by omega)).2.2
  have la2 : s.ln 161 = 40 := (h5 2 (by omega)).2.2
  have la3 : s.ln 162 = 40 := (h5 3 (by omega)).2.2
  have la4 : s.ln 163 = 40 := (h5 4 (by omega)).2.2
  obtain ⟨d, rfl⟩ : ∃ e, d = e + 1 := ⟨d - 1, by omega⟩
  rw [zc_113 t1]
  have i32 : ∀ j : Nat, j < zNum l → zI32 (g j) := fun j hj => ⟨by have := hg j hj; omega, by have := hg j hj; omega⟩
  rcases zNum_ne hl with rfl | rfl | rfl | rfl | rfl | rfl
  · have h0 : (1 ≤ g 0 ∧ g 0 ≤ 100) ∧ ρ.n < 12 → _ := h0
    have h1 : ¬ ((1 ≤ g 0 ∧ g 0 ≤ 100) ∧ ρ.n < 12) → _ := h1
    have i0 := i32 0 (by decide)
    have hsw : zsw [(97, 1), (99, 2), (100, 3), (114, 4), (115, 5)] 6 97 = 1 := by decide
    simp (disch := first | assumption | exact zk_113 | ((repeat (first | exact z1n | refine z1I ?_ | refine z1R ?_)); done) | exact rfl | omega | decide) only [zb_113_0, zb_113_1, r_aload_0, r_gf_515, r_iconst, r_aaload, r_iload_2, r_ial, r_ial30, r_ial32, r_istore_3i, r_istore_3r, r_istore_3j, r_istore_4i, r_istore_4r, r_istore_4j, r_istore_5i, r_istore_5r, r_istore_5j, r_gf_514, r_sw, r_aload_1, r_iload_3, r_inv_2_0, r_inv_2_1, r_inv_2_2, r_inv_2_3, r_inv_2_4, r_K0, r_K1, r_iret, r_bret_0, r_bret_1, r_iload_4, r_iload_5, r_inv_6_0, r_inv_6_1, r_inv_6_2, r_inv_6_3, r_inv_6_4, r_inv_3_0, r_inv_3_1, r_inv_3_2, r_inv_3_3, r_inv_3_4, r_inv_4_0, r_inv_4_1, r_inv_4_2, r_inv_4_3, r_inv_4_4, v2, v3, r0, r1, r2, q0, q1, q2, hL, hsw, c_whyNotNewService (hC := hC), ↓reduceIte, not_true_eq_false, not_false_eq_true, Int.reduceEq, Int.reduceLE, Int.reduceLT, Int.reduceAdd, Int.reduceNeg, Int.reduceMul, Int.reduceSub, Int.reduceToNat]
    by_cases e : 1 ≤ g 0 ∧ g 0 ≤ 100
    · rw [if_pos e]
      by_cases e2 : ρ.n = 12
      · rw [if_pos e2]; exact h1 (by omega) _ (by omega) (by omega)
      · rw [if_neg e2]; exact h0 (by omega)
    · rw [if_neg e]; exact h1 (by omega) _ (by omega) (by omega)
  · have h0 : zAr ρ (g 0) (g 1) (g 2) (g 3) (g 4) ∧ ¬ zNk ρ (g 0) (g 1) (g 4) → _ := h0
    have h1 : ¬ (zAr ρ (g 0) (g 1) (g 2) (g 3) (g 4) ∧ ¬ zNk ρ (g 0) (g 1) (g 4)) → _ := h1
    have i0 := i32 0 (by decide)
    have i1 := i32 1 (by decide)
    have i2 := i32 2 (by decide)
    have i3 := i32 3 (by decide)
    have i4 := i32 4 (by decide)
    have hsw : zsw [(97, 1), (99, 2), (100, 3), (114, 4), (115, 5)] 6 99 = 2 := by decide
    simp (disch := first | assumption | exact zk_113 | ((repeat (first | exact z1n | refine z1I ?_ | refine z1R ?_)); done) | exact rfl | omega | decide) only [zb_113_0, zb_113_2, r_aload_0, r_gf_515, r_iconst, r_aaload, r_iload_2, r_ial, r_ial30, r_ial32, r_istore_3i, r_istore_3r, r_istore_3j, r_istore_4i, r_istore_4r, r_istore_4j, r_istore_5i, r_istore_5r, r_istore_5j, r_gf_514, r_sw, r_aload_1, r_iload_3, r_inv_2_0, r_inv_2_1, r_inv_2_2, r_inv_2_3, r_inv_2_4, r_K0, r_K1, r_iret, r_bret_0, r_bret_1, r_iload_4, r_iload_5, r_inv_6_0, r_inv_6_1, r_inv_6_2, r_inv_6_3, r_inv_6_4, r_inv_3_0, r_inv_3_1, r_inv_3_2, r_inv_3_3, r_inv_3_4, r_inv_4_0, r_inv_4_1, r_inv_4_2, r_inv_4_3, r_inv_4_4, v2, v3, r0, r1, r2, r3, r4, q0, q1, q2, q3, q4, hL, hsw, c_whyNotNewCall (hC := hC), ↓reduceIte, not_true_eq_false, not_false_eq_true, Int.reduceEq, Int.reduceLE, Int.reduceLT, Int.reduceAdd, Int.reduceNeg, Int.reduceMul, Int.reduceSub, Int.reduceToNat]
    by_cases e : (0 ≤ g 0 ∧ g 0 < ρ.n) ∧ 0 ≤ g 1 ∧ g 1 < ρ.n
    · rw [if_pos e]
      by_cases e2 : ((1 ≤ g 2 ∧ g 2 ≤ 500) ∧ 1 ≤ g 3 ∧ g 3 ≤ 3) ∧ 0 ≤ g 4 ∧ g 4 ≤ 2
      · rw [if_pos e2]
        by_cases e3 : zNk ρ (g 0) (g 1) (g 4)
        · rw [if_pos (show (((g 0 = g 1 ∨ zin (zNeeds ρ (g 1)) (g 0) = true) ∨ g 4 = 2 ∧ zHd ρ (g 0) ρ.c.toNat = -1) ∨ ρ.c = 24) from e3)]; exact h1 (fun z => z.2 e3) _ (by omega) (by omega)
        · rw [if_neg (show ¬ (((g 0 = g 1 ∨ zin (zNeeds ρ (g 1)) (g 0) = true) ∨ g 4 = 2 ∧ zHd ρ (g 0) ρ.c.toNat = -1) ∨ ρ.c = 24) from e3)]; exact h0 ⟨⟨e, e2⟩, e3⟩
      · rw [if_neg e2]; exact h1 (fun z => e2 z.1.2) _ (by omega) (by omega)
    · rw [if_neg e]; exact h1 (fun z => e z.1.1) _ (by omega) (by omega)
  · have h0 : (0 ≤ g 0 ∧ g 0 < ρ.n) ∧ ρ.S 6 (g 0) = 1 → _ := h0
    have h1 : ¬ ((0 ≤ g 0 ∧ g 0 < ρ.n) ∧ ρ.S 6 (g 0) = 1) → _ := h1
    have i0 := i32 0 (by decide)
    have hsw : zsw [(97, 1), (99, 2), (100, 3), (114, 4), (115, 5)] 6 100 = 3 := by decide
    simp (disch := first | assumption | exact zk_113 | ((repeat (first | exact z1n | refine z1I ?_ | refine z1R ?_)); done) | exact rfl | omega | decide) only [zb_113_0, zb_113_3, r_aload_0, r_gf_515, r_iconst, r_aaload, r_iload_2, r_ial, r_ial30, r_ial32, r_istore_3i, r_istore_3r, r_istore_3j, r_istore_4i, r_istore_4r, r_istore_4j, r_istore_5i, r_istore_5r, r_istore_5j, r_gf_514, r_sw, r_aload_1, r_iload_3, r_inv_2_0, r_inv_2_1, r_inv_2_2, r_inv_2_3, r_inv_2_4, r_K0, r_K1, r_iret, r_bret_0, r_bret_1, r_iload_4, r_iload_5, r_inv_6_0, r_inv_6_1, r_inv_6_2, r_inv_6_3, r_inv_6_4, r_inv_3_0, r_inv_3_1, r_inv_3_2, r_inv_3_3, r_inv_3_4, r_inv_4_0, r_inv_4_1, r_inv_4_2, r_inv_4_3, r_inv_4_4, v2, v3, r0, r1, r2, q0, q1, q2, hL, hsw, c_whyNotGoDown (hC := hC), ↓reduceIte, not_true_eq_false, not_false_eq_true, Int.reduceEq, Int.reduceLE, Int.reduceLT, Int.reduceAdd, Int.reduceNeg, Int.reduceMul, Int.reduceSub, Int.reduceToNat]
    by_cases e : 0 ≤ g 0 ∧ g 0 < ρ.n
    · rw [if_pos e]
      by_cases e2 : ρ.S 6 (g 0) = 1
      · rw [if_pos e2]; exact h0 ⟨e, e2⟩
      · rw [if_neg e2]; exact h1 (fun z => e2 z.2) _ (by omega) (by omega)
    · rw [if_neg e]; exact h1 (fun z => e z.1) _ (by omega) (by omega)
  · have h0 : (0 ≤ g 0 ∧ g 0 < ρ.n) ∧ ρ.S 6 (g 0) ≠ 1 ∧ ρ.S 8 (g 0) = -1 → _ := h0
    have h1 : ¬ ((0 ≤ g 0 ∧ g 0 < ρ.n) ∧ ρ.S 6 (g 0) ≠ 1 ∧ ρ.S 8 (g 0) = -1) → _ := h1
    have i0 := i32 0 (by decide)
    have hsw : zsw [(97, 1), (99, 2), (100, 3), (114, 4), (115, 5)] 6 114 = 4 := by decide
    simp (disch := first | assumption | exact zk_113 | ((repeat (first | exact z1n | refine z1I ?_ | refine z1R ?_)); done) | exact rfl | omega | decide) only [zb_113_0, zb_113_4, r_aload_0, r_gf_515, r_iconst, r_aaload, r_iload_2, r_ial, r_ial30, r_ial32, r_istore_3i, r_istore_3r, r_istore_3j, r_istore_4i, r_istore_4r, r_istore_4j, r_istore_5i, r_istore_5r, r_istore_5j, r_gf_514, r_sw, r_aload_1, r_iload_3, r_inv_2_0, r_inv_2_1, r_inv_2_2, r_inv_2_3, r_inv_2_4, r_K0, r_K1, r_iret, r_bret_0, r_bret_1, r_iload_4, r_iload_5, r_inv_6_0, r_inv_6_1, r_inv_6_2, r_inv_6_3, r_inv_6_4, r_inv_3_0, r_inv_3_1, r_inv_3_2, r_inv_3_3, r_inv_3_4, r_inv_4_0, r_inv_4_1, r_inv_4_2, r_inv_4_3, r_inv_4_4, v2, v3, r0, r1, r2, q0, q1, q2, hL, hsw, c_whyNotBeginRepair (hC := hC), ↓reduceIte, not_true_eq_false, not_false_eq_true, Int.reduceEq, Int.reduceLE, Int.reduceLT, Int.reduceAdd, Int.reduceNeg, Int.reduceMul, Int.reduceSub, Int.reduceToNat]
    by_cases e : 0 ≤ g 0 ∧ g 0 < ρ.n
    · rw [if_pos e]
      by_cases e2 : ρ.S 6 (g 0) ≠ 1 ∧ ρ.S 8 (g 0) = -1
      · rw [if_pos e2]; exact h0 ⟨e, e2⟩
      · rw [if_neg e2]; exact h1 (fun z => e2 z.2) _ (by omega) (by omega)
    · rw [if_neg e]; exact h1 (fun z => e z.1) _ (by omega) (by omega)
  · have h0 : 1 ≤ g 0 ∧ g 0 ≤ 50 → _ := h0
    have h1 : ¬ (1 ≤ g 0 ∧ g 0 ≤ 50) → _ := h1
    have i0 := i32 0 (by decide)
    have i1 : zI32 1 := ⟨by omega, by omega⟩
    have i2 : zI32 50 := ⟨by omega, by omega⟩
    have hsw : zsw [(97, 1), (99, 2), (100, 3), (114, 4), (115, 5)] 6 115 = 5 := by decide
    simp (disch := first | assumption | exact zk_113 | ((repeat (first | exact z1n | refine z1I ?_ | refine z1R ?_)); done) | exact rfl | omega | decide) only [zb_113_0, zb_113_5, r_aload_0, r_gf_515, r_iconst, r_aaload, r_iload_2, r_ial, r_ial30, r_ial32, r_istore_3i, r_istore_3r, r_istore_3j, r_istore_4i, r_istore_4r, r_istore_4j, r_istore_5i, r_istore_5r, r_istore_5j, r_gf_514, r_sw, r_aload_1, r_iload_3, r_inv_2_0, r_inv_2_1, r_inv_2_2, r_inv_2_3, r_inv_2_4, r_K0, r_K1, r_iret, r_bret_0, r_bret_1, r_iload_4, r_iload_5, r_inv_6_0, r_inv_6_1, r_inv_6_2, r_inv_6_3, r_inv_6_4, r_inv_3_0, r_inv_3_1, r_inv_3_2, r_inv_3_3, r_inv_3_4, r_inv_4_0, r_inv_4_1, r_inv_4_2, r_inv_4_3, r_inv_4_4, v2, v3, r0, r1, r2, q0, q1, q2, hL, hsw, c_within, ↓reduceIte, not_true_eq_false, not_false_eq_true, Int.reduceEq, Int.reduceLE, Int.reduceLT, Int.reduceAdd, Int.reduceNeg, Int.reduceMul, Int.reduceSub, Int.reduceToNat]
    by_cases e : 1 ≤ g 0 ∧ g 0 ≤ 50
    · rw [if_pos e]; exact h0 e
    · rw [if_neg e]; exact h1 e _ (by omega) (by omega)
  · have h0 : (0 ≤ g 1 ∧ g 1 < ρ.n) ∧ (0 ≤ g 0 ∧ g 0 ≤ 5) ∧ zLeast (g 0) ≤ g 2 ∧ g 2 ≤ zMost (g 0) → _ := h0
    have h1 : ¬ ((0 ≤ g 1 ∧ g 1 < ρ.n) ∧ (0 ≤ g 0 ∧ g 0 ≤ 5) ∧ zLeast (g 0) ≤ g 2 ∧ g 2 ≤ zMost (g 0)) → _ := h1
    have i0 := i32 0 (by decide)
    have i1 := i32 1 (by decide)
    have i2 := i32 2 (by decide)
    have hsw : zsw [(97, 1), (99, 2), (100, 3), (114, 4), (115, 5)] 6 112 = 6 := by decide
    simp (disch := first | assumption | exact zk_113 | ((repeat (first | exact z1n | refine z1I ?_ | refine z1R ?_)); done) | exact rfl | omega | decide) only [zb_113_0, zb_113_6, r_aload_0, r_gf_515, r_iconst, r_aaload, r_iload_2, r_ial, r_ial30, r_ial32, r_istore_3i, r_istore_3r, r_istore_3j, r_istore_4i, r_istore_4r, r_istore_4j, r_istore_5i, r_istore_5r, r_istore_5j, r_gf_514, r_sw, r_aload_1, r_iload_3, r_inv_2_0, r_inv_2_1, r_inv_2_2, r_inv_2_3, r_inv_2_4, r_K0, r_K1, r_iret, r_bret_0, r_bret_1, r_iload_4, r_iload_5, r_inv_6_0, r_inv_6_1, r_inv_6_2, r_inv_6_3, r_inv_6_4, r_inv_3_0, r_inv_3_1, r_inv_3_2, r_inv_3_3, r_inv_3_4, r_inv_4_0, r_inv_4_1, r_inv_4_2, r_inv_4_3, r_inv_4_4, v2, v3, r0, r1, r2, q0, q1, q2, hL, hsw, c_whyNotChange (hC := hC), ↓reduceIte, not_true_eq_false, not_false_eq_true, Int.reduceEq, Int.reduceLE, Int.reduceLT, Int.reduceAdd, Int.reduceNeg, Int.reduceMul, Int.reduceSub, Int.reduceToNat]
    by_cases e : 0 ≤ g 1 ∧ g 1 < ρ.n
    · rw [if_pos e]
      by_cases e2 : (0 ≤ g 0 ∧ g 0 ≤ 5) ∧ zLeast (g 0) ≤ g 2 ∧ g 2 ≤ zMost (g 0)
      · rw [if_pos e2]; exact h0 ⟨e, e2⟩
      · rw [if_neg e2]; exact h1 (fun z => e2 z.2) _ (by omega) (by omega)
    · rw [if_neg e]; exact h1 (fun z => e z.1) _ (by omega) (by omega)
set_option maxRecDepth 20000 in
theorem c_carryOut (hd : 6 ≤ d) (hA : zSA s V) (hX : zTxP s V) (hP : zStP s V a) (hC : zStC ρ V a) (hW : zWF ρ) (ha : 5 ≤ a) {k l : Int} (k0 : 0 ≤ k) (k1 : k < 40) (hl : zNum l ≠ 0) (hL : V 157 k = zi l) (hN : ∀ j : Nat, j < 5 → V (159 + j) k = zi (g j)) (hg : ∀ j : Nat, j < zNum l → 0 ≤ g j ∧ g j ≤ 999) (hok : zOkC ρ l g) (hQ : zTo s V a (zEfC ρ l g) Q (.inl none)) : zcall d 114 [.ref 155, .ref a, zi k] (s, V) Q := by
  obtain ⟨n0, n1, c0, c1⟩ := hW.1
  obtain ⟨t1, ⟨v0, v2, v3⟩, ⟨t2, l2⟩, ⟨t3, l3⟩, ⟨t4, l4⟩, h5⟩ := hX
  have tO := hP.1
  have r0 : V 158 0 = .ref 159 := (h5 0 (by omega)).1
  have r1 : V 158 1 = .ref 160 := (h5 1 (by omega)).1
  have r2 : V 158 2 = .ref 161 := (h5 2 (by omega)).1
  have r3 : V 158 3 = .ref 162 := (h5 3 (by omega)).1
  have r4 : V 158 4 = .ref 163 := (h5 4 (by omega)).1
  have q0 : V 159 k = zi (g 0) := hN 0 (by omega)
  have q1 : V 160 k = zi (g 1) := hN 1 (by omega)
  have q2 : V 161 k = zi (g 2) := hN 2 (by omega)
  have q3 : V 162 k = zi (g 3) := hN 3 (by omega)
  have q4 : V 163 k = zi (g 4) := hN 4 (by omega)
  have ta0 : s.tg 159 = 20 := (h5 0 (by omega)).2.1
  have ta1 : s.tg 160 = 20 := (h5 1 (by omega)).2.1
  have ta2 : s.tg 161 = 20 := (h5 2 (by omega)).2.1
  have ta3 : s.tg 162 = 20 := (h5 3 (by omega)).2.1
  have ta4 : s.tg 163 = 20 := (h5 4 (by omega)).2.1
  have la0 : s.ln 159 = 40 := (h5 0 (by omega)).2.2
  have la1 : s.ln 160 = 40 := (h5 1 (by omega)).2.2
  have la2 : s.ln 161 = 40 := (h5 2 (by omega)).2.2
  have la3 : s.ln 162 = 40 := (h5 3 (by omega)).2.2
  have la4 : s.ln 163 = 40 := (h5 4 (by omega)).2.2
  obtain ⟨d, rfl⟩ : ∃ e, d = e + 1 := ⟨d - 1, by omega⟩
  rw [zc_114 t1]
  have i32 : ∀ j : Nat, j < zNum l → zI32 (g j) := fun j hj => ⟨by have := hg j hj; omega, by have := hg j hj; omega⟩
  rcases zNum_ne hl with rfl | rfl | rfl | rfl | rfl | rfl
  · obtain ⟨⟨o1, o2⟩, o3⟩ : (1 ≤ g 0 ∧ g 0 ≤ 100) ∧ ρ.n < 12 := hok
    have hQ : zTo s V a (ρ.addS (g 0)) Q (.inl none) := hQ
    have hsw : zsw [(97, 1), (99, 2), (100, 3), (114, 4), (115, 5)] 6 97 = 1 := by decide
    simp (disch := first | assumption | exact zk_114 | ((repeat (first | exact z1n | refine z1I ?_ | refine z1R ?_)); done) | exact rfl | omega | decide) only [zb_114_0, zb_114_1, r_aload_0, r_gf_515, r_iconst, r_aaload, r_iload_2, r_ial, r_ial30, r_ial32, r_istore_3i, r_istore_3r, r_istore_3j, r_istore_4i, r_istore_4r, r_istore_4j, r_istore_5i, r_istore_5r, r_istore_5j, r_gf_514, r_sw, r_aload_1, r_iload_3, r_inv_2_0, r_inv_2_1, r_inv_2_2, r_inv_2_3, r_inv_2_4, r_K0, r_K1, r_pop_i, r_pop_r, r_goto, r_iload_4, r_iload_5, r_inv_6_0, r_inv_6_1, r_inv_6_2, r_inv_6_3, r_inv_6_4, r_inv_4_0, r_inv_4_1, r_inv_4_2, r_inv_4_3, r_inv_4_4, r_goto_w, r_ret, v2, v3, r0, r1, r2, q0, q1, q2, hL, hsw, ↓reduceIte, not_true_eq_false, not_false_eq_true, Int.reduceEq, Int.reduceLE, Int.reduceLT, Int.reduceAdd, Int.reduceNeg, Int.reduceMul, Int.reduceSub, Int.reduceToNat]
    refine c_newService (by omega) hA hP hC hW o3 ha (fun V' z1 z2 z3 => ?_)
    have := hQ V' z1 z2 z3
    simp (disch := first | assumption | exact zk_114 | ((repeat (first | exact z1n | refine z1I ?_ | refine z1R ?_)); done) | exact rfl | omega | decide) only [zb_114_7, r_aload_0, r_gf_515, r_iconst, r_aaload, r_iload_2, r_ial, r_ial30, r_ial32, r_istore_3i, r_istore_3r, r_istore_3j, r_istore_4i, r_istore_4r, r_istore_4j, r_istore_5i, r_istore_5r, r_istore_5j, r_gf_514, r_sw, r_aload_1, r_iload_3, r_inv_2_0, r_inv_2_1, r_inv_2_2, r_inv_2_3, r_inv_2_4, r_K0, r_K1, r_pop_i, r_pop_r, r_goto, r_iload_4, r_iload_5, r_inv_6_0, r_inv_6_1, r_inv_6_2, r_inv_6_3, r_inv_6_4, r_inv_4_0, r_inv_4_1, r_inv_4_2, r_inv_4_3, r_inv_4_4, r_goto_w, r_ret, ↓reduceIte, not_true_eq_false, not_false_eq_true, Int.reduceEq, Int.reduceLE, Int.reduceLT, Int.reduceAdd, Int.reduceNeg, Int.reduceMul, Int.reduceSub, Int.reduceToNat]
    exact this
  · obtain ⟨⟨⟨o1, o2⟩, ⟨o3, o4⟩, o5⟩, o6⟩ : zAr ρ (g 0) (g 1) (g 2) (g 3) (g 4) ∧ ¬ zNk ρ (g 0) (g 1) (g 4) := hok
    have hQ : zTo s V a (ρ.addK (g 0) (g 1) (g 2) (g 3) (g 4)) Q (.inl none) := hQ
    have n4 : ¬ (ρ.c = 24) := fun z => o6 (Or.inr z)
    have i4 := i32 4 (by decide)
    have hsw : zsw [(97, 1), (99, 2), (100, 3), (114, 4), (115, 5)] 6 99 = 2 := by decide
    simp (disch := first | assumption | exact zk_114 | ((repeat (first | exact z1n | refine z1I ?_ | refine z1R ?_)); done) | exact rfl | omega | decide) only [zb_114_0, zb_114_2, r_aload_0, r_gf_515, r_iconst, r_aaload, r_iload_2, r_ial, r_ial30, r_ial32, r_istore_3i, r_istore_3r, r_istore_3j, r_istore_4i, r_istore_4r, r_istore_4j, r_istore_5i, r_istore_5r, r_istore_5j, r_gf_514, r_sw, r_aload_1, r_iload_3, r_inv_2_0, r_inv_2_1, r_inv_2_2, r_inv_2_3, r_inv_2_4, r_K0, r_K1, r_pop_i, r_pop_r, r_goto, r_iload_4, r_iload_5, r_inv_6_0, r_inv_6_1, r_inv_6_2, r_inv_6_3, r_inv_6_4, r_inv_4_0, r_inv_4_1, r_inv_4_2, r_inv_4_3, r_inv_4_4, r_goto_w, r_ret, v2, v3, r0, r1, r2, r3, r4, q0, q1, q2, q3, q4, hL, hsw, ↓reduceIte, not_true_eq_false, not_false_eq_true, Int.reduceEq, Int.reduceLE, Int.reduceLT, Int.reduceAdd, Int.reduceNeg, Int.reduceMul, Int.reduceSub, Int.reduceToNat]
    refine c_newCall (by omega) hP hC hW (by omega) o1.1 o1.2 i4 (fun V' z1 z2 z3 => ?_)
    have := hQ V' z1 z2 z3
    simp (disch := first | assumption | exact zk_114 | ((repeat (first | exact z1n | refine z1I ?_ | refine z1R ?_)); done) | exact rfl | omega | decide) only [zb_114_7, r_aload_0, r_gf_515, r_iconst, r_aaload, r_iload_2, r_ial, r_ial30, r_ial32, r_istore_3i, r_istore_3r, r_istore_3j, r_istore_4i, r_istore_4r, r_istore_4j, r_istore_5i, r_istore_5r, r_istore_5j, r_gf_514, r_sw, r_aload_1, r_iload_3, r_inv_2_0, r_inv_2_1, r_inv_2_2, r_inv_2_3, r_inv_2_4, r_K0, r_K1, r_pop_i, r_pop_r, r_goto, r_iload_4, r_iload_5, r_inv_6_0, r_inv_6_1, r_inv_6_2, r_inv_6_3, r_inv_6_4, r_inv_4_0, r_inv_4_1, r_inv_4_2, r_inv_4_3, r_inv_4_4, r_goto_w, r_ret, ↓reduceIte, not_true_eq_false, not_false_eq_true, Int.reduceEq, Int.reduceLE, Int.reduceLT, Int.reduceAdd, Int.reduceNeg, Int.reduceMul, Int.reduceSub, Int.reduceToNat]
    exact this
  · obtain ⟨⟨o1, o2⟩, o3⟩ : (0 ≤ g 0 ∧ g 0 < ρ.n) ∧ ρ.S 6 (g 0) = 1 := hok
    have hQ : zTo s V a (zGd ρ (g 0)) Q (.inl none) := hQ
    have hsw : zsw [(97, 1), (99, 2), (100, 3), (114, 4), (115, 5)] 6 100 = 3 := by decide
    simp (disch := first | assumption | exact zk_114 | ((repeat (first | exact z1n | refine z1I ?_ | refine z1R ?_)); done) | exact rfl | omega | decide) only [zb_114_0, zb_114_3, r_aload_0, r_gf_515, r_iconst, r_aaload, r_iload_2, r_ial, r_ial30, r_ial32, r_istore_3i, r_istore_3r, r_istore_3j, r_istore_4i, r_istore_4r, r_istore_4j, r_istore_5i, r_istore_5r, r_istore_5j, r_gf_514, r_sw, r_aload_1, r_iload_3, r_inv_2_0, r_inv_2_1, r_inv_2_2, r_inv_2_3, r_inv_2_4, r_K0, r_K1, r_pop_i, r_pop_r, r_goto, r_iload_4, r_iload_5, r_inv_6_0, r_inv_6_1, r_inv_6_2, r_inv_6_3, r_inv_6_4, r_inv_4_0, r_inv_4_1, r_inv_4_2, r_inv_4_3, r_inv_4_4, r_goto_w, r_ret, v2, v3, r0, r1, r2, q0, q1, q2, hL, hsw, ↓reduceIte, not_true_eq_false, not_false_eq_true, Int.reduceEq, Int.reduceLE, Int.reduceLT, Int.reduceAdd, Int.reduceNeg, Int.reduceMul, Int.reduceSub, Int.reduceToNat]
    refine c_goDown (by omega) hP hC (by omega) o1 o2 (fun V' z1 z2 z3 => ?_)
    have := hQ V' z1 z2 z3
    simp (disch := first | assumption | exact zk_114 | ((repeat (first | exact z1n | refine z1I ?_ | refine z1R ?_)); done) | exact rfl | omega | decide) only [zb_114_7, r_aload_0, r_gf_515, r_iconst, r_aaload, r_iload_2, r_ial, r_ial30, r_ial32, r_istore_3i, r_istore_3r, r_istore_3j, r_istore_4i, r_istore_4r, r_istore_4j, r_istore_5i, r_istore_5r, r_istore_5j, r_gf_514, r_sw, r_aload_1, r_iload_3, r_inv_2_0, r_inv_2_1, r_inv_2_2, r_inv_2_3, r_inv_2_4, r_K0, r_K1, r_pop_i, r_pop_r, r_goto, r_iload_4, r_iload_5, r_inv_6_0, r_inv_6_1, r_inv_6_2, r_inv_6_3, r_inv_6_4, r_inv_4_0, r_inv_4_1, r_inv_4_2, r_inv_4_3, r_inv_4_4, r_goto_w, r_ret, ↓reduceIte, not_true_eq_false, not_false_eq_true, Int.reduceEq, Int.reduceLE, Int.reduceLT, Int.reduceAdd, Int.reduceNeg, Int.reduceMul, Int.reduceSub, Int.reduceToNat]
    exact this
  · obtain ⟨⟨o1, o2⟩, o3⟩ : (0 ≤ g 0 ∧ g 0 < ρ.n) ∧ ρ.S 6 (g 0) ≠ 1 ∧ ρ.S 8 (g 0) = -1 := hok
    have hQ : zTo s V a (ρ.sS 8 (g 0) (ρ.S 3 (g 0))) Q (.inl none) := hQ
    have hsw : zsw [(97, 1), (99, 2), (100, 3), (114, 4), (115, 5)] 6 114 = 4 := by decide
    simp (disch := first | assumption | exact zk_114 | ((repeat (first | exact z1n | refine z1I ?_ | refine z1R ?_)); done) | exact rfl | omega | decide) only [zb_114_0, zb_114_4, r_aload_0, r_gf_515, r_iconst, r_aaload, r_iload_2, r_ial, r_ial30, r_ial32, r_istore_3i, r_istore_3r, r_istore_3j, r_istore_4i, r_istore_4r, r_istore_4j, r_istore_5i, r_istore_5r, r_istore_5j, r_gf_514, r_sw, r_aload_1, r_iload_3, r_inv_2_0, r_inv_2_1, r_inv_2_2, r_inv_2_3, r_inv_2_4, r_K0, r_K1, r_pop_i, r_pop_r, r_goto, r_iload_4, r_iload_5, r_inv_6_0, r_inv_6_1, r_inv_6_2, r_inv_6_3, r_inv_6_4, r_inv_4_0, r_inv_4_1, r_inv_4_2, r_inv_4_3, r_inv_4_4, r_goto_w, r_ret, v2, v3, r0, r1, r2, q0, q1, q2, hL, hsw, ↓reduceIte, not_true_eq_false, not_false_eq_true, Int.reduceEq, Int.reduceLE, Int.reduceLT, Int.reduceAdd, Int.reduceNeg, Int.reduceMul, Int.reduceSub, Int.reduceToNat]
    refine c_beginRepair (by omega) hP hC (by omega) o1 o2 (fun V' z1 z2 z3 => ?_)
    have := hQ V' z1 z2 z3
    simp (disch := first | assumption | exact zk_114 | ((repeat (first | exact z1n | refine z1I ?_ | refine z1R ?_)); done) | exact rfl | omega | decide) only [zb_114_7, r_aload_0, r_gf_515, r_iconst, r_aaload, r_iload_2, r_ial, r_ial30, r_ial32, r_istore_3i, r_istore_3r, r_istore_3j, r_istore_4i, r_istore_4r, r_istore_4j, r_istore_5i, r_istore_5r, r_istore_5j, r_gf_514, r_sw, r_aload_1, r_iload_3, r_inv_2_0, r_inv_2_1, r_inv_2_2, r_inv_2_3, r_inv_2_4, r_K0, r_K1, r_pop_i, r_pop_r, r_goto, r_iload_4, r_iload_5, r_inv_6_0, r_inv_6_1, r_inv_6_2, r_inv_6_3, r_inv_6_4, r_inv_4_0, r_inv_4_1, r_inv_4_2, r_inv_4_3, r_inv_4_4, r_goto_w, r_ret, ↓reduceIte, not_true_eq_false, not_false_eq_true, Int.reduceEq, Int.reduceLE, Int.reduceLT, Int.reduceAdd, Int.reduceNeg, Int.reduceMul, Int.reduceSub, Int.reduceToNat]
    exact this
  · obtain ⟨o1, o2⟩ : 1 ≤ g 0 ∧ g 0 ≤ 50 := hok
    have hQ : zTo s V a (zSteps ρ (g 0).toNat) Q (.inl none) := hQ
    have hsw : zsw [(97, 1), (99, 2), (100, 3), (114, 4), (115, 5)] 6 115 = 5 := by decide
    simp (disch := first | assumption | exact zk_114 | ((repeat (first | exact z1n | refine z1I ?_ | refine z1R ?_)); done) | exact rfl | omega | decide) only [zb_114_0, zb_114_5, r_aload_0, r_gf_515, r_iconst, r_aaload, r_iload_2, r_ial, r_ial30, r_ial32, r_istore_3i, r_istore_3r, r_istore_3j, r_istore_4i, r_istore_4r, r_istore_4j, r_istore_5i, r_istore_5r, r_istore_5j, r_gf_514, r_sw, r_aload_1, r_iload_3, r_inv_2_0, r_inv_2_1, r_inv_2_2, r_inv_2_3, r_inv_2_4, r_K0, r_K1, r_pop_i, r_pop_r, r_goto, r_iload_4, r_iload_5, r_inv_6_0, r_inv_6_1, r_inv_6_2, r_inv_6_3, r_inv_6_4, r_inv_4_0, r_inv_4_1, r_inv_4_2, r_inv_4_3, r_inv_4_4, r_goto_w, r_ret, v2, v3, r0, r1, r2, q0, q1, q2, hL, hsw, ↓reduceIte, not_true_eq_false, not_false_eq_true, Int.reduceEq, Int.reduceLE, Int.reduceLT, Int.reduceAdd, Int.reduceNeg, Int.reduceMul, Int.reduceSub, Int.reduceToNat]
    refine c_makeSteps (by omega) hP hC hW (by omega) (by omega) (fun V' z1 z2 z3 => ?_)
    have := hQ V' z1 z2 z3
    simp (disch := first | assumption | exact zk_114 | ((repeat (first | exact z1n | refine z1I ?_ | refine z1R ?_)); done) | exact rfl | omega | decide) only [zb_114_7, r_aload_0, r_gf_515, r_iconst, r_aaload, r_iload_2, r_ial, r_ial30, r_ial32, r_istore_3i, r_istore_3r, r_istore_3j, r_istore_4i, r_istore_4r, r_istore_4j, r_istore_5i, r_istore_5r, r_istore_5j, r_gf_514, r_sw, r_aload_1, r_iload_3, r_inv_2_0, r_inv_2_1, r_inv_2_2, r_inv_2_3, r_inv_2_4, r_K0, r_K1, r_pop_i, r_pop_r, r_goto, r_iload_4, r_iload_5, r_inv_6_0, r_inv_6_1, r_inv_6_2, r_inv_6_3, r_inv_6_4, r_inv_4_0, r_inv_4_1, r_inv_4_2, r_inv_4_3, r_inv_4_4, r_goto_w, r_ret, ↓reduceIte, not_true_eq_false, not_false_eq_true, Int.reduceEq, Int.reduceLE, Int.reduceLT, Int.reduceAdd, Int.reduceNeg, Int.reduceMul, Int.reduceSub, Int.reduceToNat]
    exact this
  · obtain ⟨o1, ⟨o2, o3⟩, o4⟩ : (0 ≤ g 1 ∧ g 1 < ρ.n) ∧ (0 ≤ g 0 ∧ g 0 ≤ 5) ∧ zLeast (g 0) ≤ g 2 ∧ g 2 ≤ zMost (g 0) := hok
    have hQ : zTo s V a (ρ.sS (g 0) (g 1) (g 2)) Q (.inl none) := hQ
    have hsw : zsw [(97, 1), (99, 2), (100, 3), (114, 4), (115, 5)] 6 112 = 6 := by decide
    simp (disch := first | assumption | exact zk_114 | ((repeat (first | exact z1n | refine z1I ?_ | refine z1R ?_)); done) | exact rfl | omega | decide) only [zb_114_0, zb_114_6, r_aload_0, r_gf_515, r_iconst, r_aaload, r_iload_2, r_ial, r_ial30, r_ial32, r_istore_3i, r_istore_3r, r_istore_3j, r_istore_4i, r_istore_4r, r_istore_4j, r_istore_5i, r_istore_5r, r_istore_5j, r_gf_514, r_sw, r_aload_1, r_iload_3, r_inv_2_0, r_inv_2_1, r_inv_2_2, r_inv_2_3, r_inv_2_4, r_K0, r_K1, r_pop_i, r_pop_r, r_goto, r_iload_4, r_iload_5, r_inv_6_0, r_inv_6_1, r_inv_6_2, r_inv_6_3, r_inv_6_4, r_inv_4_0, r_inv_4_1, r_inv_4_2, r_inv_4_3, r_inv_4_4, r_goto_w, r_ret, v2, v3, r0, r1, r2, q0, q1, q2, hL, hsw, ↓reduceIte, not_true_eq_false, not_false_eq_true, Int.reduceEq, Int.reduceLE, Int.reduceLT, Int.reduceAdd, Int.reduceNeg, Int.reduceMul, Int.reduceSub, Int.reduceToNat]
    refine c_change (by omega) hP hC (by omega) o2 (by omega) o1.1 o1.2 (fun V' z1 z2 z3 => ?_)
    have := hQ V' z1 z2 z3
    simp (disch := first | assumption | exact zk_114 | ((repeat (first | exact z1n | refine z1I ?_ | refine z1R ?_)); done) | exact rfl | omega | decide) only [zb_114_7, r_aload_0, r_gf_515, r_iconst, r_aaload, r_iload_2, r_ial, r_ial30, r_ial32, r_istore_3i, r_istore_3r, r_istore_3j, r_istore_4i, r_istore_4r, r_istore_4j, r_istore_5i, r_istore_5r, r_istore_5j, r_gf_514, r_sw, r_aload_1, r_iload_3, r_inv_2_0, r_inv_2_1, r_inv_2_2, r_inv_2_3, r_inv_2_4, r_K0, r_K1, r_pop_i, r_pop_r, r_goto, r_iload_4, r_iload_5, r_inv_6_0, r_inv_6_1, r_inv_6_2, r_inv_6_3, r_inv_6_4, r_inv_4_0, r_inv_4_1, r_inv_4_2, r_inv_4_3, r_inv_4_4, r_goto_w, r_ret, ↓reduceIte, not_true_eq_false, not_false_eq_true, Int.reduceEq, Int.reduceLE, Int.reduceLT, Int.reduceAdd, Int.reduceNeg, Int.reduceMul, Int.reduceSub, Int.reduceToNat]
    exact this
set_option maxRecDepth 20000 in
theorem m_does (hd : 7 ≤ d) (hM : zMP s V) (hC : zMC ρ V) (hI : zInts V 165 230) (hW : zWF ρ) {l : Int} (hl : zNum l ≠ 0) (hL : V 164 41 = zi l) (hN : ∀ j : Nat, j < zNum l → V 190 j = zi (g j)) (hg : ∀ j : Nat, j < zNum l → 0 ≤ g j ∧ g j ≤ 999) (h0 : zOkC ρ l g → ∀ V', zFm [165, 169] [9] V V' → zMC (zEfC ρ l g) V' → zInts V' 165 230 → Q (.inl (some (zi 0))) (s, V')) (h1 : ¬ zOkC ρ l g → ∀ V', zFm [165, 169] [9] V V' → ∀ e : Int, 1 ≤ e → e ≤ 3 → Q (.inl (some (zi e))) (s, V')) : zcall d 265 [.ref 164] (s, V) Q := by
  obtain ⟨n0, n1, c0, c1⟩ := hW.1
  have tM := hM.1
  have vm_numbers : V 164 42 = .ref 190 := (hM.2 25 (by decide)).1
  have tm_numbers : s.tg 190 = 20 := (hM.2 25 (by decide)).2.1
  have lm_numbers : s.ln 190 = 5 := (hM.2 25 (by decide)).2.2
  obtain ⟨d, rfl⟩ : ∃ e, d = e + 1 := ⟨d - 1, by omega⟩
  rw [zc_265 tM]
  have i32 : ∀ j : Nat, j < zNum l → zI32 (g j) := fun j hj => ⟨by have := hg j hj; omega, by have := hg j hj; omega⟩
  have mo : ∀ V' : zV, zFm [165] [9] V V' → zFm [165, 169] [9] V V' := fun V' z => z.mono (by decide) (fun _ h => h)
  rcases zNum_ne hl with rfl | rfl | rfl | rfl | rfl | rfl
  · have h0 : (1 ≤ g 0 ∧ g 0 ≤ 100) ∧ ρ.n < 12 → ∀ V', zFm [165, 169] [9] V V' → zMC (ρ.addS (g 0)) V' → _ := h0
    have h1 : ¬ ((1 ≤ g 0 ∧ g 0 ≤ 100) ∧ ρ.n < 12) → _ := h1
    have q0 : V 190 0 = zi (g 0) := hN 0 (by decide)
    have hsw : zsw [(97, 1), (99, 2), (100, 3), (114, 4), (115, 5)] 6 97 = 1 := by decide
    simp (disch := first | assumption | exact zk_265 | ((repeat (first | exact z1n | refine z1I ?_ | refine z1R ?_)); done) | exact rfl | omega | decide) only [zb_265_0, zb_265_1, r_aload_0, r_gf_681, r_sw, r_gf_682, r_iconst, r_ial, r_ial30, r_ial32, r_inv_2_0, r_inv_2_1, r_inv_2_2, r_inv_2_3, r_inv_2_4, r_K0, r_K1, r_iret, r_bret_0, r_bret_1, r_inv_6_0, r_inv_6_1, r_inv_6_2, r_inv_6_3, r_inv_6_4, r_inv_4_0, r_inv_4_1, r_inv_4_2, r_inv_4_3, r_inv_4_4, vm_numbers, q0, hL, hsw, ↓reduceIte, not_true_eq_false, not_false_eq_true, Int.reduceEq, Int.reduceLE, Int.reduceLT, Int.reduceAdd, Int.reduceNeg, Int.reduceMul, Int.reduceSub, Int.reduceToNat]
    refine m_addsService (by omega) hM hC hI hW (i32 0 (by decide)) (fun e => ?_) (fun e => ?_) (fun e1 e2 e3 V' z1 z2 z3 z4 => ?_)
    · have := h1 (by omega) V zFm.rf 1 (by omega) (by omega)
      simp (disch := first | assumption | exact zk_265 | ((repeat (first | exact z1n | refine z1I ?_ | refine z1R ?_)); done) | exact rfl | omega | decide) only [r_aload_0, r_gf_681, r_sw, r_gf_682, r_iconst, r_ial, r_ial30, r_ial32, r_inv_2_0, r_inv_2_1, r_inv_2_2, r_inv_2_3, r_inv_2_4, r_K0, r_K1, r_iret, r_bret_0, r_bret_1, r_inv_6_0, r_inv_6_1, r_inv_6_2, r_inv_6_3, r_inv_6_4, r_inv_4_0, r_inv_4_1, r_inv_4_2, r_inv_4_3, r_inv_4_4, vm_numbers, ↓reduceIte, not_true_eq_false, not_false_eq_true, Int.reduceEq, Int.reduceLE, Int.reduceLT, Int.reduceAdd, Int.reduceNeg, Int.reduceMul, Int.reduceSub, Int.reduceToNat]
      exact this
    · have := h1 (by omega) V zFm.rf 2 (by omega) (by omega)
      simp (disch := first | assumption | exact zk_265 | ((repeat (first | exact z1n | refine z1I ?_ | refine z1R ?_)); done) | exact rfl | omega | decide) only [r_aload_0, r_gf_681, r_sw, r_gf_682, r_iconst, r_ial, r_ial30, r_ial32, r_inv_2_0, r_inv_2_1, r_inv_2_2, r_inv_2_3, r_inv_2_4, r_K0, r_K1, r_iret, r_bret_0, r_bret_1, r_inv_6_0, r_inv_6_1, r_inv_6_2, r_inv_6_3, r_inv_6_4, r_inv_4_0, r_inv_4_1, r_inv_4_2, r_inv_4_3, r_inv_4_4, vm_numbers, ↓reduceIte, not_true_eq_false, not_false_eq_true, Int.reduceEq, Int.reduceLE, Int.reduceLT, Int.reduceAdd, Int.reduceNeg, Int.reduceMul, Int.reduceSub, Int.reduceToNat]
      exact this
    · have := h0 (by omega) V' (mo V' z1) z2 z3
      simp (disch := first | assumption | exact zk_265 | ((repeat (first | exact z1n | refine z1I ?_ | refine z1R ?_)); done) | exact rfl | omega | decide) only [r_aload_0, r_gf_681, r_sw, r_gf_682, r_iconst, r_ial, r_ial30, r_ial32, r_inv_2_0, r_inv_2_1, r_inv_2_2, r_inv_2_3, r_inv_2_4, r_K0, r_K1, r_iret, r_bret_0, r_bret_1, r_inv_6_0, r_inv_6_1, r_inv_6_2, r_inv_6_3, r_inv_6_4, r_inv_4_0, r_inv_4_1, r_inv_4_2, r_inv_4_3, r_inv_4_4, vm_numbers, ↓reduceIte, not_true_eq_false, not_false_eq_true, Int.reduceEq, Int.reduceLE, Int.reduceLT, Int.reduceAdd, Int.reduceNeg, Int.reduceMul, Int.reduceSub, Int.reduceToNat]
      exact this
  · have h0 : zAr ρ (g 0) (g 1) (g 2) (g 3) (g 4) ∧ ¬ zNk ρ (g 0) (g 1) (g 4) → ∀ V', zFm [165, 169] [9] V V' → zMC (ρ.addK (g 0) (g 1) (g 2) (g 3) (g 4)) V' → _ := h0
    have h1 : ¬ (zAr ρ (g 0) (g 1) (g 2) (g 3) (g 4) ∧ ¬ zNk ρ (g 0) (g 1) (g 4)) → _ := h1
    have q0 : V 190 0 = zi (g 0) := hN 0 (by decide)
    have q1 : V 190 1 = zi (g 1) := hN 1 (by decide)
    have q2 : V 190 2 = zi (g 2) := hN 2 (by decide)
    have q3 : V 190 3 = zi (g 3) := hN 3 (by decide)
    have q4 : V 190 4 = zi (g 4) := hN 4 (by decide)
    have hsw : zsw [(97, 1), (99, 2), (100, 3), (114, 4), (115, 5)] 6 99 = 2 := by decide
    simp (disch := first | assumption | exact zk_265 | ((repeat (first | exact z1n | refine z1I ?_ | refine z1R ?_)); done) | exact rfl | omega | decide) only [zb_265_0, zb_265_2, r_aload_0, r_gf_681, r_sw, r_gf_682, r_iconst, r_ial, r_ial30, r_ial32, r_inv_2_0, r_inv_2_1, r_inv_2_2, r_inv_2_3, r_inv_2_4, r_K0, r_K1, r_iret, r_bret_0, r_bret_1, r_inv_6_0, r_inv_6_1, r_inv_6_2, r_inv_6_3, r_inv_6_4, r_inv_4_0, r_inv_4_1, r_inv_4_2, r_inv_4_3, r_inv_4_4, vm_numbers, q0, q1, q2, q3, q4, hL, hsw, ↓reduceIte, not_true_eq_false, not_false_eq_true, Int.reduceEq, Int.reduceLE, Int.reduceLT, Int.reduceAdd, Int.reduceNeg, Int.reduceMul, Int.reduceSub, Int.reduceToNat]
    refine m_addsCall (by omega) hM hC hI hW (i32 0 (by decide)) (i32 1 (by decide)) (i32 2 (by decide)) (i32 3 (by decide)) (i32 4 (by decide)) (fun e => ?_) (fun e e2 => ?_) (fun e e2 e3 V' z1 z2 => ?_) (fun e1 e2 e3 V' z1 z2 z3 z4 => ?_)
    · have := h1 (fun z => e z.1.1) V zFm.rf 1 (by omega) (by omega)
      simp (disch := first | assumption | exact zk_265 | ((repeat (first | exact z1n | refine z1I ?_ | refine z1R ?_)); done) | exact rfl | omega | decide) only [r_aload_0, r_gf_681, r_sw, r_gf_682, r_iconst, r_ial, r_ial30, r_ial32, r_inv_2_0, r_inv_2_1, r_inv_2_2, r_inv_2_3, r_inv_2_4, r_K0, r_K1, r_iret, r_bret_0, r_bret_1, r_inv_6_0, r_inv_6_1, r_inv_6_2, r_inv_6_3, r_inv_6_4, r_inv_4_0, r_inv_4_1, r_inv_4_2, r_inv_4_3, r_inv_4_4, vm_numbers, ↓reduceIte, not_true_eq_false, not_false_eq_true, Int.reduceEq, Int.reduceLE, Int.reduceLT, Int.reduceAdd, Int.reduceNeg, Int.reduceMul, Int.reduceSub, Int.reduceToNat]
      exact this
    · have := h1 (fun z => e2 z.1.2) V zFm.rf 2 (by omega) (by omega)
      simp (disch := first | assumption | exact zk_265 | ((repeat (first | exact z1n | refine z1I ?_ | refine z1R ?_)); done) | exact rfl | omega | decide) only [r_aload_0, r_gf_681, r_sw, r_gf_682, r_iconst, r_ial, r_ial30, r_ial32, r_inv_2_0, r_inv_2_1, r_inv_2_2, r_inv_2_3, r_inv_2_4, r_K0, r_K1, r_iret, r_bret_0, r_bret_1, r_inv_6_0, r_inv_6_1, r_inv_6_2, r_inv_6_3, r_inv_6_4, r_inv_4_0, r_inv_4_1, r_inv_4_2, r_inv_4_3, r_inv_4_4, vm_numbers, ↓reduceIte, not_true_eq_false, not_false_eq_true, Int.reduceEq, Int.reduceLE, Int.reduceLT, Int.reduceAdd, Int.reduceNeg, Int.reduceMul, Int.reduceSub, Int.reduceToNat]
      exact this
    · have := h1 (fun z => z.2 e3) V' z1 3 (by omega) (by omega)
      simp (disch := first | assumption | exact zk_265 | ((repeat (first | exact z1n | refine z1I ?_ | refine z1R ?_)); done) | exact rfl | omega | decide) only [r_aload_0, r_gf_681, r_sw, r_gf_682, r_iconst, r_ial, r_ial30, r_ial32, r_inv_2_0, r_inv_2_1, r_inv_2_2, r_inv_2_3, r_inv_2_4, r_K0, r_K1, r_iret, r_bret_0, r_bret_1, r_inv_6_0, r_inv_6_1, r_inv_6_2, r_inv_6_3, r_inv_6_4, r_inv_4_0, r_inv_4_1, r_inv_4_2, r_inv_4_3, r_inv_4_4, vm_numbers, ↓reduceIte, not_true_eq_false, not_false_eq_true, Int.reduceEq, Int.reduceLE, Int.reduceLT, Int.reduceAdd, Int.reduceNeg, Int.reduceMul, Int.reduceSub, Int.reduceToNat]
      exact this
    · have := h0 ⟨⟨e1, e2⟩, e3⟩ V' z1 z2 z3
      simp (disch := first | assumption | exact zk_265 | ((repeat (first | exact z1n | refine z1I ?_ | refine z1R ?_)); done) | exact rfl | omega | decide) only [r_aload_0, r_gf_681, r_sw, r_gf_682, r_iconst, r_ial, r_ial30, r_ial32, r_inv_2_0, r_inv_2_1, r_inv_2_2, r_inv_2_3, r_inv_2_4, r_K0, r_K1, r_iret, r_bret_0, r_bret_1, r_inv_6_0, r_inv_6_1, r_inv_6_2, r_inv_6_3, r_inv_6_4, r_inv_4_0, r_inv_4_1, r_inv_4_2, r_inv_4_3, r_inv_4_4, vm_numbers, ↓reduceIte, not_true_eq_false, not_false_eq_true, Int.reduceEq, Int.reduceLE, Int.reduceLT, Int.reduceAdd, Int.reduceNeg, Int.reduceMul, Int.reduceSub, Int.reduceToNat]
      exact this
  · have h0 : (0 ≤ g 0 ∧ g 0 < ρ.n) ∧ ρ.S 6 (g 0) = 1 → ∀ V', zFm [165, 169] [9] V V' → zMC (zGd ρ (g 0)) V' → _ := h0
    have h1 : ¬ ((0 ≤ g 0 ∧ g 0 < ρ.n) ∧ ρ.S 6 (g 0) = 1) → _ := h1
    have q0 : V 190 0 = zi (g 0) := hN 0 (by decide)
    have hsw : zsw [(97, 1), (99, 2), (100, 3), (114, 4), (115, 5)] 6 100 = 3 := by decide
    simp (disch := first | assumption | exact zk_265 | ((repeat (first | exact z1n | refine z1I ?_ | refine z1R ?_)); done) | exact rfl | omega | decide) only [zb_265_0, zb_265_3, r_aload_0, r_gf_681, r_sw, r_gf_682, r_iconst, r_ial, r_ial30, r_ial32, r_inv_2_0, r_inv_2_1, r_inv_2_2, r_inv_2_3, r_inv_2_4, r_K0, r_K1, r_iret, r_bret_0, r_bret_1, r_inv_6_0, r_inv_6_1, r_inv_6_2, r_inv_6_3, r_inv_6_4, r_inv_4_0, r_inv_4_1, r_inv_4_2, r_inv_4_3, r_inv_4_4, vm_numbers, q0, hL, hsw, ↓reduceIte, not_true_eq_false, not_false_eq_true, Int.reduceEq, Int.reduceLE, Int.reduceLT, Int.reduceAdd, Int.reduceNeg, Int.reduceMul, Int.reduceSub, Int.reduceToNat]
    refine m_drops (by omega) hM hC hI hW (i32 0 (by decide)) (fun e => ?_) (fun e e2 => ?_) (fun e1 e2 V' z1 z2 z3 z4 => ?_)
    · have := h1 (fun z => e z.1) V zFm.rf 1 (by omega) (by omega)
      simp (disch := first | assumption | exact zk_265 | ((repeat (first | exact z1n | refine z1I ?_ | refine z1R ?_)); done) | exact rfl | omega | decide) only [r_aload_0, r_gf_681, r_sw, r_gf_682, r_iconst, r_ial, r_ial30, r_ial32, r_inv_2_0, r_inv_2_1, r_inv_2_2, r_inv_2_3, r_inv_2_4, r_K0, r_K1, r_iret, r_bret_0, r_bret_1, r_inv_6_0, r_inv_6_1, r_inv_6_2, r_inv_6_3, r_inv_6_4, r_inv_4_0, r_inv_4_1, r_inv_4_2, r_inv_4_3, r_inv_4_4, vm_numbers, ↓reduceIte, not_true_eq_false, not_false_eq_true, Int.reduceEq, Int.reduceLE, Int.reduceLT, Int.reduceAdd, Int.reduceNeg, Int.reduceMul, Int.reduceSub, Int.reduceToNat]
      exact this
    · have := h1 (fun z => e2 z.2) V zFm.rf 2 (by omega) (by omega)
      simp (disch := first | assumption | exact zk_265 | ((repeat (first | exact z1n | refine z1I ?_ | refine z1R ?_)); done) | exact rfl | omega | decide) only [r_aload_0, r_gf_681, r_sw, r_gf_682, r_iconst, r_ial, r_ial30, r_ial32, r_inv_2_0, r_inv_2_1, r_inv_2_2, r_inv_2_3, r_inv_2_4, r_K0, r_K1, r_iret, r_bret_0, r_bret_1, r_inv_6_0, r_inv_6_1, r_inv_6_2, r_inv_6_3, r_inv_6_4, r_inv_4_0, r_inv_4_1, r_inv_4_2, r_inv_4_3, r_inv_4_4, vm_numbers, ↓reduceIte, not_true_eq_false, not_false_eq_true, Int.reduceEq, Int.reduceLE, Int.reduceLT, Int.reduceAdd, Int.reduceNeg, Int.reduceMul, Int.reduceSub, Int.reduceToNat]
      exact this
    · have := h0 ⟨e1, e2⟩ V' (mo V' z1) z2 z3
      simp (disch := first | assumption | exact zk_265 | ((repeat (first | exact z1n | refine z1I ?_ | refine z1R ?_)); done) | exact rfl | omega | decide) only [r_aload_0, r_gf_681, r_sw, r_gf_682, r_iconst, r_ial, r_ial30, r_ial32, r_inv_2_0, r_inv_2_1, r_inv_2_2, r_inv_2_3, r_inv_2_4, r_K0, r_K1, r_iret, r_bret_0, r_bret_1, r_inv_6_0, r_inv_6_1, r_inv_6_2, r_inv_6_3, r_inv_6_4, r_inv_4_0, r_inv_4_1, r_inv_4_2, r_inv_4_3, r_inv_4_4, vm_numbers, ↓reduceIte, not_true_eq_false, not_false_eq_true, Int.reduceEq, Int.reduceLE, Int.reduceLT, Int.reduceAdd, Int.reduceNeg, Int.reduceMul, Int.reduceSub, Int.reduceToNat]
      exact this
  · have h0 : (0 ≤ g 0 ∧ g 0 < ρ.n) ∧ ρ.S 6 (g 0) ≠ 1 ∧ ρ.S 8 (g 0) = -1 → ∀ V', zFm [165, 169] [9] V V' → zMC (ρ.sS 8 (g 0) (ρ.S 3 (g 0))) V' → _ := h0
    have h1 : ¬ ((0 ≤ g 0 ∧ g 0 < ρ.n) ∧ ρ.S 6 (g 0) ≠ 1 ∧ ρ.S 8 (g 0) = -1) → _ := h1
    have q0 : V 190 0 = zi (g 0) := hN 0 (by decide)
    have hsw : zsw [(97, 1), (99, 2), (100, 3), (114, 4), (115, 5)] 6 114 = 4 := by decide
    simp (disch := first | assumption | exact zk_265 | ((repeat (first | exact z1n | refine z1I ?_ | refine z1R ?_)); done) | exact rfl | omega | decide) only [zb_265_0, zb_265_4, r_aload_0, r_gf_681, r_sw, r_gf_682, r_iconst, r_ial, r_ial30, r_ial32, r_inv_2_0, r_inv_2_1, r_inv_2_2, r_inv_2_3, r_inv_2_4, r_K0, r_K1, r_iret, r_bret_0, r_bret_1, r_inv_6_0, r_inv_6_1, r_inv_6_2, r_inv_6_3, r_inv_6_4, r_inv_4_0, r_inv_4_1, r_inv_4_2, r_inv_4_3, r_inv_4_4, vm_numbers, q0, hL, hsw, ↓reduceIte, not_true_eq_false, not_false_eq_true, Int.reduceEq, Int.reduceLE, Int.reduceLT, Int.reduceAdd, Int.reduceNeg, Int.reduceMul, Int.reduceSub, Int.reduceToNat]
    refine m_mends (by omega) hM hC hI hW (i32 0 (by decide)) (fun e => ?_) (fun e e2 => ?_) (fun e1 e2 V' z1 z2 z3 z4 => ?_)
    · have := h1 (fun z => e z.1) V zFm.rf 1 (by omega) (by omega)
      simp (disch := first | assumption | exact zk_265 | ((repeat (first | exact z1n | refine z1I ?_ | refine z1R ?_)); done) | exact rfl | omega | decide) only [r_aload_0, r_gf_681, r_sw, r_gf_682, r_iconst, r_ial, r_ial30, r_ial32, r_inv_2_0, r_inv_2_1, r_inv_2_2, r_inv_2_3, r_inv_2_4, r_K0, r_K1, r_iret, r_bret_0, r_bret_1, r_inv_6_0, r_inv_6_1, r_inv_6_2, r_inv_6_3, r_inv_6_4, r_inv_4_0, r_inv_4_1, r_inv_4_2, r_inv_4_3, r_inv_4_4, vm_numbers, ↓reduceIte, not_true_eq_false, not_false_eq_true, Int.reduceEq, Int.reduceLE, Int.reduceLT, Int.reduceAdd, Int.reduceNeg, Int.reduceMul, Int.reduceSub, Int.reduceToNat]
      exact this
    · have := h1 (fun z => e2 z.2) V zFm.rf 2 (by omega) (by omega)
      simp (disch := first | assumption | exact zk_265 | ((repeat (first | exact z1n | refine z1I ?_ | refine z1R ?_)); done) | exact rfl | omega | decide) only [r_aload_0, r_gf_681, r_sw, r_gf_682, r_iconst, r_ial, r_ial30, r_ial32, r_inv_2_0, r_inv_2_1, r_inv_2_2, r_inv_2_3, r_inv_2_4, r_K0, r_K1, r_iret, r_bret_0, r_bret_1, r_inv_6_0, r_inv_6_1, r_inv_6_2, r_inv_6_3, r_inv_6_4, r_inv_4_0, r_inv_4_1, r_inv_4_2, r_inv_4_3, r_inv_4_4, vm_numbers, ↓reduceIte, not_true_eq_false, not_false_eq_true, Int.reduceEq, Int.reduceLE, Int.reduceLT, Int.reduceAdd, Int.reduceNeg, Int.reduceMul, Int.reduceSub, Int.reduceToNat]
      exact this
    · have := h0 ⟨e1, e2⟩ V' (mo V' z1) z2 z3
      simp (disch := first | assumption | exact zk_265 | ((repeat (first | exact z1n | refine z1I ?_ | refine z1R ?_)); done) | exact rfl | omega | decide) only [r_aload_0, r_gf_681, r_sw, r_gf_682, r_iconst, r_ial, r_ial30, r_ial32, r_inv_2_0, r_inv_2_1, r_inv_2_2, r_inv_2_3, r_inv_2_4, r_K0, r_K1, r_iret, r_bret_0, r_bret_1, r_inv_6_0, r_inv_6_1, r_inv_6_2, r_inv_6_3, r_inv_6_4, r_inv_4_0, r_inv_4_1, r_inv_4_2, r_inv_4_3, r_inv_4_4, vm_numbers, ↓reduceIte, not_true_eq_false, not_false_eq_true, Int.reduceEq, Int.reduceLE, Int.reduceLT, Int.reduceAdd, Int.reduceNeg, Int.reduceMul, Int.reduceSub, Int.reduceToNat]
      exact this
  · have h0 : 1 ≤ g 0 ∧ g 0 ≤ 50 → ∀ V', zFm [165, 169] [9] V V' → zMC (zSteps ρ (g 0).toNat) V' → _ := h0
    have h1 : ¬ (1 ≤ g 0 ∧ g 0 ≤ 50) → _ := h1
    have q0 : V 190 0 = zi (g 0) := hN 0 (by decide)
    have hsw : zsw [(97, 1), (99, 2), (100, 3), (114, 4), (115, 5)] 6 115 = 5 := by decide
    simp (disch := first | assumption | exact zk_265 | ((repeat (first | exact z1n | refine z1I ?_ | refine z1R ?_)); done) | exact rfl | omega | decide) only [zb_265_0, zb_265_5, r_aload_0, r_gf_681, r_sw, r_gf_682, r_iconst, r_ial, r_ial30, r_ial32, r_inv_2_0, r_inv_2_1, r_inv_2_2, r_inv_2_3, r_inv_2_4, r_K0, r_K1, r_iret, r_bret_0, r_bret_1, r_inv_6_0, r_inv_6_1, r_inv_6_2, r_inv_6_3, r_inv_6_4, r_inv_4_0, r_inv_4_1, r_inv_4_2, r_inv_4_3, r_inv_4_4, vm_numbers, q0, hL, hsw, ↓reduceIte, not_true_eq_false, not_false_eq_true, Int.reduceEq, Int.reduceLE, Int.reduceLT, Int.reduceAdd, Int.reduceNeg, Int.reduceMul, Int.reduceSub, Int.reduceToNat]
    refine m_goes (by omega) hM hC hI hW (i32 0 (by decide)) (fun e => ?_) (fun e1 V' z1 z2 z3 z4 => ?_)
    · have := h1 e V zFm.rf 1 (by omega) (by omega)
      simp (disch := first | assumption | exact zk_265 | ((repeat (first | exact z1n | refine z1I ?_ | refine z1R ?_)); done) | exact rfl | omega | decide) only [r_aload_0, r_gf_681, r_sw, r_gf_682, r_iconst, r_ial, r_ial30, r_ial32, r_inv_2_0, r_inv_2_1, r_inv_2_2, r_inv_2_3, r_inv_2_4, r_K0, r_K1, r_iret, r_bret_0, r_bret_1, r_inv_6_0, r_inv_6_1, r_inv_6_2, r_inv_6_3, r_inv_6_4, r_inv_4_0, r_inv_4_1, r_inv_4_2, r_inv_4_3, r_inv_4_4, vm_numbers, ↓reduceIte, not_true_eq_false, not_false_eq_true, Int.reduceEq, Int.reduceLE, Int.reduceLT, Int.reduceAdd, Int.reduceNeg, Int.reduceMul, Int.reduceSub, Int.reduceToNat]
      exact this
    · have := h0 e1 V' (mo V' z1) z2 z3
      simp (disch := first | assumption | exact zk_265 | ((repeat (first | exact z1n | refine z1I ?_ | refine z1R ?_)); done) | exact rfl | omega | decide) only [r_aload_0, r_gf_681, r_sw, r_gf_682, r_iconst, r_ial, r_ial30, r_ial32, r_inv_2_0, r_inv_2_1, r_inv_2_2, r_inv_2_3, r_inv_2_4, r_K0, r_K1, r_iret, r_bret_0, r_bret_1, r_inv_6_0, r_inv_6_1, r_inv_6_2, r_inv_6_3, r_inv_6_4, r_inv_4_0, r_inv_4_1, r_inv_4_2, r_inv_4_3, r_inv_4_4, vm_numbers, ↓reduceIte, not_true_eq_false, not_false_eq_true, Int.reduceEq, Int.reduceLE, Int.reduceLT, Int.reduceAdd, Int.reduceNeg, Int.reduceMul, Int.reduceSub, Int.reduceToNat]
      exact this
  · have h0 : (0 ≤ g 1 ∧ g 1 < ρ.n) ∧ (0 ≤ g 0 ∧ g 0 ≤ 5) ∧ zLeast (g 0) ≤ g 2 ∧ g 2 ≤ zMost (g 0) → ∀ V', zFm [165, 169] [9] V V' → zMC (ρ.sS (g 0) (g 1) (g 2)) V' → _ := h0
    have h1 : ¬ ((0 ≤ g 1 ∧ g 1 < ρ.n) ∧ (0 ≤ g 0 ∧ g 0 ≤ 5) ∧ zLeast (g 0) ≤ g 2 ∧ g 2 ≤ zMost (g 0)) → _ := h1
    have q0 : V 190 0 = zi (g 0) := hN 0 (by decide)
    have q1 : V 190 1 = zi (g 1) := hN 1 (by decide)
    have q2 : V 190 2 = zi (g 2) := hN 2 (by decide)
    have hsw : zsw [(97, 1), (99, 2), (100, 3), (114, 4), (115, 5)] 6 112 = 6 := by decide
    simp (disch := first | assumption | exact zk_265 | ((repeat (first | exact z1n | refine z1I ?_ | refine z1R ?_)); done) | exact rfl | omega | decide) only [zb_265_0, zb_265_6, r_aload_0, r_gf_681, r_sw, r_gf_682, r_iconst, r_ial, r_ial30, r_ial32, r_inv_2_0, r_inv_2_1, r_inv_2_2, r_inv_2_3, r_inv_2_4, r_K0, r_K1, r_iret, r_bret_0, r_bret_1, r_inv_6_0, r_inv_6_1, r_inv_6_2, r_inv_6_3, r_inv_6_4, r_inv_4_0, r_inv_4_1, r_inv_4_2, r_inv_4_3, r_inv_4_4, vm_numbers, q0, q1, q2, hL, hsw, ↓reduceIte, not_true_eq_false, not_false_eq_true, Int.reduceEq, Int.reduceLE, Int.reduceLT, Int.reduceAdd, Int.reduceNeg, Int.reduceMul, Int.reduceSub, Int.reduceToNat]
    refine m_changes (by omega) hM hC hI hW (i32 0 (by decide)) (i32 1 (by decide)) (i32 2 (by decide)) (fun e => ?_) (fun e e2 => ?_) (fun e1 e2 V' z1 z2 z3 z4 => ?_)
    · have := h1 (fun z => e z.1) V zFm.rf 1 (by omega) (by omega)
      simp (disch := first | assumption | exact zk_265 | ((repeat (first | exact z1n | refine z1I ?_ | refine z1R ?_)); done) | exact rfl | omega | decide) only [r_aload_0, r_gf_681, r_sw, r_gf_682, r_iconst, r_ial, r_ial30, r_ial32, r_inv_2_0, r_inv_2_1, r_inv_2_2, r_inv_2_3, r_inv_2_4, r_K0, r_K1, r_iret, r_bret_0, r_bret_1, r_inv_6_0, r_inv_6_1, r_inv_6_2, r_inv_6_3, r_inv_6_4, r_inv_4_0, r_inv_4_1, r_inv_4_2, r_inv_4_3, r_inv_4_4, vm_numbers, ↓reduceIte, not_true_eq_false, not_false_eq_true, Int.reduceEq, Int.reduceLE, Int.reduceLT, Int.reduceAdd, Int.reduceNeg, Int.reduceMul, Int.reduceSub, Int.reduceToNat]
      exact this
    · have := h1 (fun z => e2 z.2) V zFm.rf 2 (by omega) (by omega)
      simp (disch := first | assumption | exact zk_265 | ((repeat (first | exact z1n | refine z1I ?_ | refine z1R ?_)); done) | exact rfl | omega | decide) only [r_aload_0, r_gf_681, r_sw, r_gf_682, r_iconst, r_ial, r_ial30, r_ial32, r_inv_2_0, r_inv_2_1, r_inv_2_2, r_inv_2_3, r_inv_2_4, r_K0, r_K1, r_iret, r_bret_0, r_bret_1, r_inv_6_0, r_inv_6_1, r_inv_6_2, r_inv_6_3, r_inv_6_4, r_inv_4_0, r_inv_4_1, r_inv_4_2, r_inv_4_3, r_inv_4_4, vm_numbers, ↓reduceIte, not_true_eq_false, not_false_eq_true, Int.reduceEq, Int.reduceLE, Int.reduceLT, Int.reduceAdd, Int.reduceNeg, Int.reduceMul, Int.reduceSub, Int.reduceToNat]
      exact this
    · have := h0 ⟨e1, e2⟩ V' (mo V' z1) z2 z3
      simp (disch := first | assumption | exact zk_265 | ((repeat (first | exact z1n | refine z1I ?_ | refine z1R ?_)); done) | exact rfl | omega | decide) only [r_aload_0, r_gf_681, r_sw, r_gf_682, r_iconst, r_ial, r_ial30, r_ial32, r_inv_2_0, r_inv_2_1, r_inv_2_2, r_inv_2_3, r_inv_2_4, r_K0, r_K1, r_iret, r_bret_0, r_bret_1, r_inv_6_0, r_inv_6_1, r_inv_6_2, r_inv_6_3, r_inv_6_4, r_inv_4_0, r_inv_4_1, r_inv_4_2, r_inv_4_3, r_inv_4_4, vm_numbers, ↓reduceIte, not_true_eq_false, not_false_eq_true, Int.reduceEq, Int.reduceLE, Int.reduceLT, Int.reduceAdd, Int.reduceNeg, Int.reduceMul, Int.reduceSub, Int.reduceToNat]
      exact this
end
