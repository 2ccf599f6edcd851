/-! STATE, 7: calls that are new, dropped, changed -/
def zR.addK (ρ : zR) (c0 c1 c2 c3 c4 : Int) : zR := (ρ.1, ρ.2.1 + 1, ρ.2.2.1, fun w k => if k = ρ.2.1 then (if w = 0 then c0 else if w = 1 then c1 else if w = 2 then c2 else if w = 3 then c3 else c4) else ρ.K w k)
theorem zR.addK_K {ρ : zR} {c0 c1 c2 c3 c4 w k : Int} : (ρ.addK c0 c1 c2 c3 c4).K w k = if k = ρ.c then (if w = 0 then c0 else if w = 1 then c1 else if w = 2 then c2 else if w = 3 then c3 else c4) else ρ.K w k := rfl
theorem zHd_addK {ρ : zR} {c0 c1 c2 c3 c4 x : Int} {j : Nat} (hj : (j : Int) ≤ ρ.c) : zHd (ρ.addK c0 c1 c2 c3 c4) x j = zHd ρ x j := zHd_congr (fun k a b => by rw [zR.addK_K, zR.addK_K, if_neg (by omega), if_neg (by omega)]; exact ⟨rfl, Iff.rfl⟩)
theorem zLead_addK {ρ : zR} {c0 c1 c2 c3 c4 k : Int} (h0 : 0 ≤ k) (hk : k ≤ ρ.c) : zLead (ρ.addK c0 c1 c2 c3 c4) k = if k = ρ.c then (if c4 = 2 then zHd ρ c0 k.toNat else -1) else zLead ρ k := by
  unfold zLead
  rw [zHd_addK (by omega), zR.addK_K, zR.addK_K]
  by_cases e : k = ρ.c
  · rw [if_pos e, if_pos e, if_pos e]
    simp
  · rw [if_neg e, if_neg e, if_neg e]
/-- without the call k -/
def zR.delK (ρ : zR) (k : Int) : zR := (ρ.1, ρ.2.1 - 1, ρ.2.2.1, fun w j => if j < k then ρ.K w j else ρ.K w (j + 1))
theorem zR.delK_K {ρ : zR} {k w j : Int} : (ρ.delK k).K w j = if j < k then ρ.K w j else ρ.K w (j + 1) := rfl
def zAdj (k l : Int) : Int := if k < l then l - 1 else l
theorem zHd_delK_lo {ρ : zR} {k x : Int} {j : Nat} (hj : (j : Int) ≤ k) : zHd (ρ.delK k) x j = zHd ρ x j := zHd_congr (fun i a b => by rw [zR.delK_K, zR.delK_K, if_pos (by omega), if_pos (by omega)]; exact ⟨rfl, Iff.rfl⟩)
theorem zHd_s (ρ : zR) (x : Int) (j : Nat) : zHd ρ x (j + 1) = if ρ.K 0 j = x ∧ ρ.K 4 j ≠ 2 then (j : Int) else zHd ρ x j := rfl
theorem zHd_delK_hi {ρ : zR} {k x : Int} (hk : 0 ≤ k) : ∀ j : Nat, k ≤ (j : Int) → zHd ρ x (j + 1) ≠ k → zHd (ρ.delK k) x j = zAdj k (zHd ρ x (j + 1)) := by
  intro j
  induction j with
  | zero =>
    intro hj hne
    have e : k = 0 := by omega
    subst e
    rw [zHd_s] at hne ⊢
    have hc : ¬ (ρ.K 0 ((0 : Nat) : Int) = x ∧ ρ.K 4 ((0 : Nat) : Int) ≠ 2) := fun q => hne (by rw [if_pos q]; rfl)
    rw [if_neg hc]
    rfl
  | succ j ih =>
    intro hj hne
    by_cases e : k = ((j + 1 : Nat) : Int)
    · rw [zHd_delK_lo (by omega)]
      rw [zHd_s ρ x (j + 1)] at hne ⊢
      have hc : ¬ (ρ.K 0 ((j + 1 : Nat) : Int) = x ∧ ρ.K 4 ((j + 1 : Nat) : Int) ≠ 2) := fun q => hne (by rw [if_pos q]; exact e.symm)
      rw [if_neg hc]
      have := zHd_rng ρ x (j + 1)
      unfold zAdj
      rw [if_neg (by omega)]
    · have e0 : (ρ.delK k).K 0 (j : Int) = ρ.K 0 ((j + 1 : Nat) : Int) := by rw [zR.delK_K, if_neg (by omega)]; rfl
      have e4 : (ρ.delK k).K 4 (j : Int) = ρ.K 4 ((j + 1 : Nat) : Int) := by rw [zR.delK_K, if_neg (by omega)]; rfl
      by_cases q : ρ.K 0 ((j + 1 : Nat) : Int) = x ∧ ρ.K 4 ((j + 1 : Nat) : Int) ≠ 2
      · rw [zHd_s (ρ.delK k) x j, e0, e4, if_pos q, zHd_s ρ x (j + 1), if_pos q]
        unfold zAdj
        rw [if_pos (by omega)]
        omega
      · rw [zHd_s ρ x (j + 1), if_neg q] at hne ⊢
        rw [zHd_s (ρ.delK k) x j, e0, e4, if_neg q]
        exact ih (by omega) hne
theorem zLead_delK {ρ : zR} {k j : Int} (hk : 0 ≤ k) (hj : 0 ≤ j) (hn : ∀ i, 0 ≤ i → i ≤ j + 1 → zLead ρ i ≠ k) : zLead (ρ.delK k) j = zAdj k (zLead ρ (if j < k then j else j + 1)) := by
  by_cases e : j < k
  · rw [if_pos e]
    have := zLead_rng ρ hj
    unfold zAdj
    rw [if_neg (by omega)]
    exact zLead_congr (fun i a b => by rw [zR.delK_K, zR.delK_K, if_pos (by omega), if_pos (by omega)]; exact ⟨rfl, rfl⟩) hj
  · rw [if_neg e]
    have hne := hn (j + 1) (by omega) (by omega)
    unfold zLead at hne ⊢
    rw [zR.delK_K, zR.delK_K, if_neg e, if_neg e]
    by_cases q : ρ.K 4 (j + 1) = 2
    · rw [if_pos q] at hne ⊢
      rw [if_pos q]
      have e1 : (j + 1).toNat = j.toNat + 1 := by omega
      rw [e1] at hne ⊢
      exact zHd_delK_hi hk j.toNat (by omega) hne
    · rw [if_neg q, if_neg q]
      unfold zAdj
      rw [if_neg (by omega)]
section
variable {d : Nat} {s : zS} {V : zV} {Q : zO → zH → Prop} {a : Nat} {ρ : zR} {h : zH}
set_option maxRecDepth 20000 in
theorem c_whyNotNewCall (hd : 4 ≤ d) (hP : zStP s V a) (hC : zStC ρ V a) (hW : zWF ρ) {x y l t k : Int} (hx : zI32 x) (hy : zI32 y) (hl : zI32 l) (ht : zI32 t) (hk : zI32 k) : zcall d 72 [.ref a, zi x, zi y, zi l, zi t, zi k] (s, V) Q =
    if (0 ≤ x ∧ x < ρ.n) ∧ 0 ≤ y ∧ y < ρ.n then if ((1 ≤ l ∧ l ≤ 500) ∧ 1 ≤ t ∧ t ≤ 3) ∧ 0 ≤ k ∧ k ≤ 2 then
      if ((x = y ∨ zin (zNeeds ρ y) x = true) ∨ k = 2 ∧ zHd ρ x ρ.c.toNat = -1) ∨ ρ.c = 24 then Q (.inl (some (zi 3))) (s, V) else Q (.inl (some (zi 0))) (s, V)
      else Q (.inl (some (zi 2))) (s, V) else Q (.inl (some (zi 1))) (s, V) := by
  obtain ⟨n0, n1, c0, c1⟩ := hW.1
  have tO := hP.1
  have vn := hC.1
  have vc := hC.2.1
  obtain ⟨d, rfl⟩ : ∃ e, d = e + 1 := ⟨d - 1, by omega⟩
  simp (disch := first | assumption | omega) only [zc_72]
  have i1 : zI32 1 := ⟨by omega, by omega⟩
  have i2 : zI32 500 := ⟨by omega, by omega⟩
  have i3 : zI32 3 := ⟨by omega, by omega⟩
  have i4 : zI32 0 := ⟨by omega, by omega⟩
  have i5 : zI32 2 := ⟨by omega, by omega⟩
  have j1 := hx.1
  have j2 := hx.2
  have j3 := hy.1
  have j4 := hy.2
  have j5 := hk.1
  have j6 := hk.2
  have hh := zHd_rng ρ x ρ.c.toNat
  by_cases e : (0 ≤ x ∧ x < ρ.n) ∧ 0 ≤ y ∧ y < ρ.n
  · obtain ⟨⟨e1, e2⟩, e3, e4⟩ := e
    have hnl := zNeeds_lt hW y
    simp (disch := first | assumption | exact zk_72 | ((repeat (first | exact z1n | refine z1I ?_ | refine z1R ?_)); done) | exact rfl | omega | decide) only [zb_72_0, zb_72_1, zb_72_2, zb_72_3, zb_72_4, zb_72_5, zb_72_6, zb_72_7, zb_72_8, zb_72_9, r_aload_0, r_iload_1, r_inv_2_0, r_inv_2_1, r_inv_2_2, r_inv_2_3, r_inv_2_4, r_K0, r_K1, r_if_ne, r_iload_2, r_if_eq, r_goto_w, r_iconst, r_iret, r_bret_0, r_bret_1, r_iload_3, r_inv_3_0, r_inv_3_1, r_inv_3_2, r_inv_3_3, r_inv_3_4, r_iload_4, r_iload_5, r_icmp_eq, r_icmp_ne, r_gf_449, r_icmp_lt, r_goto, vn, vc, c_whyNoService (hC := hC), c_within, c_needs (hC := hC), c_contains, c_lastHead (hC := hC), e1, e2, e3, e4, and_self, ↓reduceIte, not_true_eq_false, not_false_eq_true, Int.reduceEq, Int.reduceLE, Int.reduceLT, Int.reduceAdd, Int.reduceNeg, Int.reduceMul, Int.reduceSub, Int.reduceToNat]
    (repeat' split) <;> first | rfl | (exfalso; omega) | (exfalso; grind)
  · rw [if_neg e]
    simp (disch := first | assumption | exact zk_72 | ((repeat (first | exact z1n | refine z1I ?_ | refine z1R ?_)); done) | exact rfl | omega | decide) only [zb_72_0, zb_72_1, r_aload_0, r_iload_1, r_inv_2_0, r_inv_2_1, r_inv_2_2, r_inv_2_3, r_inv_2_4, r_K0, r_K1, r_if_ne, r_iload_2, r_if_eq, r_goto_w, r_iconst, r_iret, r_bret_0, r_bret_1, r_iload_3, r_inv_3_0, r_inv_3_1, r_inv_3_2, r_inv_3_3, r_inv_3_4, r_iload_4, r_iload_5, r_icmp_eq, r_icmp_ne, r_gf_449, r_icmp_lt, r_goto, vn, vc, c_whyNoService (hC := hC), ↓reduceIte, not_true_eq_false, not_false_eq_true, Int.reduceEq, Int.reduceLE, Int.reduceLT, Int.reduceAdd, Int.reduceNeg, Int.reduceMul, Int.reduceSub, Int.reduceToNat]
    (repeat' split) <;> first | rfl | (exfalso; omega) | (exfalso; grind)
set_option maxRecDepth 20000 in
theorem c_newCall (hd : 3 ≤ d) (hP : zStP s V a) (hC : zStC ρ V a) (hW : zWF ρ) (hc : ρ.c < 24) {x y l t k : Int} (h1 : 0 ≤ x) (h2 : x < ρ.n) (hk : zI32 k) (hQ : zTo s V a (ρ.addK x y l t k) Q (.inl (some (zi ρ.c)))) : zcall d 73 [.ref a, zi x, zi y, zi l, zi t, zi k] (s, V) Q := by
  obtain ⟨n0, n1, c0, c1⟩ := hW.1
  obtain ⟨j1, j2⟩ := hk
  have tO := hP.1
  have vB := hP.2.2.2.2.1
  have tB := hP.2.2.2.2.2.1
  have lB := hP.2.2.2.2.2.2.1
  have vn := hC.1
  have vc := hC.2.1
  have vc0 : V (a + 11) 0 = .ref (a + 12) := (hP.2.2.2.2.2.2.2.2 0 (by omega)).1
  have tc0 : s.tg (a + 12) = 20 := (hP.2.2.2.2.2.2.2.2 0 (by omega)).2.1
  have lc0 : s.ln (a + 12) = 24 := (hP.2.2.2.2.2.2.2.2 0 (by omega)).2.2
  have ec0 : ∀ x : Int, 0 ≤ x → x < ρ.c → V (a + 12) x = zi (ρ.K 0 x) := hC.2.2.2.1 0 (by omega)
  have vc1 : V (a + 11) 1 = .ref (a + 13) := (hP.2.2.2.2.2.2.2.2 1 (by omega)).1
  have tc1 : s.tg (a + 13) = 20 := (hP.2.2.2.2.2.2.2.2 1 (by omega)).2.1
  have lc1 : s.ln (a + 13) = 24 := (hP.2.2.2.2.2.2.2.2 1 (by omega)).2.2
  have ec1 : ∀ x : Int, 0 ≤ x → x < ρ.c → V (a + 13) x = zi (ρ.K 1 x) := hC.2.2.2.1 1 (by omega)
  have vc2 : V (a + 11) 2 = .ref (a + 14) := (hP.2.2.2.2.2.2.2.2 2 (by omega)).1
  have tc2 : s.tg (a + 14) = 20 := (hP.2.2.2.2.2.2.2.2 2 (by omega)).2.1
  have lc2 : s.ln (a + 14) = 24 := (hP.2.2.2.2.2.2.2.2 2 (by omega)).2.2
  have ec2 : ∀ x : Int, 0 ≤ x → x < ρ.c → V (a + 14) x = zi (ρ.K 2 x) := hC.2.2.2.1 2 (by omega)
  have vc3 : V (a + 11) 3 = .ref (a + 15) := (hP.2.2.2.2.2.2.2.2 3 (by omega)).1
  have tc3 : s.tg (a + 15) = 20 := (hP.2.2.2.2.2.2.2.2 3 (by omega)).2.1
  have lc3 : s.ln (a + 15) = 24 := (hP.2.2.2.2.2.2.2.2 3 (by omega)).2.2
  have ec3 : ∀ x : Int, 0 ≤ x → x < ρ.c → V (a + 15) x = zi (ρ.K 3 x) := hC.2.2.2.1 3 (by omega)
  have vc4 : V (a + 11) 4 = .ref (a + 16) := (hP.2.2.2.2.2.2.2.2 4 (by omega)).1
  have tc4 : s.tg (a + 16) = 20 := (hP.2.2.2.2.2.2.2.2 4 (by omega)).2.1
  have lc4 : s.ln (a + 16) = 24 := (hP.2.2.2.2.2.2.2.2 4 (by omega)).2.2
  have ec4 : ∀ x : Int, 0 ≤ x → x < ρ.c → V (a + 16) x = zi (ρ.K 4 x) := hC.2.2.2.1 4 (by omega)
  have vc5 : V (a + 11) 5 = .ref (a + 17) := (hP.2.2.2.2.2.2.2.2 5 (by omega)).1
  have tc5 : s.tg (a + 17) = 20 := (hP.2.2.2.2.2.2.2.2 5 (by omega)).2.1
  have lc5 : s.ln (a + 17) = 24 := (hP.2.2.2.2.2.2.2.2 5 (by omega)).2.2
  have ec5 : ∀ x : Int, 0 ≤ x → x < ρ.c → V (a + 17) x = zi (zLead ρ x) := hC.2.2.2.2
  have key : ∀ V', V' = zput (zput (zput (zput (zput (zput (zput V (a + 17) ρ.c (zi (if k = 2 then zHd ρ x ρ.c.toNat else -1))) (a + 12) ρ.c (zi x)) (a + 13) ρ.c (zi y)) (a + 14) ρ.c (zi l)) (a + 15) ρ.c (zi t)) (a + 16) ρ.c (zi k)) a 1 (zi (ρ.c + 1)) → Q (.inl (some (zi ρ.c))) (s, V') := by
    intro V' hV
    subst hV
    refine hQ _ ?_ ?_ ?_
    · repeat (first | exact zFr.rf | refine zFr.p ?_ (by omega) (by omega))
    · repeat (first | exact hP | refine zStP.put ?_ (by omega) (by omega) | refine zStP.putf ?_ (by omega) (by omega))
    · have hc1 : (ρ.addK x y l t k).c = ρ.c + 1 := rfl
      refine ⟨?_, zput_at, fun i hi z z0 z1 => ?_, fun i hi z z0 z1 => ?_, fun z z0 z1 => ?_⟩
      · simp (disch := omega) only [zput_r, zput_k, vn]
        rfl
      · simp (disch := omega) only [zput_r]
        exact hC.2.2.1 i hi z z0 z1
      · rw [hc1] at z1
        rw [zR.addK_K, zput_r (by omega)]
        by_cases e : z = ρ.c
        · rw [if_pos e, e]
          rcases (by omega : i = 0 ∨ i = 1 ∨ i = 2 ∨ i = 3 ∨ i = 4) with rfl | rfl | rfl | rfl | rfl <;> simp (disch := omega) only [zput_r, zput_at] <;> rfl
        · rw [if_neg e]
          simp (disch := omega) only [zput_i]
          exact hC.2.2.2.1 i hi z z0 (by omega)
      · rw [hc1] at z1
        rw [zLead_addK z0 (by omega), zput_r (by omega)]
        by_cases e : z = ρ.c
        · rw [if_pos e, e]
          simp (disch := omega) only [zput_r, zput_at]
        · rw [if_neg e]
          simp (disch := omega) only [zput_i]
          exact hC.2.2.2.2 z z0 (by omega)
  obtain ⟨d, rfl⟩ : ∃ e, d = e + 1 := ⟨d - 1, by omega⟩
  simp (disch := first | assumption | omega) only [zc_73]
  by_cases e : k = 2
  · rw [if_pos e] at key
    simp (disch := first | assumption | exact zk_73 | ((repeat (first | exact z1n | refine z1I ?_ | refine z1R ?_)); done) | exact rfl | omega | decide) only [zb_73_0, zb_73_1, zb_73_2, r_aload_0, r_gf_449, r_istore_6i, r_istore_6r, r_istore_6j, r_gf_451, r_iconst, r_aaload, r_iload_6, r_iload_5, r_icmp_ne, r_iload_1, r_inv_2_0, r_inv_2_1, r_inv_2_2, r_inv_2_3, r_inv_2_4, r_K0, r_K1, r_goto, r_goto_w, r_iastore, r_iload_2, r_iload_3, r_iload_4, r_dup_i, r_dup_r, r_iadd, r_pf_449, r_iret, r_bret_0, r_bret_1, vB, vn, vc, vc0, ec0, vc1, ec1, vc2, ec2, vc3, ec3, vc4, ec4, vc5, ec5, c_lastHead (hC := hC), e, zput_r, ↓reduceIte, not_true_eq_false, not_false_eq_true, Int.reduceEq, Int.reduceLE, Int.reduceLT, Int.reduceAdd, Int.reduceNeg, Int.reduceMul, Int.reduceSub, Int.reduceToNat]
    exact key _ (by rw [e])
  · rw [if_neg e] at key
    simp (disch := first | assumption | exact zk_73 | ((repeat (first | exact z1n | refine z1I ?_ | refine z1R ?_)); done) | exact rfl | omega | decide) only [zb_73_0, zb_73_1, zb_73_2, r_aload_0, r_gf_449, r_istore_6i, r_istore_6r, r_istore_6j, r_gf_451, r_iconst, r_aaload, r_iload_6, r_iload_5, r_icmp_ne, r_iload_1, r_inv_2_0, r_inv_2_1, r_inv_2_2, r_inv_2_3, r_inv_2_4, r_K0, r_K1, r_goto, r_goto_w, r_iastore, r_iload_2, r_iload_3, r_iload_4, r_dup_i, r_dup_r, r_iadd, r_pf_449, r_iret, r_bret_0, r_bret_1, vB, vn, vc, vc0, ec0, vc1, ec1, vc2, ec2, vc3, ec3, vc4, ec4, vc5, ec5, e, zput_r, ↓reduceIte, not_true_eq_false, not_false_eq_true, Int.reduceEq, Int.reduceLE, Int.reduceLT, Int.reduceAdd, Int.reduceNeg, Int.reduceMul, Int.reduceSub, Int.reduceToNat]
    exact key _ rfl
set_option maxRecDepth 20000 in
theorem c_whyNotDropCall (hd : 2 ≤ d) (hP : zStP s V a) (hC : zStC ρ V a) (hW : zWF ρ) {k : Int} (hk : zI32 k) : zcall d 74 [.ref a, zi k] (s, V) Q = if 0 ≤ k ∧ k < ρ.c then if zany (fun j => decide (zLead ρ j = k)) 0 ρ.c = true then Q (.inl (some (zi 3))) (s, V) else Q (.inl (some (zi 0))) (s, V) else Q (.inl (some (zi 1))) (s, V) := by
  obtain ⟨n0, n1, c0, c1⟩ := hW.1
  have tO := hP.1
  have vB := hP.2.2.2.2.1
  have tB := hP.2.2.2.2.2.1
  have lB := hP.2.2.2.2.2.2.1
  have vn := hC.1
  have vc := hC.2.1
  have vc5 : V (a + 11) 5 = .ref (a + 17) := (hP.2.2.2.2.2.2.2.2 5 (by omega)).1
  have tc5 : s.tg (a + 17) = 20 := (hP.2.2.2.2.2.2.2.2 5 (by omega)).2.1
  have lc5 : s.ln (a + 17) = 24 := (hP.2.2.2.2.2.2.2.2 5 (by omega)).2.2
  have ec5 : ∀ x : Int, 0 ≤ x → x < ρ.c → V (a + 17) x = zi (zLead ρ x) := hC.2.2.2.2
  obtain ⟨d, rfl⟩ : ∃ e, d = e + 1 := ⟨d - 1, by omega⟩
  simp (disch := first | assumption | omega) only [zc_74]
  by_cases e : 0 ≤ k ∧ k < ρ.c
  · obtain ⟨e1, e2⟩ := e
    simp (disch := first | assumption | exact zk_74 | ((repeat (first | exact z1n | refine z1I ?_ | refine z1R ?_)); done) | exact rfl | omega | decide) only [zb_74_0, zb_74_1, r_aload_0, r_iload_1, r_inv_2_0, r_inv_2_1, r_inv_2_2, r_inv_2_3, r_inv_2_4, r_K0, r_K1, r_if_eq, r_iconst, r_iret, r_bret_0, r_bret_1, r_istore_2i, r_istore_2r, r_istore_2j, r_goto_w, r_iload_2, r_gf_449, r_icmp_ge, r_gf_451, r_aaload, r_ial, r_ial30, r_ial32, r_icmp_ne, r_iinc_2i, r_iinc_2r, r_iinc_2j, r_goto, vB, vn, vc, vc5, ec5, c_whyNoCall (hC := hC), e1, e2, and_self, ↓reduceIte, not_true_eq_false, not_false_eq_true, Int.reduceEq, Int.reduceLE, Int.reduceLT, Int.reduceAdd, Int.reduceNeg, Int.reduceMul, Int.reduceSub, Int.reduceToNat]
    refine z_searchB (F := fun j => zwp (zcall d) 74 Q (zB 74 2) [.ref a, zi k, zi j] [] (s, V)) (A := Q (.inl (some (zi 3))) (s, V)) (B := Q (.inl (some (zi 0))) (s, V)) c0 (fun j j0 j1 => ?_) ?_
    · have := zLead_rng ρ j0
      conv => lhs; rw [zb_74_2]
      simp (disch := first | assumption | exact zk_74 | ((repeat (first | exact z1n | refine z1I ?_ | refine z1R ?_)); done) | exact rfl | omega | decide) only [zb_74_3, zb_74_4, r_aload_0, r_iload_1, r_inv_2_0, r_inv_2_1, r_inv_2_2, r_inv_2_3, r_inv_2_4, r_K0, r_K1, r_if_eq, r_iconst, r_iret, r_bret_0, r_bret_1, r_istore_2i, r_istore_2r, r_istore_2j, r_goto_w, r_iload_2, r_gf_449, r_icmp_ge, r_gf_451, r_aaload, r_ial, r_ial30, r_ial32, r_icmp_ne, r_iinc_2i, r_iinc_2r, r_iinc_2j, r_goto, vB, vn, vc, vc5, ec5, ↓reduceIte, not_true_eq_false, not_false_eq_true, Int.reduceEq, Int.reduceLE, Int.reduceLT, Int.reduceAdd, Int.reduceNeg, Int.reduceMul, Int.reduceSub, Int.reduceToNat]
      rw [if_neg (by omega : ¬ ρ.c ≤ j)]
      by_cases q : zLead ρ j = k
      · rw [if_neg (by omega), if_pos (by simpa using q)]
      · rw [if_pos q, if_neg (by simpa using q)]
    · simp (disch := first | assumption | exact zk_74 | ((repeat (first | exact z1n | refine z1I ?_ | refine z1R ?_)); done) | exact rfl | omega | decide) only [zb_74_0, zb_74_1, zb_74_2, zb_74_3, zb_74_4, r_aload_0, r_iload_1, r_inv_2_0, r_inv_2_1, r_inv_2_2, r_inv_2_3, r_inv_2_4, r_K0, r_K1, r_if_eq, r_iconst, r_iret, r_bret_0, r_bret_1, r_istore_2i, r_istore_2r, r_istore_2j, r_goto_w, r_iload_2, r_gf_449, r_icmp_ge, r_gf_451, r_aaload, r_ial, r_ial30, r_ial32, r_icmp_ne, r_iinc_2i, r_iinc_2r, r_iinc_2j, r_goto, vB, vn, vc, vc5, ec5, Int.le_refl, ↓reduceIte, not_true_eq_false, not_false_eq_true, Int.reduceEq, Int.reduceLE, Int.reduceLT, Int.reduceAdd, Int.reduceNeg, Int.reduceMul, Int.reduceSub, Int.reduceToNat]
  · simp (disch := first | assumption | exact zk_74 | ((repeat (first | exact z1n | refine z1I ?_ | refine z1R ?_)); done) | exact rfl | omega | decide) only [zb_74_0, zb_74_1, r_aload_0, r_iload_1, r_inv_2_0, r_inv_2_1, r_inv_2_2, r_inv_2_3, r_inv_2_4, r_K0, r_K1, r_if_eq, r_iconst, r_iret, r_bret_0, r_bret_1, r_istore_2i, r_istore_2r, r_istore_2j, r_goto_w, r_iload_2, r_gf_449, r_icmp_ge, r_gf_451, r_aaload, r_ial, r_ial30, r_ial32, r_icmp_ne, r_iinc_2i, r_iinc_2r, r_iinc_2j, r_goto, vB, vn, vc, vc5, ec5, c_whyNoCall (hC := hC), e, ↓reduceIte, not_true_eq_false, not_false_eq_true, Int.reduceEq, Int.reduceLE, Int.reduceLT, Int.reduceAdd, Int.reduceNeg, Int.reduceMul, Int.reduceSub, Int.reduceToNat]
set_option maxRecDepth 20000 in
theorem c_changeLimit (hd : 1 ≤ d) (hP : zStP s V a) (hC : zStC ρ V a) (hc : ρ.c ≤ 24) {k v : Int} (h1 : 0 ≤ k) (h2 : k < ρ.c) (hQ : zTo s V a (ρ.sK 2 k v) Q (.inl (some (zi (ρ.K 2 k))))) : zcall d 79 [.ref a, zi k, zi v] (s, V) Q := by
  have tO := hP.1
  have vB := hP.2.2.2.2.1
  have tB := hP.2.2.2.2.2.1
  have lB := hP.2.2.2.2.2.2.1
  have vn := hC.1
  have vc := hC.2.1
  have vc2 : V (a + 11) 2 = .ref (a + 14) := (hP.2.2.2.2.2.2.2.2 2 (by omega)).1
  have tc2 : s.tg (a + 14) = 20 := (hP.2.2.2.2.2.2.2.2 2 (by omega)).2.1
  have lc2 : s.ln (a + 14) = 24 := (hP.2.2.2.2.2.2.2.2 2 (by omega)).2.2
  have ec2 : ∀ x : Int, 0 ≤ x → x < ρ.c → V (a + 14) x = zi (ρ.K 2 x) := hC.2.2.2.1 2 (by omega)
  obtain ⟨d, rfl⟩ : ∃ e, d = e + 1 := ⟨d - 1, by omega⟩
  simp (disch := first | assumption | omega) only [zc_79]
  simp (disch := first | assumption | exact zk_79 | ((repeat (first | exact z1n | refine z1I ?_ | refine z1R ?_)); done) | exact rfl | omega | decide) only [zb_79_0, r_aload_0, r_gf_451, r_iconst, r_aaload, r_iload_1, r_ial, r_ial30, r_ial32, r_istore_3i, r_istore_3r, r_istore_3j, r_iload_2, r_iastore, r_iload_3, r_iret, r_bret_0, r_bret_1, vB, vn, vc, vc2, ec2, ↓reduceIte, not_true_eq_false, not_false_eq_true, Int.reduceEq, Int.reduceLE, Int.reduceLT, Int.reduceAdd, Int.reduceNeg, Int.reduceMul, Int.reduceSub, Int.reduceToNat]
  refine hQ _ (zFr.put (by omega) (by omega)) (hP.put (by omega) (by omega)) ?_
  obtain ⟨g1, g2, g3, g4, g5⟩ := hC
  refine ⟨(zput_r (by omega)).trans g1, (zput_r (by omega)).trans g2, fun i hi z z0 z1 => ?_, fun i hi z z0 z1 => ?_, fun z z0 z1 => ?_⟩
  · rw [zput_r (by omega)]
    exact g3 i hi z z0 z1
  · rw [zR.sK_K]
    by_cases e : (i : Int) = 2 ∧ z = k
    · rw [if_pos e, show i = 2 by omega, e.2, zput_at]
    · rw [if_neg e]
      by_cases e2 : i = 2
      · subst e2
        rw [zput_k (fun q => e ⟨rfl, q⟩)]
        exact g4 2 hi z z0 z1
      · rw [zput_r (by omega)]
        exact g4 i hi z z0 z1
  · rw [zput_r (by omega)]
    exact (g5 z z0 z1).trans (congrArg zi (zLead_congr (fun j _ _ => by rw [zR.sK_K, zR.sK_K, if_neg (by omega), if_neg (by omega)]; exact ⟨rfl, rfl⟩) z0))
set_option maxRecDepth 20000 in
theorem c_whyNotChangeLimit (hd : 2 ≤ d) (hP : zStP s V a) (hC : zStC ρ V a) (hW : zWF ρ) {k v : Int} (hk : zI32 k) (hv : zI32 v) : zcall d 78 [.ref a, zi k, zi v] (s, V) Q = if 0 ≤ k ∧ k < ρ.c then if 1 ≤ v ∧ v ≤ 500 then Q (.inl (some (zi 0))) (s, V) else Q (.inl (some (zi 2))) (s, V) else Q (.inl (some (zi 1))) (s, V) := by
  obtain ⟨n0, n1, c0, c1⟩ := hW.1
  have tO := hP.1
  have vn := hC.1
  have vc := hC.2.1
  obtain ⟨d, rfl⟩ : ∃ e, d = e + 1 := ⟨d - 1, by omega⟩
  simp (disch := first | assumption | omega) only [zc_78]
  have i1 : zI32 1 := ⟨by omega, by omega⟩
  have i2 : zI32 500 := ⟨by omega, by omega⟩
  by_cases e : 0 ≤ k ∧ k < ρ.c
  · obtain ⟨e1, e2⟩ := e
    simp (disch := first | assumption | exact zk_78 | ((repeat (first | exact z1n | refine z1I ?_ | refine z1R ?_)); done) | exact rfl | omega | decide) only [zb_78_0, zb_78_1, zb_78_2, r_aload_0, r_iload_1, r_inv_2_0, r_inv_2_1, r_inv_2_2, r_inv_2_3, r_inv_2_4, r_K0, r_K1, r_if_eq, r_iconst, r_goto, r_iload_2, r_inv_3_0, r_inv_3_1, r_inv_3_2, r_inv_3_3, r_inv_3_4, r_goto_w, r_iret, r_bret_0, r_bret_1, vn, vc, c_whyNoCall (hC := hC), c_within, e1, e2, and_self, ↓reduceIte, not_true_eq_false, not_false_eq_true, Int.reduceEq, Int.reduceLE, Int.reduceLT, Int.reduceAdd, Int.reduceNeg, Int.reduceMul, Int.reduceSub, Int.reduceToNat]
  · simp (disch := first | assumption | exact zk_78 | ((repeat (first | exact z1n | refine z1I ?_ | refine z1R ?_)); done) | exact rfl | omega | decide) only [zb_78_0, zb_78_1, zb_78_2, r_aload_0, r_iload_1, r_inv_2_0, r_inv_2_1, r_inv_2_2, r_inv_2_3, r_inv_2_4, r_K0, r_K1, r_if_eq, r_iconst, r_goto, r_iload_2, r_inv_3_0, r_inv_3_1, r_inv_3_2, r_inv_3_3, r_inv_3_4, r_goto_w, r_iret, r_bret_0, r_bret_1, vn, vc, c_whyNoCall (hC := hC), e, ↓reduceIte, not_true_eq_false, not_false_eq_true, Int.reduceEq, Int.reduceLE, Int.reduceLT, Int.reduceAdd, Int.reduceNeg, Int.reduceMul, Int.reduceSub, Int.reduceToNat]
def zLeast (w : Int) : Int := if w = 1 then 50 else if w = 5 then 0 else 1
def zMost (w : Int) : Int := if w = 0 then 100 else if w = 1 then 400 else if w = 2 then 9 else if w = 3 then 20 else if w = 4 then 9 else 1000
set_option maxRecDepth 20000 in
theorem c_whyNotChange (hd : 2 ≤ d) (hA : zSA s V) (hP : zStP s V a) (hC : zStC ρ V a) (hW : zWF ρ) {w x v : Int} (hw : zI32 w) (hx : zI32 x) (hv : zI32 v) : zcall d 76 [.ref a, zi w, zi x, zi v] (s, V) Q = if 0 ≤ x ∧ x < ρ.n then if (0 ≤ w ∧ w ≤ 5) ∧ zLeast w ≤ v ∧ v ≤ zMost w then Q (.inl (some (zi 0))) (s, V) else Q (.inl (some (zi 2))) (s, V) else Q (.inl (some (zi 1))) (s, V) := by
  obtain ⟨n0, n1, c0, c1⟩ := hW.1
  obtain ⟨w1, w2⟩ := hw
  have tO := hP.1
  have vn := hC.1
  have vc := hC.2.1
  obtain ⟨d, rfl⟩ : ∃ e, d = e + 1 := ⟨d - 1, by omega⟩
  simp (disch := first | assumption | omega) only [zc_76]
  obtain ⟨t0, l0, v0⟩ := hA 0 (by omega)
  obtain ⟨t1, l1, v1⟩ := hA 1 (by omega)
  by_cases e : 0 ≤ x ∧ x < ρ.n
  · obtain ⟨e1, e2⟩ := e
    by_cases f : 0 ≤ w ∧ w ≤ 5
    · obtain ⟨f1, f2⟩ := f
      have u0 : V 0 w = zi (zLeast w) := by
        rcases (by omega : w = 0 ∨ w = 1 ∨ w = 2 ∨ w = 3 ∨ w = 4 ∨ w = 5) with rfl | rfl | rfl | rfl | rfl | rfl
        · exact v0 0 (by omega)
        · exact v0 1 (by omega)
        · exact v0 2 (by omega)
        · exact v0 3 (by omega)
        · exact v0 4 (by omega)
        · exact v0 5 (by omega)
      have u1 : V 1 w = zi (zMost w) := by
        rcases (by omega : w = 0 ∨ w = 1 ∨ w = 2 ∨ w = 3 ∨ w = 4 ∨ w = 5) with rfl | rfl | rfl | rfl | rfl | rfl
        · exact v1 0 (by omega)
        · exact v1 1 (by omega)
        · exact v1 2 (by omega)
        · exact v1 3 (by omega)
        · exact v1 4 (by omega)
        · exact v1 5 (by omega)
      have i1 : zI32 (zLeast w) := by unfold zLeast zI32; split <;> omega
      have i2 : zI32 (zMost w) := by unfold zMost zI32; (repeat' split) <;> omega
      simp (disch := first | assumption | exact zk_76 | ((repeat (first | exact z1n | refine z1I ?_ | refine z1R ?_)); done) | exact rfl | omega | decide) only [zb_76_0, zb_76_1, zb_76_2, zb_76_3, r_aload_0, r_iload_2, r_inv_2_0, r_inv_2_1, r_inv_2_2, r_inv_2_3, r_inv_2_4, r_K0, r_K1, r_if_eq, r_iconst, r_iret, r_bret_0, r_bret_1, r_iload_1, r_if_lt, r_icmp_le, r_goto_w, r_iload_3, r_gets, r_ial, r_ial30, r_ial32, r_inv_3_0, r_inv_3_1, r_inv_3_2, r_inv_3_3, r_inv_3_4, vn, vc, c_whyNoService (hC := hC), c_within, u0, u1, e1, e2, f1, f2, and_self, true_and, ↓reduceIte, not_true_eq_false, not_false_eq_true, Int.reduceEq, Int.reduceLE, Int.reduceLT, Int.reduceAdd, Int.reduceNeg, Int.reduceMul, Int.reduceSub, Int.reduceToNat]
      rw [if_neg (by omega)]
    · simp (disch := first | assumption | exact zk_76 | ((repeat (first | exact z1n | refine z1I ?_ | refine z1R ?_)); done) | exact rfl | omega | decide) only [zb_76_0, zb_76_1, zb_76_2, r_aload_0, r_iload_2, r_inv_2_0, r_inv_2_1, r_inv_2_2, r_inv_2_3, r_inv_2_4, r_K0, r_K1, r_if_eq, r_iconst, r_iret, r_bret_0, r_bret_1, r_iload_1, r_if_lt, r_icmp_le, r_goto_w, r_iload_3, r_gets, r_ial, r_ial30, r_ial32, r_inv_3_0, r_inv_3_1, r_inv_3_2, r_inv_3_3, r_inv_3_4, vn, vc, c_whyNoService (hC := hC), e1, e2, and_self, ↓reduceIte, not_true_eq_false, not_false_eq_true, Int.reduceEq, Int.reduceLE, Int.reduceLT, Int.reduceAdd, Int.reduceNeg, Int.reduceMul, Int.reduceSub, Int.reduceToNat]
      rw [if_neg (show ¬ ((0 ≤ w ∧ w ≤ 5) ∧ zLeast w ≤ v ∧ v ≤ zMost w) from fun q => f q.1)]
      (repeat' split) <;> first | rfl | (exfalso; omega)
  · simp (disch := first | assumption | exact zk_76 | ((repeat (first | exact z1n | refine z1I ?_ | refine z1R ?_)); done) | exact rfl | omega | decide) only [zb_76_0, zb_76_1, zb_76_2, zb_76_3, r_aload_0, r_iload_2, r_inv_2_0, r_inv_2_1, r_inv_2_2, r_inv_2_3, r_inv_2_4, r_K0, r_K1, r_if_eq, r_iconst, r_iret, r_bret_0, r_bret_1, r_iload_1, r_if_lt, r_icmp_le, r_goto_w, r_iload_3, r_gets, r_ial, r_ial30, r_ial32, r_inv_3_0, r_inv_3_1, r_inv_3_2, r_inv_3_3, r_inv_3_4, vn, vc, c_whyNoService (hC := hC), e, ↓reduceIte, not_true_eq_false, not_false_eq_true, Int.reduceEq, Int.reduceLE, Int.reduceLT, Int.reduceAdd, Int.reduceNeg, Int.reduceMul, Int.reduceSub, Int.reduceToNat]
set_option maxRecDepth 20000 in
theorem c_dropCall (hd : 1 ≤ d) (hP : zStP s V a) (hC : zStC ρ V a) (hW : zWF ρ) {k : Int} (h1 : 0 ≤ k) (h2 : k < ρ.c) (hno : ∀ j, 0 ≤ j → j < ρ.c → zLead ρ j ≠ k) (hQ : zTo s V a (ρ.delK k) Q (.inl (some (zi (ρ.c - 1))))) : zcall d 75 [.ref a, zi k] (s, V) Q := by
  obtain ⟨n0, n1, c0, c1⟩ := hW.1
  have tO := hP.1
  have vB := hP.2.2.2.2.1
  have tB := hP.2.2.2.2.2.1
  have lB := hP.2.2.2.2.2.2.1
  have vn := hC.1
  have vc := hC.2.1
  have vc5 : V (a + 11) 5 = .ref (a + 17) := (hP.2.2.2.2.2.2.2.2 5 (by omega)).1
  have tc5 : s.tg (a + 17) = 20 := (hP.2.2.2.2.2.2.2.2 5 (by omega)).2.1
  have lc5 : s.ln (a + 17) = 24 := (hP.2.2.2.2.2.2.2.2 5 (by omega)).2.2
  have ec5 : ∀ x : Int, 0 ≤ x → x < ρ.c → V (a + 17) x = zi (zLead ρ x) := hC.2.2.2.2
  obtain ⟨d, rfl⟩ : ∃ e, d = e + 1 := ⟨d - 1, by omega⟩
  simp (disch := first | assumption | omega) only [zc_75]
  simp (disch := first | assumption | exact zk_75 | ((repeat (first | exact z1n | refine z1I ?_ | refine z1R ?_)); done) | exact rfl | omega | decide) only [zb_75_0, r_aload_0, r_dup_i, r_dup_r, r_gf_449, r_iconst, r_isub, r_pf_449, r_istore_2i, r_istore_2r, r_istore_2j, r_goto_w, r_iload_2, r_icmp_gt, r_gf_451, r_aaload, r_iload_1, r_iadd, r_copy, r_iinc_2i, r_iinc_2r, r_iinc_2j, r_goto, r_icmp_ge, r_ial, r_ial30, r_ial32, r_icmp_le, r_dup2, r_iastore, r_iret, r_bret_0, r_bret_1, vB, vn, vc, vc5, ec5, ↓reduceIte, not_true_eq_false, not_false_eq_true, Int.reduceEq, Int.reduceLE, Int.reduceLT, Int.reduceAdd, Int.reduceNeg, Int.reduceMul, Int.reduceSub, Int.reduceToNat]
  generalize hV0 : zput V a 1 (zi (ρ.c - 1)) = V0
  have F0 : zFr a V V0 := by rw [← hV0]; exact zFr.put (by omega) (by omega)
  have P0 : zStP s V0 a := by rw [← hV0]; exact hP.putf (by omega) (by omega)
  have N0 : V0 a 0 = zi ρ.n ∧ V0 a 1 = zi (ρ.c - 1) := by rw [← hV0]; exact ⟨(zput_k (by omega)).trans vn, zput_at⟩
  have E0 : ∀ r, r ≠ a → V0 r = V r := fun r hr => by rw [← hV0]; exact zput_row hr
  have hx := z_iter (i := 0) (n := 6) (I := fun j (q : zV) => zFr a V q ∧ zStP s q a ∧ (q a 0 = zi ρ.n ∧ q a 1 = zi (ρ.c - 1)) ∧ (∀ i : Nat, i < 9 → q (a + 2 + i) = V (a + 2 + i)) ∧ (∀ i : Nat, (i : Int) < j → ∀ z : Int, 0 ≤ z → z < ρ.c - 1 → q (a + 12 + i) z = V (a + 12 + i) (if z < k then z else z + 1)) ∧ ∀ i : Nat, j ≤ (i : Int) → i < 6 → q (a + 12 + i) = V (a + 12 + i)) (P := fun j q => zwp (zcall d) 75 Q (zB 75 1) [.ref a, zi k, zi j] [] (s, q)) (by omega)
  refine hx ?_ ?_ V0 ⟨F0, P0, N0, fun i hi => E0 _ (by omega), fun i hi => by omega, fun i hi hi2 => E0 _ (by omega)⟩
  · rintro j0 V1 k0 k1 ⟨f1, p1, m1, e1, e2, e3⟩ ih
    obtain ⟨j, rfl⟩ : ∃ j : Nat, j0 = j := ⟨j0.toNat, by omega⟩
    have va : V1 a 3 = .ref (a + 11) := p1.2.2.2.2.1
    have ta := p1.2.2.2.2.2.1
    have la := p1.2.2.2.2.2.2.1
    obtain ⟨ra, sa, qa⟩ := p1.2.2.2.2.2.2.2.2 j (by omega)
    have m2 := m1.2
    conv => rw [zb_75_1]
    simp (disch := first | assumption | exact zk_75 | ((repeat (first | exact z1n | refine z1I ?_ | refine z1R ?_)); done) | exact rfl | omega | decide) only [r_aload_0, r_dup_i, r_dup_r, r_gf_449, r_iconst, r_isub, r_pf_449, r_istore_2i, r_istore_2r, r_istore_2j, r_goto_w, r_iload_2, r_icmp_gt, r_gf_451, r_aaload, r_iload_1, r_iadd, r_copy, r_iinc_2i, r_iinc_2r, r_iinc_2j, r_goto, r_icmp_ge, r_ial, r_ial30, r_ial32, r_icmp_le, r_dup2, r_iastore, r_iret, r_bret_0, r_bret_1, vB, vn, vc, vc5, ec5, va, ra, m2, ↓reduceIte, not_true_eq_false, not_false_eq_true, Int.reduceEq, Int.reduceLE, Int.reduceLT, Int.reduceAdd, Int.reduceNeg, Int.reduceMul, Int.reduceSub, Int.reduceToNat]
    rw [if_neg (by omega)]
    refine ih _ ⟨f1.tr (zFr.row (by omega) (by omega)), ?_, ⟨(congrFun (zrow_r (by omega)) 0).trans m1.1, (congrFun (zrow_r (by omega)) 1).trans m1.2⟩, fun i hi => (zrow_r (by omega)).trans (e1 i hi), fun i hi z z0 z1 => ?_, fun i hi hi2 => (zrow_r (by omega)).trans (e3 i (by omega) hi2)⟩
    · exact p1.of (congrFun (zrow_r (by omega)) 2) (congrFun (zrow_r (by omega)) 3) (zrow_r (by omega)) (zrow_r (by omega))
    · by_cases e : i = j
      · subst e
        rw [zrow_at, e3 i (by omega) (by omega)]
        by_cases q : z < k
        · rw [if_neg (by omega), if_pos q]
        · rw [if_pos (by omega), if_neg q]
          congr 1
          omega
      · rw [zrow_r (by omega)]
        exact e2 i (by omega) z z0 z1
  · rintro V1 ⟨f1, p1, m1, e1, e2, -⟩
    simp (disch := first | assumption | exact zk_75 | ((repeat (first | exact z1n | refine z1I ?_ | refine z1R ?_)); done) | exact rfl | omega | decide) only [zb_75_1, zb_75_2, r_aload_0, r_dup_i, r_dup_r, r_gf_449, r_iconst, r_isub, r_pf_449, r_istore_2i, r_istore_2r, r_istore_2j, r_goto_w, r_iload_2, r_icmp_gt, r_gf_451, r_aaload, r_iload_1, r_iadd, r_copy, r_iinc_2i, r_iinc_2r, r_iinc_2j, r_goto, r_icmp_ge, r_ial, r_ial30, r_ial32, r_icmp_le, r_dup2, r_iastore, r_iret, r_bret_0, r_bret_1, vB, vn, vc, vc5, ec5, ↓reduceIte, not_true_eq_false, not_false_eq_true, Int.reduceEq, Int.reduceLE, Int.reduceLT, Int.reduceAdd, Int.reduceNeg, Int.reduceMul, Int.reduceSub, Int.reduceToNat]
    have hy := z_iter (i := 0) (n := ρ.c - 1) (I := fun j (q : zV) => zFr a V q ∧ zStP s q a ∧ (q a 0 = zi ρ.n ∧ q a 1 = zi (ρ.c - 1)) ∧ (∀ r, r ≠ a + 17 → q r = V1 r) ∧ ∀ z : Int, 0 ≤ z → z < ρ.c - 1 → q (a + 17) z = if z < j then zi (zAdj k (zLead ρ (if z < k then z else z + 1))) else zi (zLead ρ (if z < k then z else z + 1))) (P := fun j q => zwp (zcall d) 75 Q (zB 75 3) [.ref a, zi k, zi j] [] (s, q)) (by omega)
    refine hy ?_ ?_ V1 ⟨f1, p1, m1, fun r _ => rfl, fun z z0 z1 => ?_⟩
    · rintro j V2 j0 j1 ⟨f2, p2, m2, g1, g2⟩ ih
      have va : V2 a 3 = .ref (a + 11) := p2.2.2.2.2.1
      have ta := p2.2.2.2.2.2.1
      have la := p2.2.2.2.2.2.2.1
      have ra : V2 (a + 11) 5 = .ref (a + 17) := (p2.2.2.2.2.2.2.2.2 5 (by omega)).1
      have m3 := m2.2
      have vj := g2 j j0 j1
      rw [if_neg (by omega)] at vj
      have hlr : -1 ≤ zLead ρ (if j < k then j else j + 1) ∧ zLead ρ (if j < k then j else j + 1) < 24 := by
        have := zLead_rng ρ (k := if j < k then j else j + 1) (by split <;> omega)
        have : (if j < k then j else j + 1) ≤ j + 1 := by split <;> omega
        omega
      generalize hlv : zLead ρ (if j < k then j else j + 1) = lv at vj hlr
      conv => rw [zb_75_3]
      simp (disch := first | assumption | exact zk_75 | ((repeat (first | exact z1n | refine z1I ?_ | refine z1R ?_)); done) | exact rfl | omega | decide) only [zb_75_4, r_aload_0, r_dup_i, r_dup_r, r_gf_449, r_iconst, r_isub, r_pf_449, r_istore_2i, r_istore_2r, r_istore_2j, r_goto_w, r_iload_2, r_icmp_gt, r_gf_451, r_aaload, r_iload_1, r_iadd, r_copy, r_iinc_2i, r_iinc_2r, r_iinc_2j, r_goto, r_icmp_ge, r_ial, r_ial30, r_ial32, r_icmp_le, r_dup2, r_iastore, r_iret, r_bret_0, r_bret_1, vB, vn, vc, vc5, ec5, va, ra, m3, vj, ↓reduceIte, not_true_eq_false, not_false_eq_true, Int.reduceEq, Int.reduceLE, Int.reduceLT, Int.reduceAdd, Int.reduceNeg, Int.reduceMul, Int.reduceSub, Int.reduceToNat]
      rw [if_neg (by omega)]
      by_cases e : lv ≤ k
      · rw [if_pos e]
        refine ih _ ⟨f2, p2, m2, g1, fun z z0 z1 => ?_⟩
        rw [g2 z z0 z1]
        by_cases q : z = j
        · rw [if_neg (show ¬ z < j by omega), if_pos (show z < j + 1 by omega), q, hlv]
          unfold zAdj
          rw [if_neg (by omega)]
        · by_cases q2 : z < j
          · rw [if_pos q2, if_pos (show z < j + 1 by omega)]
          · rw [if_neg q2, if_neg (show ¬ z < j + 1 by omega)]
      · rw [if_neg e]
        refine ih _ ⟨f2.tr (zFr.put (by omega) (by omega)), p2.put (by omega) (by omega), ⟨(zput_r (by omega)).trans m2.1, (zput_r (by omega)).trans m2.2⟩, fun r hr => (zput_row hr).trans (g1 r hr), fun z z0 z1 => ?_⟩
        by_cases q : z = j
        · rw [if_pos (show z < j + 1 by omega), q, zput_at, hlv]
          unfold zAdj
          rw [if_pos (by omega)]
        · rw [zput_i q, g2 z z0 z1]
          by_cases q2 : z < j
          · rw [if_pos q2, if_pos (show z < j + 1 by omega)]
          · rw [if_neg q2, if_neg (show ¬ z < j + 1 by omega)]
    · rintro V2 ⟨f2, p2, m2, g1, g2⟩
      have m3 := m2.2
      simp (disch := first | assumption | exact zk_75 | ((repeat (first | exact z1n | refine z1I ?_ | refine z1R ?_)); done) | exact rfl | omega | decide) only [zb_75_3, zb_75_5, r_aload_0, r_dup_i, r_dup_r, r_gf_449, r_iconst, r_isub, r_pf_449, r_istore_2i, r_istore_2r, r_istore_2j, r_goto_w, r_iload_2, r_icmp_gt, r_gf_451, r_aaload, r_iload_1, r_iadd, r_copy, r_iinc_2i, r_iinc_2r, r_iinc_2j, r_goto, r_icmp_ge, r_ial, r_ial30, r_ial32, r_icmp_le, r_dup2, r_iastore, r_iret, r_bret_0, r_bret_1, vB, vn, vc, vc5, ec5, m3, Int.le_refl, ↓reduceIte, not_true_eq_false, not_false_eq_true, Int.reduceEq, Int.reduceLE, Int.reduceLT, Int.reduceAdd, Int.reduceNeg, Int.reduceMul, Int.reduceSub, Int.reduceToNat]
      have hc1 : (ρ.delK k).c = ρ.c - 1 := rfl
      refine hQ V2 f2 p2 ⟨m2.1, m2.2, fun i hi z z0 z1 => ?_, fun i hi z z0 z1 => ?_, fun z z0 z1 => ?_⟩
      · rw [g1 _ (by omega), e1 i hi]
        exact hC.2.2.1 i hi z z0 z1
      · rw [hc1] at z1
        rw [g1 _ (by omega), e2 i (by omega) z z0 z1, zR.delK_K]
        by_cases q : z < k
        · rw [if_pos q, if_pos q]
          exact hC.2.2.2.1 i hi z z0 (by omega)
        · rw [if_neg q, if_neg q]
          exact hC.2.2.2.1 i hi (z + 1) (by omega) (by omega)
      · rw [hc1] at z1
        rw [g2 z z0 z1, if_pos z1, zLead_delK h1 z0 (fun i i0 i1 => hno i i0 (by omega))]
    · rw [if_neg (by omega), e2 5 (by omega) z z0 z1]
      exact hC.2.2.2.2 _ (by split <;> omega) (by split <;> omega)
end
