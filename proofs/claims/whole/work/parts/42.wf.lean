/-! WELL-FORMED: what every change keeps -/
theorem zHd_none {ρ : zR} {x : Int} : ∀ {j : Nat}, zHd ρ x j = -1 → ∀ i, 0 ≤ i → i < (j : Int) → ¬ (ρ.K 0 i = x ∧ ρ.K 4 i ≠ 2) := by
  intro j
  induction j with
  | zero => intro _ i i0 i1; omega
  | succ j ih =>
    intro h i i0 i1
    rw [zHd_s] at h
    by_cases c : ρ.K 0 j = x ∧ ρ.K 4 j ≠ 2
    · rw [if_pos c] at h; omega
    · rw [if_neg c] at h
      by_cases e : i = j
      · rw [e]; exact c
      · exact ih h i i0 (by omega)
theorem zCnt_zero {ρ : zR} (hc : 0 ≤ ρ.c) {x : Int} : zCnt ρ x = 0 ↔ ∀ k, 0 ≤ k → k < ρ.c → ρ.K 0 k ≠ x := by
  have hz : zCnt ρ x = zct (fun k => decide (ρ.K 0 k = x)) ρ.c := by
    unfold zCnt zct
    exact zfo_congr hc (fun j y _ _ => by simp)
  rw [hz]
  constructor
  · intro h k k0 k1 hk
    have h1 := zct_lt (p := fun _ => false) (q := fun k => decide (ρ.K 0 k = x)) (k := ρ.c) (fun _ _ _ q => by cases q) k0 k1 rfl (by simpa using hk)
    have h2 := zct_rng (p := fun _ => false) hc
    omega
  · intro h
    have h1 := zct_le (p := fun k => decide (ρ.K 0 k = x)) (q := fun _ => false) hc (fun k k0 k1 q => absurd (by simpa using q) (h k k0 k1))
    have h2 := zct_rng (p := fun k => decide (ρ.K 0 k = x)) hc
    have h3 : ∀ n : Nat, zct (fun _ => false) (n : Int) = 0 := by
      intro n
      induction n with
      | zero => rfl
      | succ n ih => rw [show ((n + 1 : Nat) : Int) = (n : Int) + 1 from rfl, zct_s (by omega), if_neg (by decide), ih]
    have h4 := h3 ρ.c.toNat
    rw [Int.toNat_of_nonneg hc] at h4
    omega
theorem zHd_cnt {ρ : zR} (hW : zWF ρ) {x : Int} : zHd ρ x ρ.c.toNat = -1 ↔ zCnt ρ x = 0 := by
  have hc := hW.1.2.2.1
  rw [zCnt_zero hc]
  constructor
  · intro h k k0 k1 hk
    have hn := zHd_none h
    by_cases q : ρ.K 4 k = 2
    · have h0 := hW.2.2.2.2 k k0 k1 q
      rw [hk] at h0
      have h1 := zHd_is h0
      have h2 := zHd_rng ρ x k.toNat
      exact hn _ h0 (by omega) h1.1
    · exact hn k k0 (by omega) ⟨hk, q⟩
  · intro h
    have h2 := zHd_rng ρ x ρ.c.toNat
    rcases Int.lt_or_le (zHd ρ x ρ.c.toNat) 0 with c | c
    · omega
    · exact absurd (zHd_is c).1.1 (h _ c (by omega))
theorem zWF.addS {ρ : zR} (hW : zWF ρ) (hn : ρ.n < 12) {x : Int} (x0 : 1 ≤ x) (x1 : x ≤ 100) : zWF (ρ.addS x) := by
  obtain ⟨w1, w2, w3, w4, w5⟩ := hW
  have hK : (ρ.addS x).K = ρ.K := rfl
  have hc : (ρ.addS x).c = ρ.c := rfl
  have hn1 : (ρ.addS x).n = ρ.n + 1 := rfl
  refine ⟨by rw [hc, hn1]; omega, fun y y0 y1 => ?_, fun k k0 k1 => ?_, by rw [zDep_K hK hc]; exact w4, fun k k0 k1 => ?_⟩
  · have hS : ∀ w : Int, (ρ.addS x).S w y = if y = ρ.n then (if w = 0 then x else if w = 1 then 100 else if w = 2 then 2 else if w = 3 then 3 else if w = 4 then 1 else if w = 5 then 990 else if w = 6 then 1 else if w = 7 then 0 else -1) else ρ.S w y := fun _ => rfl
    simp only [hS]
    by_cases e : y = ρ.n
    · simp [e]; omega
    · simp only [if_neg e]
      rw [hn1] at y1
      exact w2 y y0 (by omega)
  · rw [hK, hn1]
    have := w3 k k0 k1
    omega
  · rw [hK, zHd_K hK]
    exact w5 k k0 k1
/-- a call more makes no circle -/
theorem zDep_add {ρ σ : zR} {x y : Int} (h : ∀ a b, zEd σ a b → zEd ρ a b ∨ (a = x ∧ b = y)) (hxy : x ≠ y) (hn : ¬ zDep ρ y x) {a b : Int} (hd : zDep σ a b) : zDep ρ a b ∨ ((a = x ∨ zDep ρ a x) ∧ (y = b ∨ zDep ρ y b)) := by
  induction hd with
  | single e =>
    rcases h _ _ e with e | ⟨rfl, rfl⟩
    · exact Or.inl (Relation.TransGen.single e)
    · exact Or.inr ⟨Or.inl rfl, Or.inl rfl⟩
  | tail _ e ih =>
    rcases h _ _ e with e | ⟨rfl, rfl⟩
    · rcases ih with ih | ⟨i1, i2⟩
      · exact Or.inl (Relation.TransGen.tail ih e)
      · refine Or.inr ⟨i1, Or.inr ?_⟩
        rcases i2 with rfl | i2
        · exact Relation.TransGen.single e
        · exact Relation.TransGen.tail i2 e
    · rcases ih with ih | ⟨i1, i2⟩
      · exact Or.inr ⟨Or.inr ih, Or.inl rfl⟩
      · rcases i2 with i2 | i2
        · exact absurd i2.symm hxy
        · exact absurd i2 hn
theorem zWF.addK {ρ : zR} (hW : zWF ρ) (hc : ρ.c < 24) {x y l t k : Int} (hx : 0 ≤ x ∧ x < ρ.n) (hy : 0 ≤ y ∧ y < ρ.n) (hl : 1 ≤ l ∧ l ≤ 500) (ht : 1 ≤ t ∧ t ≤ 3) (hk : 0 ≤ k ∧ k ≤ 2) (hxy : x ≠ y) (hn : zin (zNeeds ρ y) x = false) (hh : k = 2 → zHd ρ x ρ.c.toNat ≠ -1) : zWF (ρ.addK x y l t k) := by
  have hno : ¬ zDep ρ y x := fun q => by rw [(zNeeds_iff hW hy.1 hy.2 hx.1).mpr q] at hn; cases hn
  obtain ⟨w1, w2, w3, w4, w5⟩ := hW
  have hc1 : (ρ.addK x y l t k).c = ρ.c + 1 := rfl
  have hn1 : (ρ.addK x y l t k).n = ρ.n := rfl
  refine ⟨by rw [hc1, hn1]; omega, w2, fun j j0 j1 => ?_, fun z hz => ?_, fun j j0 j1 hj => ?_⟩
  · rw [hc1] at j1
    rw [hn1]
    simp only [zR.addK_K]
    by_cases e : j = ρ.c
    · simp [e]; omega
    · simp only [if_neg e]
      exact w3 j j0 (by omega)
  · have he : ∀ a b, zEd (ρ.addK x y l t k) a b → zEd ρ a b ∨ (a = x ∧ b = y) := by
      rintro a b ⟨j, j0, j1, j2, j3⟩
      rw [hc1] at j1
      rw [zR.addK_K] at j2 j3
      by_cases e : j = ρ.c
      · rw [if_pos e] at j2 j3
        exact Or.inr ⟨by simpa using j2.symm, by simpa using j3.symm⟩
      · rw [if_neg e] at j2 j3
        exact Or.inl ⟨j, j0, by omega, j2, j3⟩
    rcases zDep_add he hxy hno hz with q | ⟨q1, q2⟩
    · exact w4 z q
    · rcases q1 with q1 | q1 <;> rcases q2 with q2 | q2
      · exact hxy (by rw [← q1, q2])
      · rw [q1] at q2; exact hno q2
      · rw [← q2] at q1; exact hno q1
      · exact hno (q2.trans q1)
  · rw [hc1] at j1
    rw [zHd_addK (by omega), zR.addK_K]
    rw [zR.addK_K] at hj
    by_cases e : j = ρ.c
    · rw [if_pos e] at hj ⊢
      have hk2 : k = 2 := by simpa using hj
      have := hh hk2
      have hr := zHd_rng ρ x ρ.c.toNat
      rw [e]
      simp
      omega
    · rw [if_neg e] at hj ⊢
      exact w5 j j0 (by omega) hj
theorem zWF.delK {ρ : zR} (hW : zWF ρ) {k : Int} (k0 : 0 ≤ k) (k1 : k < ρ.c) (hno : ∀ j, 0 ≤ j → j < ρ.c → zLead ρ j ≠ k) : zWF (ρ.delK k) := by
  obtain ⟨w1, w2, w3, w4, w5⟩ := hW
  have hc1 : (ρ.delK k).c = ρ.c - 1 := rfl
  have hn1 : (ρ.delK k).n = ρ.n := rfl
  refine ⟨by rw [hc1, hn1]; omega, w2, fun j j0 j1 => ?_, fun z hz => ?_, fun j j0 j1 hj => ?_⟩
  · rw [hc1] at j1
    rw [hn1]
    simp only [zR.delK_K]
    by_cases e : j < k
    · simp only [if_pos e]
      exact w3 j j0 (by omega)
    · simp only [if_neg e]
      exact w3 (j + 1) (by omega) (by omega)
  · have he : ∀ a b, zEd (ρ.delK k) a b → zEd ρ a b := by
      rintro a b ⟨j, j0, j1, j2, j3⟩
      rw [hc1] at j1
      rw [zR.delK_K] at j2 j3
      by_cases e : j < k
      · rw [if_pos e] at j2 j3
        exact ⟨j, j0, by omega, j2, j3⟩
      · rw [if_neg e] at j2 j3
        exact ⟨j + 1, by omega, by omega, j2, j3⟩
    have : ∀ a b, zDep (ρ.delK k) a b → zDep ρ a b := by
      intro a b hab
      induction hab with
      | single e => exact Relation.TransGen.single (he _ _ e)
      | tail _ e ih => exact Relation.TransGen.tail ih (he _ _ e)
    exact w4 z (this z z hz)
  · rw [hc1] at j1
    have hl := zLead_delK k0 j0 (fun i i0 i1 => hno i i0 (by omega))
    have hk4 : (ρ.delK k).K 4 j = ρ.K 4 (if j < k then j else j + 1) := by rw [zR.delK_K]; split <;> rfl
    rw [hk4] at hj
    have e2 : zLead (ρ.delK k) j = zHd (ρ.delK k) ((ρ.delK k).K 0 j) j.toNat := by
      unfold zLead
      rw [hk4, if_pos hj]
    rw [← e2, hl]
    generalize hi : (if j < k then j else j + 1) = i at hj
    have i0 : 0 ≤ i ∧ i < ρ.c := by rw [← hi]; split <;> omega
    have h5 := w5 i i0.1 i0.2 hj
    have e3 : zLead ρ i = zHd ρ (ρ.K 0 i) i.toNat := by unfold zLead; rw [if_pos hj]
    rw [e3]
    unfold zAdj
    split <;> omega
theorem zWF.sK2 {ρ : zR} (hW : zWF ρ) {k v : Int} (v0 : 1 ≤ v) (v1 : v ≤ 500) : zWF (ρ.sK 2 k v) := by
  obtain ⟨w1, w2, w3, w4, w5⟩ := hW
  have hK : ∀ w j : Int, w ≠ 2 → (ρ.sK 2 k v).K w j = ρ.K w j := fun w j hw => by rw [zR.sK_K, if_neg (by omega)]
  have hd : zDep (ρ.sK 2 k v) = zDep ρ := by
    have : zEd (ρ.sK 2 k v) = zEd ρ := by
      funext x y
      unfold zEd
      simp only [hK 0 _ (by omega), hK 1 _ (by omega)]
      rfl
    unfold zDep
    rw [this]
  refine ⟨w1, w2, fun j j0 j1 => ?_, by rw [hd]; exact w4, fun j j0 j1 hj => ?_⟩
  · have hn1 : (ρ.sK 2 k v).n = ρ.n := rfl
    have := w3 j j0 j1
    rw [hn1, hK 0 j (by omega), hK 1 j (by omega), hK 3 j (by omega), hK 4 j (by omega)]
    refine ⟨this.1, this.2.1, ?_, this.2.2.2⟩
    rw [zR.sK_K]
    split
    · exact ⟨v0, v1⟩
    · exact this.2.2.1
  · rw [hK 4 j (by omega)] at hj
    rw [hK 0 j (by omega), zHd_congr (σ := ρ) (fun i _ _ => by rw [hK 0 i (by omega), hK 4 i (by omega)]; exact ⟨rfl, Iff.rfl⟩)]
    exact w5 j j0 j1 hj
theorem zWF.sS {ρ : zR} (hW : zWF ρ) {w x v : Int} (w0 : 0 ≤ w) (w1 : w ≤ 5) (v0 : zLeast w ≤ v) (v1 : v ≤ zMost w) : zWF (ρ.sS w x v) := by
  obtain ⟨q1, q2, q3, q4, q5⟩ := hW
  have hK : (ρ.sS w x v).K = ρ.K := rfl
  refine ⟨q1, fun y y0 y1 => ?_, q3, by rw [zDep_K hK rfl]; exact q4, fun k k0 k1 => by rw [hK, zHd_K hK]; exact q5 k k0 k1⟩
  have h := q2 y y0 y1
  simp only [zR.sS_S]
  by_cases e : y = x
  · rcases (by omega : w = 0 ∨ w = 1 ∨ w = 2 ∨ w = 3 ∨ w = 4 ∨ w = 5) with rfl | rfl | rfl | rfl | rfl | rfl <;> simp [e, zLeast, zMost] at v0 v1 ⊢ <;> rw [e] at h <;> omega
  · simp only [e, and_false, if_false]
    exact h
theorem zWF.gd {ρ : zR} (hW : zWF ρ) {x : Int} : zWF (zGd ρ x) := by
  refine hW.same zSame.gd (fun y y0 y1 => ?_)
  have h := (hW.2.1 y y0 y1).2.2.2.2.2.2
  unfold zRg zGd
  simp only [zR.sS_S]
  by_cases e : y = x
  · simp [e]
  · simp only [e, and_false, if_false]
    exact h
theorem zWF.rep {ρ : zR} (hW : zWF ρ) {x : Int} (x0 : 0 ≤ x) (x1 : x < ρ.n) : zWF (ρ.sS 8 x (ρ.S 3 x)) := by
  refine hW.same (zSame.sS (by omega)) (fun y y0 y1 => ?_)
  have h := (hW.2.1 y y0 y1).2.2.2.2.2.2
  have h3 := (hW.2.1 x x0 x1).2.2.2.1
  unfold zRg
  simp only [zR.sS_S]
  by_cases e : y = x
  · simp [e]
    rw [e] at h
    omega
  · simp only [e, and_false, if_false]
    exact h
