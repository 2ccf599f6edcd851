/-! NEEDS: what a service depends on -/
def zct (p : Int → Bool) (k : Int) : Int := zfo (fun x m => if p x = true then m + 1 else m) 0 k
theorem zct_s {p : Int → Bool} {k : Int} (h : 0 ≤ k) : zct p (k + 1) = if p k = true then zct p k + 1 else zct p k := zfo_s h
theorem zct_le {p q : Int → Bool} {k : Int} (hk : 0 ≤ k) (h : ∀ x, 0 ≤ x → x < k → p x = true → q x = true) : zct p k ≤ zct q k := by
  have : ∀ n : Nat, (n : Int) ≤ k → zct p n ≤ zct q n := by
    intro n
    induction n with
    | zero => intro _; exact Int.le_refl _
    | succ n ih =>
      intro hn
      have i := ih (by omega)
      have hs := h n (by omega) (by omega)
      rw [show ((n + 1 : Nat) : Int) = (n : Int) + 1 from rfl, zct_s (by omega), zct_s (by omega)]
      by_cases c : p n = true
      · rw [if_pos c, if_pos (hs c)]; omega
      · rw [if_neg c]; split <;> omega
  have := this k.toNat (by omega)
  rwa [Int.toNat_of_nonneg hk] at this
theorem zct_lt {p q : Int → Bool} {k y : Int} (h : ∀ x, 0 ≤ x → x < k → p x = true → q x = true) (y0 : 0 ≤ y) (y1 : y < k) (hp : p y = false) (hq : q y = true) : zct p k < zct q k := by
  have : ∀ n : Nat, y < (n : Int) → (n : Int) ≤ k → zct p n < zct q n := by
    intro n
    induction n with
    | zero => intro h0; omega
    | succ n ih =>
      intro hy hn
      have hs := h n (by omega) (by omega)
      rw [show ((n + 1 : Nat) : Int) = (n : Int) + 1 from rfl, zct_s (by omega), zct_s (by omega)]
      by_cases e : y = n
      · subst e
        rw [hp, hq, if_neg (by decide), if_pos rfl]
        have := zct_le (p := p) (q := q) (k := (n : Int)) (by omega) (fun x a b => h x a (by omega))
        omega
      · have i := ih (by omega) (by omega)
        by_cases c : p n = true
        · rw [if_pos c, if_pos (hs c)]; omega
        · rw [if_neg c]; split <;> omega
  have := this k.toNat (by omega) (by omega)
  rwa [Int.toNat_of_nonneg (by omega)] at this
theorem zct_rng {p : Int → Bool} {k : Int} (hk : 0 ≤ k) : 0 ≤ zct p k ∧ zct p k ≤ k := by
  refine zfo_inv (fun j m => 0 ≤ m ∧ m ≤ j) ⟨by omega, by omega⟩ (fun j y h1 h2 hy => ?_) hk
  try dsimp only
  split <;> omega
/-- what is false from n on isn't counted there -/
theorem zct_cut {p : Int → Bool} {n k : Int} (n0 : 0 ≤ n) (hk : n ≤ k) (h : ∀ x, n ≤ x → x < k → p x = false) : zct p k = zct p n := by
  have : ∀ m : Nat, n + m ≤ k → zct p (n + m) = zct p n := by
    intro m
    induction m with
    | zero => intro _; rw [show n + ((0 : Nat) : Int) = n by omega]
    | succ m ih =>
      intro hm
      rw [show n + ((m + 1 : Nat) : Int) = n + m + 1 by omega, zct_s (by omega), h (n + m) (by omega) (by omega), if_neg (by decide)]
      exact ih (by omega)
  have := this (k - n).toNat (by omega)
  rwa [show n + ((k - n).toNat : Int) = k by omega] at this
theorem zct_all {p : Int → Bool} {n : Int} (h : n ≤ zct p n) : ∀ y, 0 ≤ y → y < n → p y = true := by
  intro y y0 y1
  cases e : p y
  · have h1 := zct_lt (p := p) (q := fun _ => true) (k := n) (y := y) (fun _ _ _ _ => rfl) y0 y1 e rfl
    have h2 := zct_rng (p := fun _ => true) (k := n) (by omega)
    omega
  · rfl
theorem zpop_ct (v : Nat) : zpop v = zct (zin v) 12 := rfl
theorem zpop_ms {p : Int → Bool} {n : Int} (n0 : 0 ≤ n) (n1 : n ≤ 12) : zpop (zms p n) = zct p n := by
  have e : zct (zin (zms p n)) 12 = zct (zin (zms p n)) n := zct_cut n0 n1 (fun x h1 h2 => by
    cases c : zin (zms p n) x
    · rfl
    · have := (zms_bit n0 (by omega)).mp c; omega)
  rw [zpop_ct, e]
  refine Int.le_antisymm (zct_le n0 (fun x a b c => ((zms_bit n0 a).mp c).2)) (zct_le n0 (fun x a b c => (zms_bit n0 a).mpr ⟨b, c⟩))
/-- the ones that are up -/
theorem zups_eq {ρ : zR} (hW : zWF ρ) : zfo (fun x m => m + ρ.S 6 x) 0 ρ.n = ρ.n - zpop (zDown ρ) := by
  obtain ⟨n0, n1, c0, c1⟩ := hW.1
  unfold zDown
  rw [zpop_ms n0 n1]
  have : ∀ n : Nat, (n : Int) ≤ ρ.n → zfo (fun x m => m + ρ.S 6 x) 0 (n : Int) = n - zct (fun x => decide (ρ.S 6 x ≠ 1)) n := by
    intro n
    induction n with
    | zero => intro _; rfl
    | succ n ih =>
      intro hn
      have w := (hW.2.1 n (by omega) (by omega)).2.2.2.2.2.2.1
      rw [show ((n + 1 : Nat) : Int) = (n : Int) + 1 from rfl, zfo_s (by omega), zct_s (by omega), ih (by omega)]
      by_cases e : ρ.S 6 n = 1
      · rw [if_neg (by simpa using e)]; omega
      · rw [if_pos (by simpa using e)]; omega
  have := this ρ.n.toNat (by omega)
  rwa [Int.toNat_of_nonneg n0] at this
theorem zCal_bit {ρ : zR} (hW : zWF ρ) {v : Nat} {y : Int} (y0 : 0 ≤ y) : zin (zCal ρ v ρ.c) y = true ↔ ∃ k, 0 ≤ k ∧ k < ρ.c ∧ zin v (ρ.K 0 k) = true ∧ ρ.K 1 k = y := by
  have : ∀ n : Nat, (n : Int) ≤ ρ.c → (zin (zCal ρ v n) y = true ↔ ∃ k, 0 ≤ k ∧ k < (n : Int) ∧ zin v (ρ.K 0 k) = true ∧ ρ.K 1 k = y) := by
    intro n
    induction n with
    | zero =>
      intro _
      rw [show zCal ρ v ((0 : Nat) : Int) = 0 from rfl, zin_zero]
      constructor
      · intro h; cases h
      · rintro ⟨k, a, b, -⟩; omega
    | succ n ih =>
      intro hn
      have w := (hW.2.2.1 n (by omega) (by omega)).2.1
      have hs : zCal ρ v ((n : Int) + 1) = if zin v (ρ.K 0 n) = true then zCal ρ v n ||| zone (ρ.K 1 n) else zCal ρ v n := zfo_s (by omega)
      rw [show ((n + 1 : Nat) : Int) = (n : Int) + 1 from rfl, hs]
      by_cases c : zin v (ρ.K 0 n) = true
      · rw [if_pos c, zin_or, Bool.or_eq_true, ih (by omega), zone_bit w.1 y0, decide_eq_true_eq]
        constructor
        · rintro (⟨k, a, b, c1, c2⟩ | h)
          · exact ⟨k, a, by omega, c1, c2⟩
          · exact ⟨n, by omega, by omega, c, h⟩
        · rintro ⟨k, a, b, c1, c2⟩
          by_cases e : k = n
          · subst e; exact Or.inr c2
          · exact Or.inl ⟨k, a, by omega, c1, c2⟩
      · rw [if_neg c, ih (by omega)]
        constructor
        · rintro ⟨k, a, b, c1, c2⟩; exact ⟨k, a, by omega, c1, c2⟩
        · rintro ⟨k, a, b, c1, c2⟩
          by_cases e : k = n
          · subst e; exact absurd c1 c
          · exact ⟨k, a, by omega, c1, c2⟩
  have := this ρ.c.toNat (by have := hW.1; omega)
  rwa [Int.toNat_of_nonneg (by have := hW.1; omega)] at this
theorem zDep_rng {ρ : zR} (hW : zWF ρ) {x y : Int} (h : zDep ρ x y) : (0 ≤ x ∧ x < ρ.n) ∧ 0 ≤ y ∧ y < ρ.n := by
  have he : ∀ a b, zEd ρ a b → (0 ≤ a ∧ a < ρ.n) ∧ 0 ≤ b ∧ b < ρ.n := by
    rintro a b ⟨k, k0, k1, rfl, rfl⟩
    have w := hW.2.2.1 k k0 k1
    exact ⟨w.1, w.2.1⟩
  induction h with
  | single h => exact he _ _ h
  | tail _ h ih => exact ⟨ih.1, (he _ _ h).2⟩
/-- a set that holds the callees of x, and of all that it holds, holds all that x depends on -/
theorem zDep_in {ρ : zR} {x : Int} (p : Int → Prop) (h1 : ∀ y, zEd ρ x y → p y) (h2 : ∀ a y, p a → zEd ρ a y → p y) {y : Int} (h : zDep ρ x y) : p y := by
  induction h with
  | single h => exact h1 _ h
  | tail _ h ih => exact h2 _ _ ih h
theorem zNd_ok {ρ : zR} (hW : zWF ρ) {x : Int} (x0 : 0 ≤ x) (x1 : x < ρ.n) : ∀ (k cs nd : Nat), cs < 4096 → nd < 4096 → (∀ y, 0 ≤ y → (zin cs y = true ↔ y = x ∨ zin nd y = true)) → (∀ y, 0 ≤ y → zin nd y = true → zDep ρ x y) → ρ.n ≤ zpop nd + k → ∀ y, 0 ≤ y → (zin (zNd ρ k cs nd) y = true ↔ zDep ρ x y) := by
  obtain ⟨n0, n1, c0, c1⟩ := hW.1
  intro k
  induction k with
  | zero =>
    intro cs nd hcs hnd hc hs hn y y0
    refine ⟨hs y y0, fun h => ?_⟩
    have hr := (zDep_rng hW h).2
    have e : zpop nd = zct (zin nd) ρ.n := by
      rw [zpop_ct]
      refine zct_cut n0 n1 (fun z a b => ?_)
      cases q : zin nd z
      · rfl
      · have := (zDep_rng hW (hs z (by omega) q)).2; omega
    exact zct_all (p := zin nd) (n := ρ.n) (by rw [← e]; omega) y hr.1 hr.2
  | succ k ih =>
    intro cs nd hcs hnd hc hs hn y y0
    have hl := zCal_lt hW cs c0 (Int.le_refl _)
    have hb : ∀ z, 0 ≤ z → zin (zCal ρ cs ρ.c) z = true → zDep ρ x z := by
      intro z z0 hz
      obtain ⟨j, j0, j1, j2, j3⟩ := (zCal_bit hW z0).mp hz
      have w := hW.2.2.1 j j0 j1
      rcases (hc _ w.1.1).mp j2 with q | q
      · exact Relation.TransGen.single ⟨j, j0, j1, q, j3⟩
      · exact Relation.TransGen.tail (hs _ w.1.1 q) ⟨j, j0, j1, rfl, j3⟩
    show zin (if zdf (zCal ρ cs ρ.c) nd = 0 then nd else zNd ρ k (cs ||| zCal ρ cs ρ.c) (nd ||| zCal ρ cs ρ.c)) y = true ↔ _
    by_cases e : zdf (zCal ρ cs ρ.c) nd = 0
    · rw [if_pos e]
      refine ⟨hs y y0, fun h => ?_⟩
      have hsub := (zdf_zero hl).mp e
      have step : ∀ a b, zin cs a = true → zEd ρ a b → 0 ≤ b ∧ zin nd b = true := by
        rintro a b ha ⟨j, j0, j1, rfl, rfl⟩
        have w := hW.2.2.1 j j0 j1
        exact ⟨w.2.1.1, hsub _ w.2.1.1 (by omega) ((zCal_bit hW w.2.1.1).mpr ⟨j, j0, j1, ha, rfl⟩)⟩
      exact (zDep_in (fun z => 0 ≤ z ∧ zin nd z = true) (fun z hz => step x z ((hc x x0).mpr (Or.inl rfl)) hz) (fun a z ha hz => step a z ((hc a ha.1).mpr (Or.inr ha.2)) hz) h).2
    · rw [if_neg e]
      refine ih _ _ (zor_lt hcs hl) (zor_lt hnd hl) (fun z z0 => ?_) (fun z z0 hz => ?_) ?_ y y0
      · rw [zin_or, zin_or, Bool.or_eq_true, Bool.or_eq_true, hc z z0]
        constructor
        · rintro ((h | h) | h)
          · exact Or.inl h
          · exact Or.inr (Or.inl h)
          · exact Or.inr (Or.inr h)
        · rintro (h | h | h)
          · exact Or.inl (Or.inl h)
          · exact Or.inl (Or.inr h)
          · exact Or.inr h
      · rw [zin_or, Bool.or_eq_true] at hz
        rcases hz with hz | hz
        · exact hs z z0 hz
        · exact hb z z0 hz
      · have hne : ∃ z : Int, 0 ≤ z ∧ z < 12 ∧ zin (zCal ρ cs ρ.c) z = true ∧ zin nd z = false := by
          refine Classical.byContradiction (fun q => e ((zdf_zero hl).mpr (fun z z0 z1 hz => ?_)))
          cases c : zin nd z
          · exact absurd ⟨z, z0, z1, hz, c⟩ q
          · rfl
        obtain ⟨z, z0, z1, z2, z3⟩ := hne
        have := zct_lt (p := zin nd) (q := zin (nd ||| zCal ρ cs ρ.c)) (k := 12) (y := z) (fun t _ _ ht => by rw [zin_or, ht]; rfl) z0 z1 z3 (by rw [zin_or, z2, Bool.or_true])
        rw [zpop_ct] at hn ⊢
        omega
theorem zNeeds_iff {ρ : zR} (hW : zWF ρ) {x y : Int} (x0 : 0 ≤ x) (x1 : x < ρ.n) (y0 : 0 ≤ y) : zin (zNeeds ρ x) y = true ↔ zDep ρ x y := by
  obtain ⟨n0, n1, c0, c1⟩ := hW.1
  refine zNd_ok hW x0 x1 _ _ _ (zone_lt (by omega)) (by decide) (fun z z0 => ?_) (fun z z0 hz => by rw [zin_zero] at hz; cases hz) ?_ y y0
  · rw [zone_bit x0 z0, decide_eq_true_eq, zin_zero]
    constructor
    · exact fun h => Or.inl h.symm
    · rintro (h | h)
      · exact h.symm
      · cases h
  · have : zpop 0 = 0 := by decide
    omega
