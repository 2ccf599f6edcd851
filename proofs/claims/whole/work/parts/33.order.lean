/-! ORDER: the services, each behind those it depends on -/
def zNx (ρ : zR) (dn : Nat) : Int := zfst (fun x => !zin dn x && decide (zdf (zNeeds ρ x) dn = 0)) 0 ρ.n
def zDone (ρ : zR) : Nat → Nat
  | 0 => 0
  | k + 1 => zDone ρ k ||| zone (zNx ρ (zDone ρ k))
def zPlc (ρ : zR) (k : Int) : Int := zNx ρ (zDone ρ k.toNat)
/-- a set with all that its members depend on -/
def zClo (ρ : zR) (dn : Nat) : Prop := ∀ x y, 0 ≤ x → zin dn x = true → zDep ρ x y → zin dn y = true
theorem zNx_ex {ρ : zR} (hW : zWF ρ) {dn : Nat} (hd : dn < 4096) (hn : zct (zin dn) ρ.n < ρ.n) : ∃ x, 0 ≤ x ∧ x < ρ.n ∧ (!zin dn x && decide (zdf (zNeeds ρ x) dn = 0)) = true := by
  obtain ⟨n0, n1, c0, c1⟩ := hW.1
  have h0 : ∃ x, 0 ≤ x ∧ x < ρ.n ∧ zin dn x = false := by
    refine Classical.byContradiction (fun q => ?_)
    have : zct (fun _ => true) ρ.n ≤ zct (zin dn) ρ.n := zct_le n0 (fun x a b _ => by
      cases c : zin dn x
      · exact absurd ⟨x, a, b, c⟩ q
      · rfl)
    have h2 : ∀ n : Nat, zct (fun _ => true) (n : Int) = n := by
      intro n
      induction n with
      | zero => rfl
      | succ n ih => rw [show ((n + 1 : Nat) : Int) = (n : Int) + 1 from rfl, zct_s (by omega), if_pos rfl, ih]
    have h3 := h2 ρ.n.toNat
    rw [Int.toNat_of_nonneg n0] at h3
    omega
  have key : ∀ (m : Nat) (x : Int), 0 ≤ x → x < ρ.n → zin dn x = false → zpop (zNeeds ρ x) ≤ m → ∃ x, 0 ≤ x ∧ x < ρ.n ∧ (!zin dn x && decide (zdf (zNeeds ρ x) dn = 0)) = true := by
    intro m
    induction m with
    | zero =>
      intro x x0 x1 hx hm
      refine ⟨x, x0, x1, ?_⟩
      have e : zNeeds ρ x = 0 := zset_ext (zNeeds_lt hW x) (by decide) (fun y y0 y1 => by
        rw [zin_zero]
        cases c : zin (zNeeds ρ x) y
        · rfl
        · have := zct_lt (p := fun _ => false) (q := zin (zNeeds ρ x)) (k := 12) (y := y) (fun _ _ _ q => by cases q) y0 y1 rfl c
          have h2 := zct_rng (p := fun _ => false) (k := 12) (by omega)
          rw [zpop_ct] at hm
          omega)
      rw [hx, e]
      simp [zdf]
    | succ m ih =>
      intro x x0 x1 hx hm
      by_cases e : zdf (zNeeds ρ x) dn = 0
      · exact ⟨x, x0, x1, by rw [hx, e]; rfl⟩
      · have : ∃ y : Int, 0 ≤ y ∧ y < 12 ∧ zin (zNeeds ρ x) y = true ∧ zin dn y = false := by
          refine Classical.byContradiction (fun q => e ((zdf_zero (zNeeds_lt hW x)).mpr (fun z z0 z1 hz => ?_)))
          cases c : zin dn z
          · exact absurd ⟨z, z0, z1, hz, c⟩ q
          · rfl
        obtain ⟨y, y0, y1, y2, y3⟩ := this
        have hxy := (zNeeds_iff hW x0 x1 y0).mp y2
        have yr := (zDep_rng hW hxy).2
        refine ih y y0 yr.2 y3 ?_
        have hl : zct (zin (zNeeds ρ y)) 12 < zct (zin (zNeeds ρ x)) 12 := zct_lt (fun z z0 z1 hz => (zNeeds_iff hW x0 x1 z0).mpr (hxy.trans ((zNeeds_iff hW y0 yr.2 z0).mp hz))) y0 y1 (by
          cases c : zin (zNeeds ρ y) y
          · rfl
          · exact absurd ((zNeeds_iff hW y0 yr.2 y0).mp c) (hW.2.2.2.1 y)) y2
        rw [zpop_ct] at hm ⊢
        omega
  obtain ⟨x, x0, x1, hx⟩ := h0
  exact key (zpop (zNeeds ρ x)).toNat x x0 x1 hx (by have := zpop_rng (v := zNeeds ρ x); omega)
theorem zNx_is {ρ : zR} (hW : zWF ρ) {dn : Nat} (hd : dn < 4096) (hn : zct (zin dn) ρ.n < ρ.n) : (0 ≤ zNx ρ dn ∧ zNx ρ dn < ρ.n) ∧ zin dn (zNx ρ dn) = false ∧ (∀ y, 0 ≤ y → zDep ρ (zNx ρ dn) y → zin dn y = true) ∧ ∀ j, 0 ≤ j → j < zNx ρ dn → (!zin dn j && decide (zdf (zNeeds ρ j) dn = 0)) = false := by
  obtain ⟨n0, n1, c0, c1⟩ := hW.1
  obtain ⟨a, b, c, d⟩ := zfst_is (fun x => !zin dn x && decide (zdf (zNeeds ρ x) dn = 0)) n0
  obtain ⟨x, x0, x1, hx⟩ := zNx_ex hW hd hn
  have hlt : zNx ρ dn < ρ.n := by
    rcases Int.lt_or_le (zNx ρ dn) ρ.n with e | e
    · exact e
    · have := c x x0 (by unfold zNx at e; omega)
      rw [hx] at this
      cases this
  have hp : (!zin dn (zNx ρ dn) && decide (zdf (zNeeds ρ (zNx ρ dn)) dn = 0)) = true := d hlt
  rw [Bool.and_eq_true] at hp
  have h1 : zin dn (zNx ρ dn) = false := by simpa using hp.1
  have h2 : zdf (zNeeds ρ (zNx ρ dn)) dn = 0 := by simpa using hp.2
  refine ⟨⟨a, hlt⟩, h1, fun y y0 hy => ?_, c⟩
  exact (zdf_zero (zNeeds_lt hW _)).mp h2 y y0 (by have := (zDep_rng hW hy).2; omega) ((zNeeds_iff hW a hlt y0).mpr hy)
/-- the sets on the way -/
theorem zDone_ok {ρ : zR} (hW : zWF ρ) (k : Nat) (hk : (k : Int) ≤ ρ.n) : zDone ρ k < 4096 ∧ (∀ y, 0 ≤ y → zin (zDone ρ k) y = true → y < ρ.n) ∧ zct (zin (zDone ρ k)) ρ.n = k ∧ zClo ρ (zDone ρ k) ∧ ∀ y, 0 ≤ y → (zin (zDone ρ k) y = true ↔ ∃ j : Nat, j < k ∧ zPlc ρ j = y) := by
  obtain ⟨n0, n1, c0, c1⟩ := hW.1
  induction k with
  | zero =>
    refine ⟨by show (0 : Nat) < 4096; omega, fun y _ h => ?_, ?_, fun x y _ h => ?_, fun y y0 => ⟨fun h => ?_, ?_⟩⟩
    · rw [show zDone ρ 0 = 0 from rfl, zin_zero] at h; cases h
    · have h1 := zct_le (p := zin (zDone ρ 0)) (q := fun _ => false) n0 (fun x _ _ h => by rw [show zDone ρ 0 = 0 from rfl, zin_zero] at h; cases h)
      have h2 := zct_rng (p := zin (zDone ρ 0)) n0
      have h3 : ∀ n : Nat, zct (fun _ => false) (n : Int) = 0 := by
        intro n
        induction n with
        | zero => rfl
        | succ n ih => rw [show ((n + 1 : Nat) : Int) = (n : Int) + 1 from rfl, zct_s (by omega), if_neg (by decide), ih]
      have h4 := h3 ρ.n.toNat
      rw [Int.toNat_of_nonneg n0] at h4
      omega
    · rw [show zDone ρ 0 = 0 from rfl, zin_zero] at h; cases h
    · rw [show zDone ρ 0 = 0 from rfl, zin_zero] at h; cases h
    · rintro ⟨j, hj, -⟩; omega
  | succ k ih =>
    obtain ⟨i1, i2, i3, i4, i5⟩ := ih (by omega)
    obtain ⟨⟨a, b⟩, c, e, -⟩ := zNx_is hW i1 (by omega)
    have hat : zPlc ρ (k : Int) = zNx ρ (zDone ρ k) := by unfold zPlc; rw [Int.toNat_natCast]
    have hb : ∀ y, 0 ≤ y → (zin (zDone ρ (k + 1)) y = true ↔ zin (zDone ρ k) y = true ∨ zNx ρ (zDone ρ k) = y) := by
      intro y y0
      show zin (zDone ρ k ||| zone (zNx ρ (zDone ρ k))) y = true ↔ _
      rw [zin_or, Bool.or_eq_true, zone_bit a y0, decide_eq_true_eq]
    refine ⟨zor_lt i1 (zone_lt (by omega)), fun y y0 h => ?_, ?_, fun x y x0 h hy => ?_, fun y y0 => ?_⟩
    · rcases (hb y y0).mp h with q | q
      · exact i2 y y0 q
      · omega
    · have h1 := zct_lt (p := zin (zDone ρ k)) (q := zin (zDone ρ (k + 1))) (k := ρ.n) (fun x x0 _ hx => (hb x x0).mpr (Or.inl hx)) a b c ((hb _ a).mpr (Or.inr rfl))
      have h2 : ∀ n : Nat, (n : Int) ≤ ρ.n → zct (zin (zDone ρ (k + 1))) n ≤ zct (zin (zDone ρ k)) n + (if zNx ρ (zDone ρ k) < n then 1 else 0) := by
        intro n
        induction n with
        | zero => intro _; rw [if_neg (by omega)]; exact Int.le_refl _
        | succ n ihn =>
          intro hn
          have := ihn (by omega)
          rw [show ((n + 1 : Nat) : Int) = (n : Int) + 1 from rfl, zct_s (by omega), zct_s (by omega)]
          by_cases q : zNx ρ (zDone ρ k) = n
          · rw [if_pos (show zNx ρ (zDone ρ k) < (n : Int) + 1 by omega)]
            rw [if_neg (show ¬ zNx ρ (zDone ρ k) < (n : Int) by omega)] at this
            split <;> split <;> omega
          · have hsame : zin (zDone ρ (k + 1)) (n : Int) = zin (zDone ρ k) (n : Int) := by
              rw [Bool.eq_iff_iff, hb n (by omega)]
              exact ⟨fun h => h.elim id (fun h => absurd h q), Or.inl⟩
            rw [hsame]
            by_cases q2 : zNx ρ (zDone ρ k) < n
            · rw [if_pos q2] at this
              rw [if_pos (show zNx ρ (zDone ρ k) < (n : Int) + 1 by omega)]
              split <;> omega
            · rw [if_neg q2] at this
              rw [if_neg (show ¬ zNx ρ (zDone ρ k) < (n : Int) + 1 by omega)]
              split <;> omega
      have h3 := h2 ρ.n.toNat (by omega)
      rw [Int.toNat_of_nonneg n0, if_pos b] at h3
      omega
    · have yr := (zDep_rng hW hy).2
      rcases (hb x x0).mp h with q | q
      · exact (hb y yr.1).mpr (Or.inl (i4 x y x0 q hy))
      · rw [← q] at hy
        exact (hb y yr.1).mpr (Or.inl (e y yr.1 hy))
    · rw [hb y y0, i5 y y0]
      constructor
      · rintro (⟨j, j1, j2⟩ | q)
        · exact ⟨j, by omega, j2⟩
        · exact ⟨k, by omega, by rw [hat]; exact q⟩
      · rintro ⟨j, j1, j2⟩
        by_cases q : j = k
        · subst q; exact Or.inr (by rw [← hat]; exact j2)
        · exact Or.inl ⟨j, by omega, j2⟩
/-- place by place -/
theorem zPlc_ok {ρ : zR} (hW : zWF ρ) {k : Int} (k0 : 0 ≤ k) (k1 : k < ρ.n) : (0 ≤ zPlc ρ k ∧ zPlc ρ k < ρ.n) ∧ zin (zDone ρ k.toNat) (zPlc ρ k) = false ∧ (∀ y, 0 ≤ y → zDep ρ (zPlc ρ k) y → zin (zDone ρ k.toNat) y = true) ∧ ∀ j, 0 ≤ j → j < zPlc ρ k → (!zin (zDone ρ k.toNat) j && decide (zdf (zNeeds ρ j) (zDone ρ k.toNat) = 0)) = false := by
  obtain ⟨i1, i2, i3, i4, i5⟩ := zDone_ok hW k.toNat (by omega)
  exact zNx_is hW i1 (by omega)
