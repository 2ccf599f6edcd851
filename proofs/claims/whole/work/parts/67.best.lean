/-! BEST ORDER, 1: the pure side -/
def zYt (ρ : zR) (u : Nat) : Int := zfo (fun x t => t + (if zin u x = true then ρ.S 3 x else 0)) 0 ρ.n
def zYc (ρ : zR) (u : Nat) (x : Int) : Bool := zin (zdf (zDown ρ) u) x && decide (zdf (zNeeds ρ x &&& zDown ρ) u = 0)
def zYk (ρ : zR) (R : Nat → Int) (u : Nat) (x : Int) : Int := if zYc ρ u x = true then ρ.S 4 x * (zYt ρ u + ρ.S 3 x) + R (u ||| zone x) else 100000000
def zMf (g : Int → Int) (m0 : Int) (k : Int) : Int := zfo (fun x b => if g x < b then g x else b) m0 k
def zYb (ρ : zR) (R : Nat → Int) (u : Nat) : Int := zMf (zYk ρ R u) (if u = zDown ρ then 0 else 100000000) ρ.n
def zYf (ρ : zR) : Nat → Nat → Int
  | 0, _ => 0
  | f + 1, u => zYb ρ (zYf ρ f) u
/-- by the set of those that are finished, the least cost of the rest -/
def zYr (ρ : zR) (u : Nat) : Int := zYf ρ 4096 u
def zYq (ρ : zR) (u : Nat) (x : Int) : Int := zYk ρ (zYr ρ) u x
theorem zMf_is {g : Int → Int} {m0 k : Int} (hk : 0 ≤ k) : zMf g m0 k ≤ m0 ∧ (∀ x, 0 ≤ x → x < k → zMf g m0 k ≤ g x) ∧ (zMf g m0 k = m0 ∨ ∃ x, 0 ≤ x ∧ x < k ∧ zMf g m0 k = g x) := by
  unfold zMf
  refine zfo_inv (fun j m => m ≤ m0 ∧ (∀ x, 0 ≤ x → x < j → m ≤ g x) ∧ (m = m0 ∨ ∃ x, 0 ≤ x ∧ x < j ∧ m = g x)) ⟨Int.le_refl _, fun x _ _ => by omega, Or.inl rfl⟩ (fun j y j0 j1 h => ?_) hk
  obtain ⟨a, b, c⟩ := h
  split
  · rename_i q
    refine ⟨by omega, fun x x0 x1 => ?_, Or.inr ⟨j, j0, by omega, rfl⟩⟩
    by_cases e : x = j
    · rw [e]; exact Int.le_refl _
    · have := b x x0 (by omega); omega
  · rename_i q
    refine ⟨a, fun x x0 x1 => ?_, ?_⟩
    · by_cases e : x = j
      · rw [e]; omega
      · exact b x x0 (by omega)
    · rcases c with c | ⟨x, x0, x1, hx⟩
      · exact Or.inl c
      · exact Or.inr ⟨x, x0, by omega, hx⟩
theorem zYc_in {ρ : zR} {u : Nat} {x : Int} (h : zYc ρ u x = true) : zin (zDown ρ) x = true ∧ zin u x = false ∧ zdf (zNeeds ρ x &&& zDown ρ) u = 0 := by
  unfold zYc at h
  rw [Bool.and_eq_true, zin_df, Bool.and_eq_true, Bool.not_eq_true'] at h
  exact ⟨h.1.1, h.1.2, of_decide_eq_true h.2⟩
theorem zup_lt {u : Nat} {x : Int} (x0 : 0 ≤ x) (h : zin u x = false) : u < u ||| zone x := by
  have h1 : u ≤ u ||| zone x := Nat.left_le_or
  have h2 : u ≠ u ||| zone x := fun e => by
    have : zin (u ||| zone x) x = true := by rw [zin_or, zone_bit x0 x0, decide_eq_true rfl, Bool.or_true]
    rw [← e, h] at this
    cases this
  omega
theorem zYb_congr {ρ : zR} (n0 : 0 ≤ ρ.n) {R R' : Nat → Int} {u : Nat} (h : ∀ x, 0 ≤ x → x < ρ.n → zYc ρ u x = true → R (u ||| zone x) = R' (u ||| zone x)) : zYb ρ R u = zYb ρ R' u := by
  unfold zYb zMf
  refine zfo_congr n0 (fun x b x0 x1 => ?_)
  have : zYk ρ R u x = zYk ρ R' u x := by
    unfold zYk
    by_cases e : zYc ρ u x = true
    · rw [if_pos e, if_pos e, h x x0 x1 e]
    · rw [if_neg e, if_neg e]
  rw [this]
theorem zYf_fuel {ρ : zR} (hn : 0 ≤ ρ.n ∧ ρ.n ≤ 12) : ∀ (f u : Nat), u < 4096 → 4096 ≤ f + u → zYf ρ f u = zYf ρ (f + 1) u := by
  intro f
  induction f with
  | zero => intro u h1 h2; omega
  | succ f ih =>
    intro u h1 h2
    refine zYb_congr hn.1 (fun x x0 x1 hx => ?_)
    have := zup_lt x0 (zYc_in hx).2.1
    exact ih _ (zor_lt h1 (zone_lt (by omega))) (by omega)
theorem zYr_eq {ρ : zR} (hn : 0 ≤ ρ.n ∧ ρ.n ≤ 12) {u : Nat} (hu : u < 4096) : zYr ρ u = zYb ρ (zYr ρ) u := by
  show zYf ρ 4096 u = zYb ρ (zYf ρ 4096) u
  rw [zYf_fuel hn 4096 u hu (by omega)]
  rfl
theorem zDown_bit {ρ : zR} (hW : zWF ρ) {x : Int} (x0 : 0 ≤ x) : zin (zDown ρ) x = true ↔ x < ρ.n ∧ ρ.S 6 x ≠ 1 := by
  unfold zDown
  rw [zms_bit hW.1.1 x0, decide_eq_true_eq]
theorem zDown_lt {ρ : zR} (hW : zWF ρ) : zDown ρ < 4096 := zms_lt hW.1.1 hW.1.2.1
theorem zRank_dep {ρ : zR} (hW : zWF ρ) {x y : Int} (h : zDep ρ x y) : zpop (zNeeds ρ y) < zpop (zNeeds ρ x) := by
  induction h with
  | single h => exact zRank_lt hW h
  | tail _ h ih => have := zRank_lt hW h; omega
/-- u is a part of v -/
def zSub (u v : Nat) : Prop := ∀ x, 0 ≤ x → x < 12 → zin u x = true → zin v x = true
theorem zYc_ex {ρ : zR} (hW : zWF ρ) {u : Nat} (hu : u < 4096) (hs : zSub u (zDown ρ)) (hne : u ≠ zDown ρ) : ∃ x, 0 ≤ x ∧ x < ρ.n ∧ zYc ρ u x = true := by
  have hn := hW.1
  have hr : ∀ m : Nat, ∀ x, 0 ≤ x → x < ρ.n → zin (zDown ρ) x = true → zin u x = false → zpop (zNeeds ρ x) ≤ m → ∃ x, 0 ≤ x ∧ x < ρ.n ∧ zYc ρ u x = true := by
    intro m
    induction m with
    | zero =>
      intro x x0 x1 h1 h2 h3
      refine ⟨x, x0, x1, ?_⟩
      unfold zYc
      rw [zin_df, h1, h2, Bool.not_false, Bool.and_self, Bool.true_and]
      refine decide_eq_true ((zdf_zero (zand_lt (zNeeds_lt hW x))).mpr (fun y y0 y1 hy => ?_))
      rw [zin_and, Bool.and_eq_true] at hy
      have hd := zRank_dep hW ((zNeeds_iff hW x0 x1 y0).mp hy.1)
      have := zpop_rng (v := zNeeds ρ y)
      omega
    | succ m ih =>
      intro x x0 x1 h1 h2 h3
      by_cases hc : zYc ρ u x = true
      · exact ⟨x, x0, x1, hc⟩
      · have hz : ¬ zdf (zNeeds ρ x &&& zDown ρ) u = 0 := fun e => hc (by
          unfold zYc
          rw [zin_df, h1, h2, Bool.not_false, Bool.and_self, Bool.true_and]
          exact decide_eq_true e)
        rw [zdf_zero (zand_lt (zNeeds_lt hW x))] at hz
        have : ∃ y, 0 ≤ y ∧ y < 12 ∧ zin (zNeeds ρ x &&& zDown ρ) y = true ∧ zin u y = false := by
          apply Classical.byContradiction
          intro hno
          refine hz (fun y y0 y1 hy => ?_)
          cases c : zin u y
          · exact absurd ⟨y, y0, y1, hy, c⟩ hno
          · rfl
        obtain ⟨y, y0, y1, hy, hyu⟩ := this
        rw [zin_and, Bool.and_eq_true] at hy
        have hdep := (zNeeds_iff hW x0 x1 y0).mp hy.1
        have hd := zRank_dep hW hdep
        exact ih y y0 (zDep_rng hW hdep).2.2 hy.2 hyu (by omega)
  have : ∃ y, 0 ≤ y ∧ y < 12 ∧ zin (zDown ρ) y = true ∧ zin u y = false := by
    apply Classical.byContradiction
    intro hno
    refine hne (zset_ext hu (zDown_lt hW) (fun y y0 y1 => ?_))
    cases c : zin u y
    · cases c2 : zin (zDown ρ) y
      · rfl
      · exact absurd ⟨y, y0, y1, c2, c⟩ hno
    · exact (hs y y0 y1 c).symm
  obtain ⟨y, y0, y1, h1, h2⟩ := this
  exact hr 12 y y0 ((zDown_bit hW y0).mp h1).1 h1 h2 (zpop_rng).2
theorem zSub_up {ρ : zR} {u : Nat} {x : Int} (x0 : 0 ≤ x) (hs : zSub u (zDown ρ)) (hx : zYc ρ u x = true) : zSub (u ||| zone x) (zDown ρ) := fun y y0 y1 hy => by
  rw [zin_or, Bool.or_eq_true, zone_bit x0 y0, decide_eq_true_eq] at hy
  rcases hy with hy | hy
  · exact hs y y0 y1 hy
  · rw [← hy]; exact (zYc_in hx).1
theorem zYt_rng {ρ : zR} (hW : zWF ρ) {u : Nat} : 0 ≤ zYt ρ u ∧ zYt ρ u ≤ 240 := by
  have hn := hW.1
  have := zfo_inv (f := fun x t => t + (if zin u x = true then ρ.S 3 x else 0)) (x := (0 : Int)) (k := ρ.n) (fun j t => 0 ≤ t ∧ t ≤ 20 * j) (by omega) (fun j t j0 j1 h => by
    have w := (hW.2.1 j j0 j1).2.2.2.1
    split <;> omega) hn.1
  unfold zYt
  omega
theorem zYk_can {ρ : zR} {R : Nat → Int} {u : Nat} {x : Int} (h : zYc ρ u x = true) : zYk ρ R u x = ρ.S 4 x * (zYt ρ u + ρ.S 3 x) + R (u ||| zone x) := if_pos h
theorem zYp {ρ : zR} (hW : zWF ρ) {u : Nat} {x : Int} (x0 : 0 ≤ x) (x1 : x < ρ.n) : 0 ≤ ρ.S 4 x * (zYt ρ u + ρ.S 3 x) ∧ ρ.S 4 x * (zYt ρ u + ρ.S 3 x) ≤ 2340 := by
  have w := (hW.2.1 x x0 x1).2.2.2.1
  have w4 := (hW.2.1 x x0 x1).2.2.2.2.1
  have t := zYt_rng hW (u := u)
  have b0 : 0 ≤ zYt ρ u + ρ.S 3 x := by omega
  have b1 : zYt ρ u + ρ.S 3 x ≤ 260 := by omega
  have a0 : 0 ≤ ρ.S 4 x := by omega
  have a1 : ρ.S 4 x ≤ 9 := by omega
  generalize ρ.S 4 x = a at *
  generalize zYt ρ u + ρ.S 3 x = b at *
  refine ⟨Int.mul_nonneg a0 b0, ?_⟩
  have h := Int.mul_le_mul a1 b1 b0 (by omega : (0 : Int) ≤ 9)
  omega
theorem zYr_rng {ρ : zR} (hW : zWF ρ) : ∀ (f u : Nat), u < 4096 → 4096 ≤ f + u → zSub u (zDown ρ) → 0 ≤ zYr ρ u ∧ zYr ρ u ≤ 2340 * f := by
  have hn := hW.1
  intro f
  induction f with
  | zero => intro u h1 h2; omega
  | succ f ih =>
    intro u h1 h2 hs
    rw [zYr_eq ⟨hn.1, hn.2.1⟩ h1]
    unfold zYb
    obtain ⟨a, b, c⟩ := zMf_is (g := zYk ρ (zYr ρ) u) (m0 := if u = zDown ρ then 0 else 100000000) hn.1
    have lo : ∀ x, 0 ≤ x → x < ρ.n → 0 ≤ zYk ρ (zYr ρ) u x := fun x x0 x1 => by
      by_cases e : zYc ρ u x = true
      · rw [zYk_can e]
        have h3 := ih (u ||| zone x) (zor_lt h1 (zone_lt (by omega))) (by have := zup_lt x0 (zYc_in e).2.1; omega) (zSub_up x0 hs e)
        have := zYp hW (u := u) x0 x1
        omega
      · unfold zYk; rw [if_neg e]; omega
    refine ⟨?_, ?_⟩
    · rcases c with c | ⟨x, x0, x1, hx⟩
      · rw [c]; split <;> omega
      · rw [hx]; exact lo x x0 x1
    · by_cases e : u = zDown ρ
      · rw [if_pos e] at a ⊢; omega
      · obtain ⟨x, x0, x1, hx⟩ := zYc_ex hW h1 hs e
        have h3 := ih (u ||| zone x) (zor_lt h1 (zone_lt (by omega))) (by have := zup_lt x0 (zYc_in hx).2.1; omega) (zSub_up x0 hs hx)
        have h4 := zYp hW (u := u) x0 x1
        have h5 := b x x0 x1
        rw [zYk_can hx] at h5
        omega
theorem zYq_rng {ρ : zR} (hW : zWF ρ) {u : Nat} (hu : u < 4096) (hs : zSub u (zDown ρ)) {x : Int} (x0 : 0 ≤ x) (x1 : x < ρ.n) (hx : zYc ρ u x = true) : 0 ≤ zYq ρ u x ∧ zYq ρ u x < 100000000 := by
  have hn := hW.1
  unfold zYq
  rw [zYk_can hx]
  have h3 := zYr_rng hW 4096 (u ||| zone x) (zor_lt hu (zone_lt (by omega))) (by omega) (zSub_up x0 hs hx)
  have h4 := zYp hW (u := u) x0 x1
  omega
/-- with which the best order goes on -/
def zYx (ρ : zR) (u : Nat) : Int := zfst (fun x => decide (zYq ρ u x = zYr ρ u)) 0 ρ.n
theorem zYx_is {ρ : zR} (hW : zWF ρ) {u : Nat} (hu : u < 4096) (hs : zSub u (zDown ρ)) (hne : u ≠ zDown ρ) : 0 ≤ zYx ρ u ∧ zYx ρ u < ρ.n ∧ zYc ρ u (zYx ρ u) = true ∧ zYq ρ u (zYx ρ u) = zYr ρ u ∧ (∀ x, 0 ≤ x → x < zYx ρ u → zYq ρ u x ≠ zYr ρ u) ∧ ∀ x, 0 ≤ x → x < ρ.n → zYr ρ u ≤ zYq ρ u x := by
  have hn := hW.1
  have he := zYr_eq (ρ := ρ) ⟨hn.1, hn.2.1⟩ hu
  unfold zYb at he
  rw [if_neg hne] at he
  obtain ⟨a, b, c⟩ := zMf_is (g := zYk ρ (zYr ρ) u) (m0 := 100000000) hn.1
  rw [← he] at a b c
  obtain ⟨y, y0, y1, hy⟩ := zYc_ex hW hu hs hne
  have hlt := zYq_rng hW hu hs y0 y1 hy
  have hby : zYr ρ u ≤ zYq ρ u y := b y y0 y1
  obtain ⟨z, z0, z1, hz⟩ : ∃ x, 0 ≤ x ∧ x < ρ.n ∧ zYr ρ u = zYq ρ u x := by
    rcases c with c | c
    · omega
    · exact c
  obtain ⟨e1, e2, e3, e4⟩ := zfst_is (fun x => decide (zYq ρ u x = zYr ρ u)) (i := 0) (n := ρ.n) hn.1
  have hxn : zYx ρ u < ρ.n := by
    rcases Int.lt_or_le (zYx ρ u) ρ.n with q | q
    · exact q
    · have := e3 z z0 (by show z < zYx ρ u; omega)
      exact absurd hz.symm (of_decide_eq_false this)
  have hq : zYq ρ u (zYx ρ u) = zYr ρ u := of_decide_eq_true (e4 hxn)
  refine ⟨e1, hxn, ?_, hq, fun x x0 x1 => of_decide_eq_false (e3 x x0 x1), b⟩
  by_cases hc : zYc ρ u (zYx ρ u) = true
  · exact hc
  · have : zYq ρ u (zYx ρ u) = 100000000 := if_neg hc
    omega
theorem zYr_end {ρ : zR} (hW : zWF ρ) : zYr ρ (zDown ρ) = 0 ∧ ∀ x, 0 ≤ x → x < ρ.n → zYc ρ (zDown ρ) x = false := by
  have hn := hW.1
  have hc : ∀ x, 0 ≤ x → x < ρ.n → zYc ρ (zDown ρ) x = false := fun x x0 x1 => by
    cases c : zYc ρ (zDown ρ) x
    · rfl
    · have := zYc_in c
      rw [this.1] at this
      exact absurd this.2.1 (by decide)
  refine ⟨?_, hc⟩
  rw [zYr_eq ⟨hn.1, hn.2.1⟩ (zDown_lt hW)]
  unfold zYb
  rw [if_pos rfl]
  obtain ⟨a, b, c⟩ := zMf_is (g := zYk ρ (zYr ρ) (zDown ρ)) (m0 := 0) hn.1
  rcases c with c | ⟨x, x0, x1, hx⟩
  · exact c
  · have : zYk ρ (zYr ρ) (zDown ρ) x = 100000000 := by unfold zYk; rw [hc x x0 x1]; rfl
    omega
/-- the class's search for it: the best one and its cost -/
def zYs (ρ : zR) (u : Nat) (k : Int) : Int × Int := zfo (fun x q => if zYc ρ u x = true then (if q.1 = -1 ∨ zYq ρ u x < q.2 then (x, zYq ρ u x) else q) else q) (-1, 0) k
theorem zYs_s {ρ : zR} {u : Nat} {k : Int} (h : 0 ≤ k) : zYs ρ u (k + 1) = if zYc ρ u k = true then (if (zYs ρ u k).1 = -1 ∨ zYq ρ u k < (zYs ρ u k).2 then (k, zYq ρ u k) else zYs ρ u k) else zYs ρ u k := zfo_s h
theorem zYs_is {ρ : zR} {u : Nat} {k : Int} (hk : 0 ≤ k) : ((zYs ρ u k).1 = -1 ∧ (zYs ρ u k).2 = 0 ∧ ∀ x, 0 ≤ x → x < k → zYc ρ u x = false) ∨ ((0 ≤ (zYs ρ u k).1 ∧ (zYs ρ u k).1 < k) ∧ zYc ρ u (zYs ρ u k).1 = true ∧ (zYs ρ u k).2 = zYq ρ u (zYs ρ u k).1 ∧ (∀ x, 0 ≤ x → x < k → zYc ρ u x = true → (zYs ρ u k).2 ≤ zYq ρ u x) ∧ ∀ x, 0 ≤ x → x < (zYs ρ u k).1 → zYc ρ u x = true → (zYs ρ u k).2 < zYq ρ u x) := by
  have : ∀ m : Nat, ((zYs ρ u m).1 = -1 ∧ (zYs ρ u m).2 = 0 ∧ ∀ x, 0 ≤ x → x < (m : Int) → zYc ρ u x = false) ∨ ((0 ≤ (zYs ρ u m).1 ∧ (zYs ρ u m).1 < (m : Int)) ∧ zYc ρ u (zYs ρ u m).1 = true ∧ (zYs ρ u m).2 = zYq ρ u (zYs ρ u m).1 ∧ (∀ x, 0 ≤ x → x < (m : Int) → zYc ρ u x = true → (zYs ρ u m).2 ≤ zYq ρ u x) ∧ ∀ x, 0 ≤ x → x < (zYs ρ u m).1 → zYc ρ u x = true → (zYs ρ u m).2 < zYq ρ u x) := by
    intro m
    induction m with
    | zero => exact Or.inl ⟨rfl, rfl, fun x _ _ => by omega⟩
    | succ m ih =>
      have e : zYs ρ u ((m + 1 : Nat) : Int) = _ := zYs_s (ρ := ρ) (u := u) (k := (m : Int)) (by omega)
      rw [e]
      by_cases hc : zYc ρ u m = true
      · rw [if_pos hc]
        by_cases hq : (zYs ρ u m).1 = -1 ∨ zYq ρ u m < (zYs ρ u m).2
        · rw [if_pos hq]
          refine Or.inr ⟨⟨by show (0 : Int) ≤ m; omega, by show (m : Int) < _; omega⟩, hc, rfl, fun x x0 x1 hx => ?_, fun x x0 x1 hx => ?_⟩
          · show zYq ρ u m ≤ zYq ρ u x
            by_cases e : x = m
            · rw [e]; exact Int.le_refl _
            · rcases ih with ⟨i1, i2, i3⟩ | ⟨⟨i1, i2⟩, i3, i4, i5, i6⟩
              · rw [i3 x x0 (by omega)] at hx; cases hx
              · have := i5 x x0 (by omega) hx; omega
          · show zYq ρ u m < zYq ρ u x
            have x1 : x < (m : Int) := x1
            rcases ih with ⟨i1, i2, i3⟩ | ⟨⟨i1, i2⟩, i3, i4, i5, i6⟩
            · rw [i3 x x0 (by omega)] at hx; cases hx
            · have := i5 x x0 (by omega) hx; omega
        · rw [if_neg hq]
          rcases ih with ⟨i1, i2, i3⟩ | ⟨⟨i1, i2⟩, i3, i4, i5, i6⟩
          · exact absurd (Or.inl i1) hq
          · refine Or.inr ⟨⟨i1, by omega⟩, i3, i4, fun x x0 x1 hx => ?_, i6⟩
            by_cases e : x = m
            · rw [e]; have : ¬ (zYq ρ u m < (zYs ρ u m).2) := fun z => hq (Or.inr z); omega
            · exact i5 x x0 (by omega) hx
      · rw [if_neg hc]
        rcases ih with ⟨i1, i2, i3⟩ | ⟨⟨i1, i2⟩, i3, i4, i5, i6⟩
        · refine Or.inl ⟨i1, i2, fun x x0 x1 => ?_⟩
          by_cases e : x = m
          · rw [e]; simpa using hc
          · exact i3 x x0 (by omega)
        · refine Or.inr ⟨⟨i1, by omega⟩, i3, i4, fun x x0 x1 hx => ?_, i6⟩
          by_cases e : x = m
          · rw [e] at hx; exact absurd hx hc
          · exact i5 x x0 (by omega) hx
  have := this k.toNat
  rwa [Int.toNat_of_nonneg hk] at this
/-- both searches find the same -/
theorem zYs_fin {ρ : zR} (hW : zWF ρ) {u : Nat} (hu : u < 4096) (hs : zSub u (zDown ρ)) : zYs ρ u ρ.n = (if u = zDown ρ then -1 else zYx ρ u, zYr ρ u) := by
  have hn := hW.1
  by_cases hne : u = zDown ρ
  · rw [if_pos hne]
    rcases zYs_is (ρ := ρ) (u := u) hn.1 with ⟨i1, i2, i3⟩ | ⟨⟨i1, i2⟩, i3, i4, i5, i6⟩
    · exact Prod.ext i1 (by rw [i2, hne, (zYr_end hW).1])
    · rw [hne] at i1 i2 i3
      rw [(zYr_end hW).2 _ i1 i2] at i3
      cases i3
  · rw [if_neg hne]
    obtain ⟨x0, x1, x2, x3, x4, x5⟩ := zYx_is hW hu hs hne
    rcases zYs_is (ρ := ρ) (u := u) hn.1 with ⟨i1, i2, i3⟩ | ⟨⟨i1, i2⟩, i3, i4, i5, i6⟩
    · rw [i3 _ x0 x1] at x2; cases x2
    · have h1 := i5 _ x0 x1 x2
      have h2 := x5 _ i1 i2
      have h3 : (zYs ρ u ρ.n).2 = zYr ρ u := by omega
      refine Prod.ext ?_ h3
      show (zYs ρ u ρ.n).1 = zYx ρ u
      rcases Int.lt_trichotomy (zYs ρ u ρ.n).1 (zYx ρ u) with q | q | q
      · exact absurd (by omega) (x4 _ i1 q)
      · exact q
      · have := i6 _ x0 q x2; omega
/-- the next part of v below f -/
theorem zsub_next : ∀ (v f t : Nat), f &&& v = f → t &&& v = t → t < f → t ≤ (f - 1) &&& v := by
  intro v
  induction v using Nat.strongRecOn with
  | ind v ih =>
    intro f t hf ht hlt
    by_cases hv : v = 0
    · rw [hv, Nat.and_zero] at hf; omega
    · have d2 : ∀ a b : Nat, (a &&& b) / 2 = a / 2 &&& b / 2 := fun a b => by
        have := Nat.and_div_two_pow (a := a) (b := b) (n := 1)
        simpa using this
      have m2 : ∀ a b : Nat, (a &&& b) % 2 = a % 2 &&& b % 2 := fun a b => by
        have := Nat.and_mod_two_pow (a := a) (b := b) (n := 1)
        simpa using this
      have hf2 := d2 f v
      have ht2 := d2 t v
      have hfm := m2 f v
      have htm := m2 t v
      rw [hf] at hf2 hfm
      rw [ht] at ht2 htm
      have hg2 := d2 (f - 1) v
      have hgm := m2 (f - 1) v
      have key : ∀ a b : Nat, a < 2 → b < 2 → a &&& b = if a = 1 ∧ b = 1 then 1 else 0 := fun a b ha hb => by
        rcases (by omega : a = 0 ∨ a = 1) with rfl | rfl <;> rcases (by omega : b = 0 ∨ b = 1) with rfl | rfl <;> decide
      rw [key _ _ (Nat.mod_lt _ (by omega)) (Nat.mod_lt _ (by omega))] at hfm htm hgm
      rcases Nat.mod_two_eq_zero_or_one f with e | e
      · have h1 : (f - 1) / 2 = f / 2 - 1 := by omega
        have h3 : (f - 1) % 2 = 1 := by omega
        have h2 := ih (v / 2) (by omega) (f / 2) (t / 2) hf2.symm ht2.symm (by omega)
        rw [h1] at hg2
        rw [h3] at hgm
        split at htm <;> split at hgm <;> omega
      · have h1 : (f - 1) / 2 = f / 2 := by omega
        rw [h1, ← hf2] at hg2
        omega
