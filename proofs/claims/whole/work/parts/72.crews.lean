/-! CREWS, 1: the pure side. b: when a service was begun, or -1; F: those finished; t: the moment -/
def zQr (ρ : zR) (b : Int → Int) (F : Nat) : Nat := zms (fun x => decide (b x ≠ -1) && !zin F x) ρ.n
def zQo (ρ : zR) (b : Int → Int) (F : Nat) (t : Int) : Nat := zms (fun x => zin (zQr ρ b F) x && decide (b x + ρ.S 3 x ≤ t)) ρ.n
def zQc (ρ : zR) (b : Int → Int) (F : Nat) (x : Int) : Bool := (zin (zDown ρ) x && decide (b x = -1)) && decide (zdf (zNeeds ρ x &&& zDown ρ) F = 0)
def zQnk (ρ : zR) (b : Int → Int) (F : Nat) (k : Int) : Int := zfo (fun x y => if zQc ρ b F x = true ∧ (y = -1 ∨ ρ.S 4 y < ρ.S 4 x) then x else y) (-1) k
def zQn (ρ : zR) (b : Int → Int) (F : Nat) : Int := zQnk ρ b F ρ.n
def zUpd (b : Int → Int) (y t : Int) : Int → Int := fun x => if x = y then t else b x
def zQs (ρ : zR) (F : Nat) (t : Int) : Nat → (Int → Int) → Int → Int
  | 0, b => b
  | k + 1, b => if zQn ρ b F = -1 then b else zQs ρ F t k (zUpd b (zQn ρ b F) t)
def zQF (ρ : zR) (b : Int → Int) (F : Nat) (t : Int) : Nat := F ||| zQo ρ b F t
def zQb (ρ : zR) (c : Int) (b : Int → Int) (F : Nat) (t : Int) : Int → Int := zQs ρ (zQF ρ b F t) t (c - zpop (zQr ρ b (zQF ρ b F t))).toNat b
def zQek (ρ : zR) (b : Int → Int) (F : Nat) (k : Int) : Int := zfo (fun x e => if zin (zQr ρ b F) x = true ∧ (e = -1 ∨ b x + ρ.S 3 x < e) then b x + ρ.S 3 x else e) (-1) k
def zQe (ρ : zR) (b : Int → Int) (F : Nat) : Int := zQek ρ b F ρ.n
/-- the moment at which all are finished, and when each was begun -/
def zQE (ρ : zR) (c : Int) : Nat → (Int → Int) → Nat → Int → Int × (Int → Int)
  | 0, b, _, t => (t, b)
  | f + 1, b, F, t => if zQr ρ (zQb ρ c b F t) (zQF ρ b F t) = 0 then (t, zQb ρ c b F t) else zQE ρ c f (zQb ρ c b F t) (zQF ρ b F t) (zQe ρ (zQb ρ c b F t) (zQF ρ b F t))
/-- what holds all along -/
def zQI (ρ : zR) (b : Int → Int) (F : Nat) (t : Int) : Prop := F < 4096 ∧ (∀ x, 0 ≤ x → zin F x = true → b x ≠ -1) ∧ (∀ x, b x ≠ -1 → (0 ≤ x ∧ x < ρ.n) ∧ zin (zDown ρ) x = true ∧ 0 ≤ b x ∧ b x ≤ t) ∧ 0 ≤ t
theorem zQr_bit {ρ : zR} (n0 : 0 ≤ ρ.n) {b : Int → Int} {F : Nat} {x : Int} (x0 : 0 ≤ x) : zin (zQr ρ b F) x = true ↔ x < ρ.n ∧ b x ≠ -1 ∧ zin F x = false := by
  unfold zQr
  rw [zms_bit n0 x0, Bool.and_eq_true, decide_eq_true_eq, Bool.not_eq_true']
theorem zQr_lt {ρ : zR} (hW : zWF ρ) {b : Int → Int} {F : Nat} : zQr ρ b F < 4096 := zms_lt hW.1.1 hW.1.2.1
theorem zQo_lt {ρ : zR} (hW : zWF ρ) {b : Int → Int} {F : Nat} {t : Int} : zQo ρ b F t < 4096 := zms_lt hW.1.1 hW.1.2.1
theorem zQo_bit {ρ : zR} (n0 : 0 ≤ ρ.n) {b : Int → Int} {F : Nat} {t x : Int} (x0 : 0 ≤ x) : zin (zQo ρ b F t) x = true ↔ x < ρ.n ∧ b x ≠ -1 ∧ zin F x = false ∧ b x + ρ.S 3 x ≤ t := by
  unfold zQo
  rw [zms_bit n0 x0, Bool.and_eq_true, decide_eq_true_eq, zQr_bit n0 x0]
  constructor
  · rintro ⟨a, ⟨-, b, c⟩, d⟩; exact ⟨a, b, c, d⟩
  · rintro ⟨a, b, c, d⟩; exact ⟨a, ⟨a, b, c⟩, d⟩
theorem zQnk_s {ρ : zR} {b : Int → Int} {F : Nat} {k : Int} (h : 0 ≤ k) : zQnk ρ b F (k + 1) = if zQc ρ b F k = true ∧ (zQnk ρ b F k = -1 ∨ ρ.S 4 (zQnk ρ b F k) < ρ.S 4 k) then k else zQnk ρ b F k := zfo_s h
theorem zQnk_is {ρ : zR} {b : Int → Int} {F : Nat} {k : Int} (hk : 0 ≤ k) : (zQnk ρ b F k = -1 ∧ ∀ x, 0 ≤ x → x < k → zQc ρ b F x = false) ∨ ((0 ≤ zQnk ρ b F k ∧ zQnk ρ b F k < k) ∧ zQc ρ b F (zQnk ρ b F k) = true) := by
  have : ∀ m : Nat, (zQnk ρ b F m = -1 ∧ ∀ x, 0 ≤ x → x < (m : Int) → zQc ρ b F x = false) ∨ ((0 ≤ zQnk ρ b F m ∧ zQnk ρ b F m < (m : Int)) ∧ zQc ρ b F (zQnk ρ b F m) = true) := by
    intro m
    induction m with
    | zero => exact Or.inl ⟨rfl, fun x _ _ => by omega⟩
    | succ m ih =>
      have e : zQnk ρ b F ((m + 1 : Nat) : Int) = _ := zQnk_s (ρ := ρ) (b := b) (F := F) (k := (m : Int)) (by omega)
      rw [e]
      by_cases c : zQc ρ b F m = true ∧ (zQnk ρ b F m = -1 ∨ ρ.S 4 (zQnk ρ b F m) < ρ.S 4 m)
      · rw [if_pos c]
        exact Or.inr ⟨by omega, c.1⟩
      · rw [if_neg c]
        rcases ih with ⟨i1, i2⟩ | ⟨⟨i1, i2⟩, i3⟩
        · refine Or.inl ⟨i1, fun x x0 x1 => ?_⟩
          by_cases e : x = m
          · rw [e]
            cases q : zQc ρ b F m
            · rfl
            · exact absurd ⟨q, Or.inl i1⟩ c
          · exact i2 x x0 (by omega)
        · exact Or.inr ⟨⟨i1, by omega⟩, i3⟩
  have := this k.toNat
  rwa [Int.toNat_of_nonneg hk] at this
theorem zQc_in {ρ : zR} {b : Int → Int} {F : Nat} {x : Int} (h : zQc ρ b F x = true) : zin (zDown ρ) x = true ∧ b x = -1 ∧ zdf (zNeeds ρ x &&& zDown ρ) F = 0 := by
  unfold zQc at h
  rw [Bool.and_eq_true, Bool.and_eq_true] at h
  exact ⟨h.1.1, of_decide_eq_true h.1.2, of_decide_eq_true h.2⟩
theorem zQI.upd {ρ : zR} {b : Int → Int} {F : Nat} {t : Int} (hW : zWF ρ) (hI : zQI ρ b F t) {G : Nat} (hne : ¬ zQn ρ b G = -1) : zQI ρ (zUpd b (zQn ρ b G) t) F t := by
  have hn := hW.1
  obtain ⟨a, c, e, f⟩ := hI
  rcases zQnk_is (ρ := ρ) (b := b) (F := G) hn.1 with ⟨i1, i2⟩ | ⟨⟨i1, i2⟩, i3⟩
  · exact absurd i1 hne
  · refine ⟨a, fun x x0 hx => ?_, fun x hx => ?_, f⟩
    · unfold zUpd
      split
      · omega
      · exact c x x0 hx
    · unfold zUpd at hx ⊢
      by_cases q : x = zQn ρ b G
      · rw [if_pos q, q]
        exact ⟨⟨i1, i2⟩, (zQc_in i3).1, f, Int.le_refl _⟩
      · rw [if_neg q] at hx ⊢
        exact e x hx
theorem zQs_inv {ρ : zR} (hW : zWF ρ) {F G : Nat} {t : Int} : ∀ (k : Nat) (b : Int → Int), zQI ρ b F t → zQI ρ (zQs ρ G t k b) F t := by
  intro k
  induction k with
  | zero => intro b h; exact h
  | succ k ih =>
    intro b h
    have e : zQs ρ G t (k + 1) b = if zQn ρ b G = -1 then b else zQs ρ G t k (zUpd b (zQn ρ b G) t) := rfl
    rw [e]
    by_cases c : zQn ρ b G = -1
    · rw [if_pos c]; exact h
    · rw [if_neg c]; exact ih _ (h.upd hW c)
/-- one more runs -/
theorem zQr_upd {ρ : zR} (hW : zWF ρ) {b : Int → Int} {F : Nat} {t y : Int} (t0 : 0 ≤ t) (y0 : 0 ≤ y) (y1 : y < ρ.n) (hb : b y = -1) (hF : zin F y = false) : zQr ρ (zUpd b y t) F = zQr ρ b F ||| zone y ∧ zin (zQr ρ b F) y = false := by
  have hn := hW.1
  have h2 : zin (zQr ρ b F) y = false := by
    cases c : zin (zQr ρ b F) y
    · rfl
    · exact absurd hb ((zQr_bit hn.1 y0).mp c).2.1
  refine ⟨zset_ext (zQr_lt hW) (zor_lt (zQr_lt hW) (zone_lt (by omega))) (fun x x0 x1 => ?_), h2⟩
  rw [Bool.eq_iff_iff, zin_or, Bool.or_eq_true, zone_bit y0 x0, decide_eq_true_eq, zQr_bit hn.1 x0, zQr_bit hn.1 x0]
  unfold zUpd
  by_cases e : x = y
  · rw [if_pos e, e]
    constructor
    · intro _; exact Or.inr rfl
    · intro _; exact ⟨y1, by omega, hF⟩
  · rw [if_neg e]
    constructor
    · intro h; exact Or.inl h
    · rintro (h | h)
      · exact h
      · exact absurd h.symm e
/-- when no more are begun, there is none to begin, or all crews work -/
theorem zQs_end {ρ : zR} (hW : zWF ρ) {F : Nat} {t : Int} : ∀ (k : Nat) (b : Int → Int), zQI ρ b F t → zQn ρ (zQs ρ F t k b) F = -1 ∨ zpop (zQr ρ (zQs ρ F t k b) F) = zpop (zQr ρ b F) + k := by
  have hn := hW.1
  intro k
  induction k with
  | zero => intro b h; exact Or.inr (by show zpop (zQr ρ b F) = _; omega)
  | succ k ih =>
    intro b h
    have e : zQs ρ F t (k + 1) b = if zQn ρ b F = -1 then b else zQs ρ F t k (zUpd b (zQn ρ b F) t) := rfl
    rw [e]
    by_cases c : zQn ρ b F = -1
    · rw [if_pos c]; exact Or.inl c
    · rw [if_neg c]
      rcases zQnk_is (ρ := ρ) (b := b) (F := F) hn.1 with ⟨i1, i2⟩ | ⟨⟨i1, i2⟩, i3⟩
      · exact absurd i1 c
      · have hc := zQc_in i3
        have hF : zin F (zQn ρ b F) = false := by
          cases q : zin F (zQn ρ b F)
          · rfl
          · exact absurd hc.2.1 (h.2.1 _ i1 q)
        obtain ⟨e1, e2⟩ := zQr_upd hW (t := t) h.2.2.2 i1 i2 hc.2.1 hF
        rcases ih _ (h.upd hW c) with q | q
        · exact Or.inl q
        · refine Or.inr ?_
          have h3 := zpop_up i1 (by omega) e2
          have e1' : zQr ρ (zUpd b (zQn ρ b F) t) F = zQr ρ b F ||| zone (zQn ρ b F) := e1
          have h3' : zpop (zQr ρ b F ||| zone (zQn ρ b F)) = zpop (zQr ρ b F) + 1 := h3
          rw [e1', h3'] at q
          omega
theorem zQs_none {ρ : zR} {F : Nat} {t : Int} {b : Int → Int} (h : zQn ρ b F = -1) (k : Nat) : zQs ρ F t k b = b := by
  cases k with
  | zero => rfl
  | succ k => exact if_pos h
theorem zQF_in {ρ : zR} (n0 : 0 ≤ ρ.n) {b : Int → Int} {F : Nat} {t : Int} {x : Int} (x0 : 0 ≤ x) : zin (zQF ρ b F t) x = true ↔ zin F x = true ∨ x < ρ.n ∧ b x ≠ -1 ∧ zin F x = false ∧ b x + ρ.S 3 x ≤ t := by
  unfold zQF
  rw [zin_or, Bool.or_eq_true, zQo_bit n0 x0]
theorem zQI.F {ρ : zR} (hW : zWF ρ) {b : Int → Int} {F : Nat} {t : Int} (hI : zQI ρ b F t) : zQI ρ b (zQF ρ b F t) t := by
  have hn := hW.1
  obtain ⟨a, c, e, f⟩ := hI
  refine ⟨zor_lt a (zQo_lt hW), fun x x0 hx => ?_, e, f⟩
  rcases (zQF_in hn.1 x0).mp hx with h | h
  · exact c x x0 h
  · exact h.2.1
theorem zQI.b {ρ : zR} (hW : zWF ρ) {b : Int → Int} {F : Nat} {t c : Int} (hI : zQI ρ b F t) : zQI ρ (zQb ρ c b F t) (zQF ρ b F t) t := zQs_inv hW _ _ (hI.F hW)
theorem zQI.mono {ρ : zR} {b : Int → Int} {F : Nat} {t t' : Int} (hI : zQI ρ b F t) (h : t ≤ t') : zQI ρ b F t' := ⟨hI.1, hI.2.1, fun x hx => by
  obtain ⟨p, q, r1, r2⟩ := hI.2.2.1 x hx
  exact ⟨p, q, r1, by omega⟩, by have := hI.2.2.2; omega⟩
/-- what a start changes -/
theorem zQs_val {ρ : zR} (hW : zWF ρ) {F G : Nat} {t : Int} : ∀ (k : Nat) (b : Int → Int) (x : Int), b x ≠ -1 → zQI ρ b F t → zQs ρ G t k b x = b x := by
  have hn := hW.1
  intro k
  induction k with
  | zero => intro b x _ _; rfl
  | succ k ih =>
    intro b x hx h
    have e : zQs ρ G t (k + 1) b = if zQn ρ b G = -1 then b else zQs ρ G t k (zUpd b (zQn ρ b G) t) := rfl
    rw [e]
    by_cases c : zQn ρ b G = -1
    · rw [if_pos c]
    · rw [if_neg c]
      rcases zQnk_is (ρ := ρ) (b := b) (F := G) hn.1 with ⟨i1, i2⟩ | ⟨⟨i1, i2⟩, i3⟩
      · exact absurd i1 c
      · have hne : ¬ x = zQn ρ b G := fun q => hx (by rw [q]; exact (zQc_in i3).2.1)
        have hu : zUpd b (zQn ρ b G) t x = b x := if_neg hne
        rw [ih _ x (by rw [hu]; exact hx) (h.upd hW c), hu]
theorem zQs_new {ρ : zR} {F G : Nat} {t : Int} (hW : zWF ρ) : ∀ (k : Nat) (b : Int → Int) (x : Int), zQI ρ b F t → b x = -1 → zQs ρ G t k b x = -1 ∨ zQs ρ G t k b x = t := by
  intro k
  induction k with
  | zero => intro b x _ hx; exact Or.inl hx
  | succ k ih =>
    intro b x h hx
    have e : zQs ρ G t (k + 1) b = if zQn ρ b G = -1 then b else zQs ρ G t k (zUpd b (zQn ρ b G) t) := rfl
    rw [e]
    by_cases c : zQn ρ b G = -1
    · rw [if_pos c]; exact Or.inl hx
    · rw [if_neg c]
      by_cases q : x = zQn ρ b G
      · have hu : zUpd b (zQn ρ b G) t x = t := if_pos q
        have ht := h.2.2.2
        exact Or.inr (by rw [zQs_val hW k _ x (by rw [hu]; omega) (h.upd hW c), hu])
      · have hu : zUpd b (zQn ρ b G) t x = b x := if_neg q
        exact ih _ x (h.upd hW c) (by rw [hu]; exact hx)
theorem zQek_s {ρ : zR} {b : Int → Int} {F : Nat} {k : Int} (h : 0 ≤ k) : zQek ρ b F (k + 1) = if zin (zQr ρ b F) k = true ∧ (zQek ρ b F k = -1 ∨ b k + ρ.S 3 k < zQek ρ b F k) then b k + ρ.S 3 k else zQek ρ b F k := zfo_s h
theorem zQek_is {ρ : zR} {b : Int → Int} {F : Nat} {k : Int} (hk : 0 ≤ k) (hp : ∀ x, 0 ≤ x → x < k → zin (zQr ρ b F) x = true → 0 ≤ b x + ρ.S 3 x) : (zQek ρ b F k = -1 ∧ ∀ x, 0 ≤ x → x < k → zin (zQr ρ b F) x = false) ∨ ((∃ x, 0 ≤ x ∧ x < k ∧ zin (zQr ρ b F) x = true ∧ zQek ρ b F k = b x + ρ.S 3 x) ∧ ∀ x, 0 ≤ x → x < k → zin (zQr ρ b F) x = true → zQek ρ b F k ≤ b x + ρ.S 3 x) := by
  have : ∀ m : Nat, (m : Int) ≤ k → (zQek ρ b F m = -1 ∧ ∀ x, 0 ≤ x → x < (m : Int) → zin (zQr ρ b F) x = false) ∨ ((∃ x, 0 ≤ x ∧ x < (m : Int) ∧ zin (zQr ρ b F) x = true ∧ zQek ρ b F m = b x + ρ.S 3 x) ∧ ∀ x, 0 ≤ x → x < (m : Int) → zin (zQr ρ b F) x = true → zQek ρ b F m ≤ b x + ρ.S 3 x) := by
    intro m
    induction m with
    | zero => intro _; exact Or.inl ⟨rfl, fun x _ _ => by omega⟩
    | succ m ih =>
      intro hm
      have e : zQek ρ b F ((m + 1 : Nat) : Int) = _ := zQek_s (ρ := ρ) (b := b) (F := F) (k := (m : Int)) (by omega)
      rw [e]
      by_cases c : zin (zQr ρ b F) m = true ∧ (zQek ρ b F m = -1 ∨ b m + ρ.S 3 m < zQek ρ b F m)
      · rw [if_pos c]
        refine Or.inr ⟨⟨m, by omega, by omega, c.1, rfl⟩, fun x x0 x1 hx => ?_⟩
        by_cases q : x = m
        · rw [q]; exact Int.le_refl _
        · rcases ih (by omega) with ⟨i1, i2⟩ | ⟨i1, i2⟩
          · rw [i2 x x0 (by omega)] at hx; cases hx
          · have := i2 x x0 (by omega) hx
            obtain ⟨y, y0, y1, y2, y3⟩ := i1
            have := hp y y0 (by omega) y2
            omega
      · rw [if_neg c]
        rcases ih (by omega) with ⟨i1, i2⟩ | ⟨⟨y, y0, y1, y2, y3⟩, i2⟩
        · refine Or.inl ⟨i1, fun x x0 x1 => ?_⟩
          by_cases q : x = m
          · rw [q]
            cases h : zin (zQr ρ b F) m
            · rfl
            · exact absurd ⟨h, Or.inl i1⟩ c
          · exact i2 x x0 (by omega)
        · refine Or.inr ⟨⟨y, y0, by omega, y2, y3⟩, fun x x0 x1 hx => ?_⟩
          by_cases q : x = m
          · rw [q] at hx ⊢
            have : ¬ (b m + ρ.S 3 m < zQek ρ b F m) := fun z => c ⟨hx, Or.inr z⟩
            omega
          · exact i2 x x0 (by omega) hx
  have := this k.toNat (by omega)
  rwa [Int.toNat_of_nonneg hk] at this
