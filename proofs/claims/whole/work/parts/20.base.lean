/-! BASE: loops, heaps, ranges, sets of services -/
theorem zput_at {V : zV} {r : Nat} {k : Int} {v : Value} : zput V r k v r k = v := if_pos ⟨rfl, rfl⟩
theorem zput_r {V : zV} {r r' : Nat} {k k' : Int} {v : Value} (h : r' ≠ r) : zput V r k v r' k' = V r' k' := if_neg (fun q => h q.1)
theorem zput_k {V : zV} {r : Nat} {k k' : Int} {v : Value} (h : k' ≠ k) : zput V r k v r k' = V r k' := if_neg (fun q => h q.2)
theorem zput_i {V : zV} {r r' : Nat} {k k' : Int} {v : Value} (h : k' ≠ k) : zput V r k v r' k' = V r' k' := if_neg (fun q => h q.2)
theorem zput_row {V : zV} {r r' : Nat} {k : Int} {v : Value} (h : r' ≠ r) : zput V r k v r' = V r' := funext fun _ => zput_r h
theorem zrow_at {V : zV} {r : Nat} {f : Int → Value} : zrow V r f r = f := if_pos rfl
theorem zrow_r {V : zV} {r r' : Nat} {f : Int → Value} (h : r' ≠ r) : zrow V r f r' = V r' := if_neg h
theorem zput_zrow {V : zV} {r : Nat} {k : Int} {v : Value} : zput V r k v = zrow V r (fun j => if j = k then v else V r j) := by
  funext r' k'
  unfold zput zrow
  by_cases h : r' = r
  · subst h
    simp
  · rw [if_neg (fun q => h q.1), if_neg h]
theorem zrow_zrow {V : zV} {r : Nat} {f g : Int → Value} : zrow (zrow V r f) r g = zrow V r g := by
  funext r'
  unfold zrow
  split <;> rfl
theorem zrow_self {V : zV} {r : Nat} {f : Int → Value} (h : ∀ j, f j = V r j) : zrow V r f = V := by
  funext r'
  unfold zrow
  split
  · rename_i e
    rw [e]
    exact funext h
  · rfl
/-! loops as chains of equal propositions -/
theorem z_chain {F : Nat → Prop} {n : Nat} (h : ∀ k, k < n → F k = F (k + 1)) : F 0 = F n := by
  induction n with
  | zero => rfl
  | succ n ih => rw [ih (fun k hk => h k (by omega)), h n (by omega)]
theorem z_chainI {F : Int → Prop} {n : Int} (hn : 0 ≤ n) (h : ∀ k, 0 ≤ k → k < n → F k = F (k + 1)) : F 0 = F n := by
  obtain ⟨m, rfl⟩ : ∃ m : Nat, n = m := ⟨n.toNat, by omega⟩
  have := z_chain (F := fun k => F (k : Int)) (n := m) (fun k hk => by
    have := h k (by omega) (by omega)
    rw [this]
    rfl)
  exact this
theorem z_chainA {F : Int → Prop} {i n : Int} (hn : i ≤ n) (h : ∀ k, i ≤ k → k < n → F k = F (k + 1)) : F i = F n := by
  have := z_chainI (F := fun k => F (i + k)) (n := n - i) (by omega) (fun k h0 h1 => by
    have := h (i + k) (by omega) (by omega)
    rw [this]
    congr 1
    omega)
  rw [show i + 0 = i by omega, show i + (n - i) = n by omega] at this
  exact this
/-- from the end of a loop to its beginning -/
theorem z_down {P : Int → Prop} {i n : Int} (hn : i ≤ n) (h0 : P n) (hs : ∀ k, i ≤ k → k < n → P (k + 1) → P k) : P i := by
  have : ∀ m : Nat, ∀ k, i ≤ k → k + m = n → P k := by
    intro m
    induction m with
    | zero => intro k _ hk; rw [show k = n by omega]; exact h0
    | succ m ih => intro k h1 hk; exact hs k h1 (by omega) (ih (k + 1) (by omega) (by omega))
  exact this (n - i).toNat i (Int.le_refl _) (by omega)
/-- the same with a state that is carried on -/
theorem z_iter {α : Type} {I : Int → α → Prop} {P : Int → α → Prop} {i n : Int} (hn : i ≤ n) (hs : ∀ k x, i ≤ k → k < n → I k x → (∀ y, I (k + 1) y → P (k + 1) y) → P k x) (he : ∀ x, I n x → P n x) : ∀ x, I i x → P i x :=
  z_down (P := fun k => ∀ x, I k x → P k x) hn he (fun k h1 h2 ih x hx => hs k x h1 h2 hx ih)
/-- the first number from i on, below n, with p; n if there is none -/
def zfstN (p : Int → Bool) : Nat → Int → Int
  | 0, i => i
  | k + 1, i => if p i = true then i else zfstN p k (i + 1)
def zfst (p : Int → Bool) (i n : Int) : Int := zfstN p (n - i).toNat i
theorem zfst_is (p : Int → Bool) {i n : Int} (h : i ≤ n) : i ≤ zfst p i n ∧ zfst p i n ≤ n ∧ (∀ j, i ≤ j → j < zfst p i n → p j = false) ∧ (zfst p i n < n → p (zfst p i n) = true) := by
  have : ∀ (k : Nat) (i : Int), i + k = n → i ≤ zfstN p k i ∧ zfstN p k i ≤ n ∧ (∀ j, i ≤ j → j < zfstN p k i → p j = false) ∧ (zfstN p k i < n → p (zfstN p k i) = true) := by
    intro k
    induction k with
    | zero =>
      intro i hi
      have e : zfstN p 0 i = i := rfl
      rw [e]
      exact ⟨Int.le_refl _, by omega, fun j a b => by omega, fun a => by omega⟩
    | succ k ih =>
      intro i hi
      have e : zfstN p (k + 1) i = if p i = true then i else zfstN p k (i + 1) := rfl
      rw [e]
      by_cases hp : p i = true
      · rw [if_pos hp]
        exact ⟨Int.le_refl _, by omega, fun j a b => by omega, fun _ => hp⟩
      · rw [if_neg hp]
        obtain ⟨a, b, c, d⟩ := ih (i + 1) (by omega)
        refine ⟨by omega, b, fun j j1 j2 => ?_, d⟩
        by_cases e : j = i
        · rw [e]; simpa using hp
        · exact c j (by omega) j2
  exact this (n - i).toNat i (by omega)
theorem zfst_eq {p : Int → Bool} {i n k : Int} (h1 : i ≤ k) (h2 : k ≤ n) (h3 : ∀ j, i ≤ j → j < k → p j = false) (h4 : k < n → p k = true) : zfst p i n = k := by
  obtain ⟨a, b, c, d⟩ := zfst_is p (i := i) (n := n) (by omega)
  rcases Int.lt_trichotomy (zfst p i n) k with e | e | e
  · have := h3 _ a e
    rw [d (by omega)] at this
    cases this
  · exact e
  · have := c k h1 e
    rw [h4 (by omega)] at this
    cases this
/-- a search: a loop that leaves at the first k with p -/
theorem z_search {F E : Int → Prop} {p : Int → Bool} {i n : Int} (hn : i ≤ n) (h : ∀ k, i ≤ k → k < n → (p k = true → F k = E k) ∧ (p k = false → F k = F (k + 1))) : (zfst p i n < n → F i = E (zfst p i n)) ∧ (zfst p i n = n → F i = F n) := by
  obtain ⟨a, b, c, d⟩ := zfst_is p hn
  have e : F i = F (zfst p i n) := z_chainA a (fun k h1 h2 => (h k h1 (by omega)).2 (c k h1 h2))
  exact ⟨fun q => e.trans ((h _ a q).1 (d q)), fun q => by rw [e, q]⟩
/-! loading -/
section
variable {d m : Nat} {Q : zO → zH → Prop} {r : List Instr} {L st : List Value} {s : zS} {V : zV} {a : Nat} {j n : Int}
theorem r_ial (ht : s.tg a = 20) (h1 : 0 ≤ j) (h2 : j < s.ln a) (h3 : s.ln a ≤ 1000000) : zwp (zcall d) m Q (.iaload :: r) L (zi j :: .ref a :: st) (s, V) = zwp (zcall d) m Q r L (V a j :: st) (s, V) := r_iaload (Or.inl ht) h1 h2 h3
theorem r_ial30 (ht : s.tg a = 30) (h1 : 0 ≤ j) (h2 : j < s.ln a) (h3 : s.ln a ≤ 1000000) : zwp (zcall d) m Q (.iaload :: r) L (zi j :: .ref a :: st) (s, V) = zwp (zcall d) m Q r L (V a j :: st) (s, V) := r_iaload (Or.inr (Or.inl ht)) h1 h2 h3
theorem r_ial32 (ht : s.tg a = 32) (h1 : 0 ≤ j) (h2 : j < s.ln a) (h3 : s.ln a ≤ 1000000) : zwp (zcall d) m Q (.iaload :: r) L (zi j :: .ref a :: st) (s, V) = zwp (zcall d) m Q r L (V a j :: st) (s, V) := r_iaload (Or.inr (Or.inr ht)) h1 h2 h3
end
theorem z1n : zC1 [] = true := rfl
theorem z1i {x : Int} {l : List Value} : zC1 (zi x :: l) = zC1 l := rfl
theorem z1r {a : Nat} {l : List Value} : zC1 (.ref a :: l) = zC1 l := rfl
theorem z1I {x : Int} {l : List Value} (h : zC1 l = true) : zC1 (zi x :: l) = true := h
theorem z1R {a : Nat} {l : List Value} (h : zC1 l = true) : zC1 (.ref a :: l) = true := h
/-! bits -/
theorem zi32 {x : Int} (h1 : -2147483648 ≤ x) (h2 : x < 2147483648) : (Int32.ofInt x).toInt = x := z_rng h1 h2
theorem zi_inj {x y : Int} (h1 : -2147483648 ≤ x) (h2 : x < 2147483648) (h3 : -2147483648 ≤ y) (h4 : y < 2147483648) (h : zi x = zi y) : x = y := by
  have := congrArg Int32.toInt (Value.int.inj h)
  rwa [z_rng h1 h2, z_rng h3 h4] at this
/-! folds over 0 .. k - 1 -/
def zfoN {α : Type} (f : Int → α → α) (x : α) : Nat → α
  | 0 => x
  | k + 1 => f k (zfoN f x k)
def zfo {α : Type} (f : Int → α → α) (x : α) (k : Int) : α := zfoN f x k.toNat
theorem zfo_0 {α : Type} {f : Int → α → α} {x : α} : zfo f x 0 = x := rfl
theorem zfo_s {α : Type} {f : Int → α → α} {x : α} {k : Int} (h : 0 ≤ k) : zfo f x (k + 1) = f k (zfo f x k) := by
  unfold zfo
  rw [show (k + 1).toNat = k.toNat + 1 by omega]
  show f (k.toNat : Int) (zfoN f x k.toNat) = _
  rw [Int.toNat_of_nonneg h]
theorem zfo_congr {α : Type} {f g : Int → α → α} {x : α} {k : Int} (hk : 0 ≤ k) (h : ∀ j y, 0 ≤ j → j < k → f j y = g j y) : zfo f x k = zfo g x k := by
  have : ∀ n : Nat, (n : Int) ≤ k → zfoN f x n = zfoN g x n := by
    intro n
    induction n with
    | zero => intro _; rfl
    | succ n ih =>
      intro hn
      show f n (zfoN f x n) = g n (zfoN g x n)
      rw [ih (by omega)]
      exact h n _ (by omega) (by omega)
  exact this k.toNat (by omega)
/-- a property that every turn of a fold keeps -/
theorem zfo_inv {α : Type} {f : Int → α → α} {x : α} {k : Int} (I : Int → α → Prop) (h0 : I 0 x) (hs : ∀ j y, 0 ≤ j → j < k → I j y → I (j + 1) (f j y)) (hk : 0 ≤ k) : I k (zfo f x k) := by
  have : ∀ n : Nat, (n : Int) ≤ k → I n (zfoN f x n) := by
    intro n
    induction n with
    | zero => intro _; exact h0
    | succ n ih =>
      intro hn
      exact hs n _ (by omega) (by omega) (ih (by omega))
  have := this k.toNat (by omega)
  rwa [Int.toNat_of_nonneg hk] at this
/-- is there one with p from i on below n -/
def zany (p : Int → Bool) (i n : Int) : Bool := decide (zfst p i n < n)
theorem zany_iff (p : Int → Bool) {i n : Int} : zany p i n = true ↔ ∃ k, i ≤ k ∧ k < n ∧ p k = true := by
  unfold zany
  rw [decide_eq_true_eq]
  by_cases hn : i ≤ n
  · obtain ⟨a, b, c, d⟩ := zfst_is p hn
    constructor
    · exact fun h => ⟨_, a, h, d h⟩
    · rintro ⟨k, h1, h2, h3⟩
      rcases Int.lt_or_le (zfst p i n) n with e | e
      · exact e
      · have := c k h1 (by omega)
        rw [h3] at this
        cases this
  · constructor
    · intro h
      unfold zfst at h
      rw [show (n - i).toNat = 0 by omega] at h
      have h : i < n := h
      omega
    · rintro ⟨k, h1, h2, h3⟩
      omega
theorem zany_f (p : Int → Bool) {i n : Int} : zany p i n = false ↔ ∀ k, i ≤ k → k < n → p k = false := by
  constructor
  · intro h k h1 h2
    cases e : p k
    · rfl
    · rw [(zany_iff p).mpr ⟨k, h1, h2, e⟩] at h
      cases h
  · intro h
    cases e : zany p i n
    · rfl
    · obtain ⟨k, h1, h2, h3⟩ := (zany_iff p).mp e
      rw [h k h1 h2] at h3
      cases h3
theorem zany_congr {p q : Int → Bool} {i n : Int} (h : ∀ k, i ≤ k → k < n → p k = q k) : zany p i n = zany q i n := by
  rw [Bool.eq_iff_iff, zany_iff, zany_iff]
  constructor
  · rintro ⟨k, a, b, c⟩
    exact ⟨k, a, b, by rw [← h k a b]; exact c⟩
  · rintro ⟨k, a, b, c⟩
    exact ⟨k, a, b, by rw [h k a b]; exact c⟩
/-- a search loop that answers one of two things -/
theorem z_searchB {F : Int → Prop} {p : Int → Bool} {A B : Prop} {i n : Int} (hn : i ≤ n) (h : ∀ k, i ≤ k → k < n → F k = if p k = true then A else F (k + 1)) (he : F n = B) : F i = if zany p i n = true then A else B := by
  obtain ⟨h1, h2⟩ := z_search (F := F) (E := fun _ => A) (p := p) hn (fun k a b => ⟨fun e => by rw [h k a b, if_pos e], fun e => by rw [h k a b, if_neg (by rw [e]; decide)]⟩)
  unfold zany
  obtain ⟨a, b, -, -⟩ := zfst_is p hn
  by_cases c : zfst p i n < n
  · rw [if_pos (by simpa using c), h1 c]
  · rw [if_neg (by simpa using c), h2 (by omega), he]
