/-! STATE, 4: a step; copying -/
/-- one service's part of a step -/
def zTurn (ρ : zR) (v : Nat) (x : Int) (σ : zR) : zR := if zin v x = true then zMd σ x (zLack ρ x v) else
  if (zSt σ x (zLack ρ x v)).S 2 x ≤ (zSt σ x (zLack ρ x v)).S 7 x then zGd (zSt σ x (zLack ρ x v)) x else zSt σ x (zLack ρ x v)
def zFell (ρ : zR) (v : Nat) (x : Int) (σ : zR) : Bool := !zin v x && decide ((zSt σ x (zLack ρ x v)).S 2 x ≤ (zSt σ x (zLack ρ x v)).S 7 x)
/-- the state and the fallen behind the first k services -/
def zStp (ρ : zR) (k : Int) : zR × Nat := zfo (fun x q => (zTurn ρ (zDown ρ) x q.1, if zFell ρ (zDown ρ) x q.1 = true then q.2 ||| zone x else q.2)) (ρ, 0) k
def zStep (ρ : zR) : zR := (zStp ρ ρ.n).1
/-- what two states have in common that differ in ups, strains and rests alone -/
def zSame (ρ σ : zR) : Prop := σ.1 = ρ.1 ∧ σ.2.1 = ρ.2.1 ∧ σ.2.2.2 = ρ.2.2.2 ∧ ∀ w x, w ≠ 6 → w ≠ 7 → w ≠ 8 → σ.S w x = ρ.S w x
theorem zSame.rf {ρ : zR} : zSame ρ ρ := ⟨rfl, rfl, rfl, fun _ _ _ _ _ => rfl⟩
theorem zSame.tr {ρ σ τ : zR} (h : zSame ρ σ) (h' : zSame σ τ) : zSame ρ τ := ⟨h'.1.trans h.1, h'.2.1.trans h.2.1, h'.2.2.1.trans h.2.2.1, fun w x a b c => (h'.2.2.2 w x a b c).trans (h.2.2.2 w x a b c)⟩
theorem zSame.sS {ρ : zR} {w x v : Int} (hw : w = 6 ∨ w = 7 ∨ w = 8) : zSame ρ (ρ.sS w x v) := ⟨rfl, rfl, rfl, fun w' x' a b c => by rw [zR.sS_S, if_neg (by omega)]⟩
theorem zSame.n {ρ σ : zR} (h : zSame ρ σ) : σ.n = ρ.n := h.1
theorem zSame.c {ρ σ : zR} (h : zSame ρ σ) : σ.c = ρ.c := h.2.1
theorem zSame.K {ρ σ : zR} (h : zSame ρ σ) : σ.K = ρ.K := by
  funext w k
  show σ.2.2.2 w k = ρ.2.2.2 w k
  rw [h.2.2.1]
theorem zSame.gd {ρ : zR} {x : Int} : zSame ρ (zGd ρ x) := (zSame.sS (by omega)).tr ((zSame.sS (by omega)).tr (zSame.sS (by omega)))
theorem zSame.md {ρ : zR} {x : Int} {b : Bool} : zSame ρ (zMd ρ x b) := by
  unfold zMd
  split
  · exact zSame.rf
  · split
    · exact (zSame.sS (by omega)).tr ((zSame.sS (by omega)).tr ((zSame.sS (by omega)).tr (zSame.sS (by omega))))
    · exact zSame.sS (by omega)
theorem zSame.st {ρ : zR} {x : Int} {b : Bool} : zSame ρ (zSt ρ x b) := by
  unfold zSt
  split
  · exact zSame.sS (by omega)
  · split
    · exact zSame.sS (by omega)
    · exact zSame.rf
theorem zSame.turn {ρ σ : zR} {v : Nat} {x : Int} : zSame σ (zTurn ρ v x σ) := by
  unfold zTurn
  split
  · exact zSame.md
  · split
    · exact zSame.st.tr zSame.gd
    · exact zSame.st
theorem zHd_K {ρ σ : zR} (h : σ.K = ρ.K) (x : Int) (j : Nat) : zHd σ x j = zHd ρ x j := zHd_congr (fun k _ _ => by rw [h]; exact ⟨rfl, Iff.rfl⟩)
theorem zLead_K {ρ σ : zR} (h : σ.K = ρ.K) : zLead σ = zLead ρ := by
  funext k
  unfold zLead
  rw [h, zHd_K h]
theorem zLack_K {ρ σ : zR} (h : σ.K = ρ.K) (hc : σ.c = ρ.c) : zLack σ = zLack ρ := by
  funext x v
  unfold zLack zGrp
  rw [h, hc, zLead_K h]
theorem zDep_K {ρ σ : zR} (h : σ.K = ρ.K) (hc : σ.c = ρ.c) : zDep σ = zDep ρ := by
  have : zEd σ = zEd ρ := by
    funext x y
    unfold zEd
    rw [h, hc]
  unfold zDep
  rw [this]
/-- the ranges of what a step changes -/
def zRg (ρ : zR) (x : Int) : Prop := (0 ≤ ρ.S 6 x ∧ ρ.S 6 x ≤ 1) ∧ (0 ≤ ρ.S 7 x ∧ ρ.S 7 x ≤ 9) ∧ (-1 ≤ ρ.S 8 x ∧ ρ.S 8 x ≤ 20)
theorem zWF.same {ρ σ : zR} (hW : zWF ρ) (h : zSame ρ σ) (hr : ∀ x, 0 ≤ x → x < ρ.n → zRg σ x) : zWF σ := by
  obtain ⟨w1, w2, w3, w4, w5⟩ := hW
  refine ⟨by rw [h.n, h.c]; exact w1, fun x h1 h2 => ?_, fun k h1 h2 => ?_, ?_, ?_⟩
  · rw [h.n] at h2
    have e := w2 x h1 h2
    have e2 := hr x h1 h2
    have g := h.2.2.2
    rw [g 0 x (by omega) (by omega) (by omega), g 1 x (by omega) (by omega) (by omega), g 2 x (by omega) (by omega) (by omega), g 3 x (by omega) (by omega) (by omega), g 4 x (by omega) (by omega) (by omega), g 5 x (by omega) (by omega) (by omega)]
    exact ⟨e.1, e.2.1, e.2.2.1, e.2.2.2.1, e.2.2.2.2.1, e.2.2.2.2.2.1, e2⟩
  · rw [h.K, h.n]
    rw [h.c] at h2
    exact w3 k h1 h2
  · rw [zDep_K h.K h.c]
    exact w4
  · intro k h1 h2
    rw [h.K, zHd_K h.K]
    rw [h.c] at h2
    exact w5 k h1 h2
theorem zRg.turn {ρ σ : zR} {v : Nat} {x y : Int} (hr : zRg σ y) (ht : 1 ≤ σ.S 2 y ∧ σ.S 2 y ≤ 9) : zRg (zTurn ρ v x σ) y := by
  by_cases hxy : y = x
  · subst hxy
    obtain ⟨⟨a1, a2⟩, ⟨b1, b2⟩, c1, c2⟩ := hr
    unfold zTurn
    split
    · unfold zMd
      split
      · exact ⟨⟨a1, a2⟩, ⟨b1, b2⟩, c1, c2⟩
      · split
        · unfold zRg
          simp only [zR.sS_S]
          simp
        · unfold zRg
          simp only [zR.sS_S]
          simp
          split <;> omega
    · have e2 : (zSt σ y (zLack ρ y v)).S 2 y = σ.S 2 y := zSame.st.2.2.2 2 y (by omega) (by omega) (by omega)
      rw [e2]
      split
      · unfold zRg zGd
        simp only [zR.sS_S]
        simp
      · rename_i q
        unfold zRg
        unfold zSt at q ⊢
        split
        · rw [if_pos (by assumption)] at q
          simp only [zR.sS_S] at q ⊢
          simp at q ⊢
          omega
        · rw [if_neg (by assumption)] at q
          split
          · rw [if_pos (by assumption)] at q
            simp only [zR.sS_S] at q ⊢
            simp at q ⊢
            omega
          · exact ⟨⟨a1, a2⟩, ⟨b1, b2⟩, c1, c2⟩
  · have e : ∀ (τ : zR) (w v' : Int), (∀ w', τ.S w' y = σ.S w' y) → ∀ w', (τ.sS w x v').S w' y = σ.S w' y := fun τ w v' h w' => by rw [zR.sS_S, if_neg (by omega)]; exact h w'
    have e0 : ∀ w', σ.S w' y = σ.S w' y := fun _ => rfl
    have eS : ∀ b w', (zSt σ x b).S w' y = σ.S w' y := by
      intro b w'
      unfold zSt
      split
      · exact e _ _ _ e0 w'
      · split
        · exact e _ _ _ e0 w'
        · rfl
    have : ∀ w', (zTurn ρ v x σ).S w' y = σ.S w' y := by
      intro w'
      unfold zTurn
      split
      · unfold zMd
        split
        · rfl
        · split
          · exact e _ _ _ (e _ _ _ (e _ _ _ (e _ _ _ e0))) w'
          · exact e _ _ _ e0 w'
      · split
        · exact e _ _ _ (e _ _ _ (e _ _ _ (eS _))) w'
        · exact eS _ w'
    unfold zRg
    rw [this, this, this]
    exact hr
/-- all along a step -/
theorem zStp_inv {ρ : zR} (hW : zWF ρ) {k : Int} (h0 : 0 ≤ k) (h1 : k ≤ ρ.n) : zSame ρ (zStp ρ k).1 ∧ (∀ x, 0 ≤ x → x < ρ.n → zRg (zStp ρ k).1 x) ∧ (zStp ρ k).2 < 4096 := by
  refine zfo_inv (fun _ (q : zR × Nat) => zSame ρ q.1 ∧ (∀ x, 0 ≤ x → x < ρ.n → zRg q.1 x) ∧ q.2 < 4096) ⟨zSame.rf, fun x a b => (hW.2.1 x a b).2.2.2.2.2.2, by show (0 : Nat) < 4096; omega⟩ (fun j q j0 j1 hq => ?_) h0
  have hn := hW.1
  refine ⟨hq.1.tr zSame.turn, fun x a b => (hq.2.1 x a b).turn ?_, ?_⟩
  · rw [hq.1.2.2.2 2 x (by omega) (by omega) (by omega)]
    exact (hW.2.1 x a b).2.2.1
  · dsimp only
    split
    · exact zor_lt hq.2.2 (zone_lt (by omega))
    · exact hq.2.2
theorem zStep_wf {ρ : zR} (hW : zWF ρ) : zSame ρ (zStep ρ) ∧ zWF (zStep ρ) := by
  have := zStp_inv hW hW.1.1 (Int.le_refl _)
  exact ⟨this.1, hW.same this.1 this.2.1⟩
