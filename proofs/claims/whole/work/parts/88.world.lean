/-! THE WORLD: all objects of the class, all of the model, and what they stand for -/
/-- state; past; text; the last request (is there one, its outcome, what it noted) -/
def zσ : Type := zR × (Int × (Nat → zR)) × (Int × (Int → Int)) × Bool × (Int × Bool) × zN
def zσ.r (σ : zσ) : zR := σ.1
def zσ.p (σ : zσ) : Int := σ.2.1.1
def zσ.H (σ : zσ) : Nat → zR := σ.2.1.2
def zσ.m (σ : zσ) : Int := σ.2.2.1.1
def zσ.T (σ : zσ) : Int → Int := σ.2.2.1.2
def zσ.q (σ : zσ) : Bool := σ.2.2.2.1
def zσ.o (σ : zσ) : Int × Bool := σ.2.2.2.2.1
def zσ.g (σ : zσ) : zN := σ.2.2.2.2.2
/-- another state, with the one before saved -/
def zσ.sv (σ : zσ) (ρ : zR) : zσ := (ρ, ((zHiQ σ.p + 1 : Nat), zHiN σ.p σ.H σ.r), σ.2.2)
def zOK (σ : zσ) : Prop := zWF σ.r ∧ (0 ≤ σ.p ∧ σ.p ≤ 4) ∧ (∀ k : Nat, (k : Int) < σ.p → zWF (σ.H k)) ∧ zTok2 σ.T σ.m ∧ (σ.q = true → zNok2 σ.g ∧ 0 ≤ σ.o.1 ∧ σ.o.1 ≤ 1000)
theorem zOK.sv {σ : zσ} (h : zOK σ) {ρ : zR} (hW : zWF ρ) : zOK (σ.sv ρ) := by
  obtain ⟨h1, ⟨p0, p1⟩, h3, h4, h5⟩ := h
  refine ⟨hW, ?_, ?_, h4, h5⟩
  · show 0 ≤ ((zHiQ σ.p + 1 : Nat) : Int) ∧ ((zHiQ σ.p + 1 : Nat) : Int) ≤ 4
    unfold zHiQ
    split <;> omega
  · intro k hk
    have hk : (k : Int) < ((zHiQ σ.p + 1 : Nat) : Int) := hk
    show zWF (zHiN σ.p σ.H σ.r k)
    unfold zHiN
    by_cases c : k < zHiQ σ.p
    · rw [if_pos c]
      unfold zHiQ at c
      split at c
      · rw [if_pos (by assumption)]
        exact h3 _ (by omega)
      · rw [if_neg (by assumption)]
        exact h3 _ (by omega)
    · rw [if_neg c]
      exact h1
section
variable {s s' : zS} {V V' : zV} {a n k : Nat} {ρ : zR}
theorem zExt.t (hx : zExt s s' n k) (hs : 192 ≤ s.sz) {r : Nat} (hr : r < 192) : s'.tg r = s.tg r := (hx.2.2 r (by omega)).1
theorem zExt.l (hx : zExt s s' n k) (hs : 192 ≤ s.sz) {r : Nat} (hr : r < 192) : s'.ln r = s.ln r := (hx.2.2 r (by omega)).2
theorem zLz.cg {o : Nat} {f : Int} {tg r0 : Nat} {m : Int} (h : zLz s V o f tg r0 m) (hx : zExt s s' n k) (e : V' o f = V o f) : zLz s' V' o f tg r0 m := by
  obtain ⟨r, r1, r2, r3, r4, r5⟩ := h
  have := hx.2.2 r r3
  have h1 := hx.1
  exact ⟨r, e.trans r1, r2, by omega, this.1.trans r4, by rw [this.2]; exact r5⟩
def zcA (s : zS) (V : zV) : Prop := zSB s V ∧ zSA s V ∧ zSM s V
theorem zcA.cg (h : zcA s V) (hx : zExt s s' n k) (hs : 192 ≤ s.sz) (hV : ∀ r, r < 6 → V' r = V r) : zcA s' V' := by
  obtain ⟨⟨a1, a2⟩, b, ⟨c1, c2, c3⟩⟩ := h
  refine ⟨⟨(hx.t hs (by omega)).trans a1, by rw [hV 5 (by omega)]; exact a2⟩, fun j hj => ?_, ⟨(hx.t hs (by omega)).trans c1, (hx.l hs (by omega)).trans c2, fun j hj => by rw [hV 3 (by omega)]; exact c3 j hj⟩⟩
  obtain ⟨b1, b2, b3⟩ := b j hj
  exact ⟨(hx.t hs (by omega)).trans b1, (hx.l hs (by omega)).trans b2, fun i hi => by rw [hV j (by omega)]; exact b3 i hi⟩
def zcB (ρ : zR) (s : zS) (V : zV) (a : Nat) : Prop := zStP s V a ∧ zStC ρ V a
theorem zcB.cg (h : zcB ρ s V a) (hx : zExt s s' n k) (hs : 192 ≤ s.sz) (ha : a + 18 ≤ 192) (hV : ∀ r, a ≤ r → r < a + 18 → V' r = V r) : zcB ρ s' V' a := ⟨h.1.ext hx (by omega) hV, h.2.rows hV⟩
def zcC (p : Int) (H : Nat → zR) (s : zS) (V : zV) : Prop := ∃ κ, zHiP s V κ ∧ zHiC p H V κ
theorem zcC.cg {p : Int} {H : Nat → zR} (h : zcC p H s V) (p1 : p ≤ 4) (hx : zExt s s' n k) (hs : 192 ≤ s.sz) (hV : ∀ r, 42 ≤ r → r < 116 → V' r = V r) : zcC p H s' V' := by
  obtain ⟨κ, ⟨t1, v1, t2, l2, hk, hK⟩, ⟨u1, u2⟩⟩ := h
  have hr : ∀ i, i < 4 → 44 ≤ κ i ∧ κ i + 18 ≤ 116 := fun i hi => by have := hK.1 i hi; omega
  refine ⟨κ, ⟨(hx.t hs (by omega)).trans t1, by rw [hV 42 (by omega) (by omega)]; exact v1, (hx.t hs (by omega)).trans t2, (hx.l hs (by omega)).trans l2, fun i hi => ?_, hK⟩, ⟨by rw [hV 42 (by omega) (by omega)]; exact u1, fun i hi => ?_⟩⟩
  · obtain ⟨k1, k2⟩ := hk i hi
    have := hr i hi
    exact ⟨by rw [hV 43 (by omega) (by omega)]; exact k1, k2.ext hx (by omega) (fun q q0 q1 => hV q (by omega) (by omega))⟩
  · have := hr i (by omega)
    exact (u2 i hi).rows (fun q q0 q1 => hV q (by omega) (by omega))
theorem zGP.cg (h : zGP s V) (hx : zExt s s' n k) (hs : 192 ≤ s.sz) (hV : V' 116 = V 116) : zGP s' V' := by
  obtain ⟨g1, g2, ⟨g3, g4, g5, g6⟩, g7, g8, g9, g10⟩ := h
  exact ⟨(hx.t hs (by omega)).trans g1, by rw [hV]; exact g2, ⟨(hx.t hs (by omega)).trans g3, (hx.t hs (by omega)).trans g4, (hx.t hs (by omega)).trans g5, (hx.t hs (by omega)).trans g6⟩, (hx.l hs (by omega)).trans g7, (hx.l hs (by omega)).trans g8, (hx.l hs (by omega)).trans g9, (hx.l hs (by omega)).trans g10⟩
def zcE (σ : zσ) (s : zS) (V : zV) : Prop := zRqP s V ∧ V 121 0 = zi (zb1 σ.q) ∧ (σ.q = true → zRqN σ.g V ∧ V 121 1 = zi (zOc σ.o)) ∧ (σ.q = false → V 121 6 = zi 0 ∧ V 121 7 = zi 0)
theorem zRqP.cg (h : zRqP s V) (hx : zExt s s' n k) (hs : 192 ≤ s.sz) (h1 : V' 121 = V 121) (h2 : V' 122 = V 122) (h7 : V' 127 = V 127) : zRqP s' V' := by
  obtain ⟨a1, a2, ⟨a3, a4⟩, ⟨a5, a6⟩, a7, a8⟩ := h
  refine ⟨(hx.t hs (by omega)).trans a1, by rw [h1]; exact a2, ⟨(hx.t hs (by omega)).trans a3, (hx.l hs (by omega)).trans a4⟩, ⟨(hx.t hs (by omega)).trans a5, (hx.l hs (by omega)).trans a6⟩, fun w hw => ?_, fun w hw => ?_⟩
  · obtain ⟨b1, b2, b3⟩ := a7 w hw
    exact ⟨by rw [h2]; exact b1, (hx.t hs (by omega)).trans b2, (hx.l hs (by omega)).trans b3⟩
  · obtain ⟨b1, b2, b3⟩ := a8 w hw
    exact ⟨by rw [h7]; exact b1, (hx.t hs (by omega)).trans b2, (hx.l hs (by omega)).trans b3⟩
theorem zcE.cg {σ σ' : zσ} (h : zcE σ s V) (hσ : σ'.2.2.2 = σ.2.2.2) (hx : zExt s s' n k) (hs : 192 ≤ s.sz) (hV : ∀ r, 121 ≤ r → r < 132 → V' r = V r) : zcE σ' s' V' := by
  obtain ⟨a1, a2, a3, a4⟩ := h
  have e1 : σ'.q = σ.q := congrArg Prod.fst hσ
  have e2 : σ'.o = σ.o := congrArg (fun z => z.2.1) hσ
  have e3 : σ'.g = σ.g := congrArg (fun z => z.2.2) hσ
  refine ⟨a1.cg hx hs (hV 121 (by omega) (by omega)) (hV 122 (by omega) (by omega)) (hV 127 (by omega) (by omega)), by rw [hV 121 (by omega) (by omega), e1]; exact a2, fun c => ?_, fun c => ?_⟩
  · rw [e1] at c
    obtain ⟨⟨b1, b2, b3⟩, b4⟩ := a3 c
    rw [e2, e3]
    exact ⟨⟨by rw [hV 121 (by omega) (by omega)]; exact b1, fun w hw k => by rw [hV _ (by omega) (by omega)]; exact b2 w hw k, fun w hw k => by rw [hV _ (by omega) (by omega)]; exact b3 w hw k⟩, by rw [hV 121 (by omega) (by omega)]; exact b4⟩
  · rw [e1] at c
    rw [hV 121 (by omega) (by omega)]
    exact a4 c
def zcF (s : zS) (V : zV) : Prop := s.tg 132 = 0 ∧ zLz s V 132 0 20 133 6012
theorem zcF.cg (h : zcF s V) (hx : zExt s s' n k) (hs : 192 ≤ s.sz) (hV : V' 132 = V 132) : zcF s' V' := ⟨(hx.t hs (by omega)).trans h.1, h.2.cg hx (by rw [hV])⟩
def zcG (s : zS) (V : zV) : Prop := zRvP s V ∧ zLz s V 134 3 20 138 4096
theorem zRvP.cg (h : zRvP s V) (hx : zExt s s' n k) (hs : 192 ≤ s.sz) (hV : V' 134 = V 134) : zRvP s' V' := by
  obtain ⟨a1, a2, ⟨a3, a4⟩, ⟨a5, a6⟩, a7, a8⟩ := h
  exact ⟨(hx.t hs (by omega)).trans a1, by rw [hV]; exact a2, ⟨(hx.t hs (by omega)).trans a3, (hx.l hs (by omega)).trans a4⟩, ⟨(hx.t hs (by omega)).trans a5, (hx.l hs (by omega)).trans a6⟩, (hx.t hs (by omega)).trans a7, (hx.l hs (by omega)).trans a8⟩
theorem zcG.cg (h : zcG s V) (hx : zExt s s' n k) (hs : 192 ≤ s.sz) (hV : V' 134 = V 134) : zcG s' V' := ⟨h.1.cg hx hs hV, h.2.cg hx (by rw [hV])⟩
def zcI (s : zS) (V : zV) : Prop := zFP s V ∧ zLz s V 139 2 22 154 4096
theorem zcI.cg (h : zcI s V) (hx : zExt s s' n k) (hs : 192 ≤ s.sz) (hV : V' 139 = V 139) (h2 : V' 140 = V 140) : zcI s' V' := ⟨h.1.ext hx hs ⟨by rw [hV], by rw [hV]⟩ h2, h.2.cg hx (by rw [hV])⟩
def zcJ (T : Int → Int) (m : Int) (s : zS) (V : zV) : Prop := zTxP s V ∧ zTxC T m V ∧ zTxI V
theorem zTxP.cg (h : zTxP s V) (hx : zExt s s' n k) (hs : 192 ≤ s.sz) (h0 : V' 155 0 = V 155 0 ∧ V' 155 2 = V 155 2 ∧ V' 155 3 = V 155 3) (h8 : V' 158 = V 158) : zTxP s' V' := by
  obtain ⟨a1, ⟨a2, a3, a4⟩, ⟨a5, a6⟩, ⟨a7, a8⟩, ⟨a9, a10⟩, a11⟩ := h
  refine ⟨(hx.t hs (by omega)).trans a1, ⟨h0.1.trans a2, h0.2.1.trans a3, h0.2.2.trans a4⟩, ⟨(hx.t hs (by omega)).trans a5, (hx.l hs (by omega)).trans a6⟩, ⟨(hx.t hs (by omega)).trans a7, (hx.l hs (by omega)).trans a8⟩, ⟨(hx.t hs (by omega)).trans a9, (hx.l hs (by omega)).trans a10⟩, fun w hw => ?_⟩
  obtain ⟨b1, b2, b3⟩ := a11 w hw
  exact ⟨by rw [h8]; exact b1, (hx.t hs (by omega)).trans b2, (hx.l hs (by omega)).trans b3⟩
theorem zcJ.cg {T : Int → Int} {m : Int} (h : zcJ T m s V) (hx : zExt s s' n k) (hs : 192 ≤ s.sz) (hV : ∀ r, 155 ≤ r → r < 164 → V' r = V r) : zcJ T m s' V' := by
  obtain ⟨a1, ⟨a2, a3⟩, a4⟩ := h
  have e := hV 155 (by omega) (by omega)
  exact ⟨a1.cg hx hs ⟨by rw [e], by rw [e], by rw [e]⟩ (hV 158 (by omega) (by omega)), ⟨by rw [e]; exact a2, fun i => by rw [hV 156 (by omega) (by omega)]; exact a3 i⟩, fun w hw i => by rw [hV _ (by omega) (by omega)]; exact a4 w hw i⟩
def zWc (σ : zσ) (s : zS) (V : zV) : Prop := zcA s V ∧ zcB σ.r s V 6 ∧ zStP s V 24 ∧ zcC σ.p σ.H s V ∧ zGP s V ∧ zcE σ s V ∧ zcF s V ∧ zcG s V ∧ zcI s V ∧ zcJ σ.T σ.m s V ∧ 192 ≤ s.sz ∧ s.tg 191 = 21 ∧ s.ln 191 = 1
/-- a call of the class leaves all else as it was, and the heap grows by little -/
def zSte (s : zS) (V : zV) (s' : zS) (V' : zV) : Prop := zExt s s' 1 6012 ∧ ∀ r : Nat, r < 6 ∨ 164 ≤ r → r < 192 → V' r = V r
theorem zSte.rf : zSte s V s V := ⟨zExt.rf, fun _ _ _ => rfl⟩
theorem zWc.cg {σ : zσ} (h : zWc σ s V) (ho : zOK σ) (hx : zExt s s' n k) (hV : ∀ r, r < 164 → V' r = V r) : zWc σ s' V' := by
  obtain ⟨hA, hB, hB2, hC, hD, hE, hF, hG, hI, hJ, hs, t1, l1⟩ := h
  have h1 := hx.1
  exact ⟨hA.cg hx hs (fun r hr => hV r (by omega)), hB.cg hx hs (by omega) (fun r _ hr => hV r (by omega)), hB2.ext hx (by omega) (fun r _ hr => hV r (by omega)), hC.cg ho.2.1.2 hx hs (fun r _ hr => hV r (by omega)), hD.cg hx hs (hV _ (by omega)), hE.cg rfl hx hs (fun r _ hr => hV r (by omega)), hF.cg hx hs (hV _ (by omega)), hG.cg hx hs (hV _ (by omega)), hI.cg hx hs (hV _ (by omega)) (hV _ (by omega)), hJ.cg hx hs (fun r _ hr => hV r (by omega)), by omega, (hx.t hs (by omega)).trans t1, (hx.l hs (by omega)).trans l1⟩
/-- rows below 121 written anew -/
theorem zWc.upd {σ : zσ} {ρ' : zR} {p' : Int} {H' : Nat → zR} (h : zWc σ s V) (hV : ∀ r, r < 6 ∨ 121 ≤ r → r < 192 → V' r = V r) (hB : zcB ρ' s V' 6) (hB2 : zStP s V' 24) (hC : zcC p' H' s V') (hD : zGP s V') : zSte s V s V' ∧ zWc (ρ', (p', H'), σ.2.2) s V' := by
  obtain ⟨hA, -, -, -, -, hE, hF, hG, hI, hJ, hs, t1, l1⟩ := h
  have z := zExt.rf (s := s) (n := 1) (k := 6012)
  exact ⟨⟨z, fun r r1 r2 => hV r (by omega) r2⟩, hA.cg z hs (fun r hr => hV r (by omega) (by omega)), hB, hB2, hC, hD, hE.cg rfl z hs (fun r r0 r1 => hV r (by omega) (by omega)), hF.cg z hs (hV _ (by omega) (by omega)), hG.cg z hs (hV _ (by omega) (by omega)), hI.cg z hs (hV _ (by omega) (by omega)) (hV _ (by omega) (by omega)), hJ.cg z hs (fun r r0 r1 => hV r (by omega) (by omega)), hs, t1, l1⟩
/-- the state saved, then changed -/
theorem zWc.mut {σ : zσ} {ρ' : zR} {V1 : zV} {κ1 : Nat → Nat} (h : zWc σ s V) (ho : zOK σ) (hW : zWF ρ') (f1 : zFrg 42 116 V V1) (hP1 : zHiP s V1 κ1) (hC1 : zHiC (zHiQ σ.p + 1 : Nat) (zHiN σ.p σ.H σ.r) V1 κ1) (f2 : zFr 6 V1 V') (hP2 : zStP s V' 6) (hC2 : zStC ρ' V' 6) : zSte s V s V' ∧ zWc (σ.sv ρ') s V' := by
  have e2 : ∀ r, (r < 6 ∨ 24 ≤ r) → (r < 42 ∨ 116 ≤ r) → V' r = V r := fun r r1 r2 => (f2 r (by omega)).trans (f1 r r2)
  have z := zExt.rf (s := s) (n := 1) (k := 6012)
  have hs := h.2.2.2.2.2.2.2.2.2.2.1
  have hc : zcC (zHiQ σ.p + 1 : Nat) (zHiN σ.p σ.H σ.r) s V1 := ⟨κ1, hP1, hC1⟩
  exact h.upd (fun r r1 r2 => e2 r (by omega) (by omega)) ⟨hP2, hC2⟩ (h.2.2.1.ext z (by omega) (fun r r0 r1 => e2 r (by omega) (by omega))) (hc.cg (ho.sv hW).2.1.2 z hs (fun r r0 r1 => f2 r (by omega))) (h.2.2.2.2.1.cg z hs (e2 _ (by omega) (by omega)))
/-- what a throw leaves -/
theorem zWc.thr {σ : zσ} (h : zWc σ s V) (ho : zOK σ) (t : Nat) (f : Int → Value) : zSte s V (s.new t 0 6) (zrow V s.sz f) ∧ zWc σ (s.new t 0 6) (zrow V s.sz f) := by
  have hx : zExt s (s.new t 0 6) 1 6012 := zExt.new (by omega) (by omega)
  have hs := h.2.2.2.2.2.2.2.2.2.2.1
  exact ⟨⟨hx, fun r _ hr => zrow_r (by omega)⟩, h.cg ho hx (fun r hr => zrow_r (by omega))⟩
/-- what is owed behind a throw; behind an answer -/
def zThr (Q : zO → zH → Prop) (e : Nat) (σ : zσ) (s : zS) (V : zV) : Prop := ∀ s' V', zSte s V s' V' → zWc σ s' V' → Q (.inr e) (s', V')
def zRet (Q : zO → zH → Prop) (x : Int) (σ : zσ) (s : zS) (V : zV) : Prop := ∀ s' V', zSte s V s' V' → zWc σ s' V' → Q (.inl (some (zi x))) (s', V')
end
section
variable {d : Nat} {s : zS} {V : zV} {Q : zO → zH → Prop} {σ : zσ} {h : zH}
theorem c_ref0 (hd : 6 ≤ d) : zcall d 156 [zi 0] (s, V) Q = Q (.inl none) (s, V) := by
  obtain ⟨e, rfl⟩ : ∃ e, d = e + 6 := ⟨d - 6, by omega⟩
  have := zc_ref (d := e) (z := 0) (s := s) (V := V) (Q := Q) (by omega) (by omega)
  rw [if_pos rfl] at this
  exact this
theorem c_refX (hd : 6 ≤ d) {z : Int} (h1 : 1 ≤ z) (h2 : z ≤ 3) : zcall d 156 [zi z] (s, V) Q = Q (.inr z.toNat) (s.new (10 + z.toNat) 0 6, zrow V s.sz (fun _ => .null)) := by
  obtain ⟨e, rfl⟩ : ∃ e, d = e + 6 := ⟨d - 6, by omega⟩
  have := zc_ref (d := e) (z := z) (s := s) (V := V) (Q := Q) (by omega) h2
  rw [if_neg (by omega)] at this
  exact this
end
