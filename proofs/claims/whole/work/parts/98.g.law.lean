/-! THE LAW, 3: what stays well; both worlds side by side -/
section
variable {d m : Nat} {Q : zO → zH → Prop} {r : List Instr} {L st : List Value} {h : zH} {x l : Int}
theorem r_icmp_self : zwp (zcall d) m Q (.if_icmp .eq l :: r) L (zi x :: zi x :: st) h = zwp (zcall d) m Q (zB m l) L st h := by
  rw [zw]
  show (match (if Int32.ofInt x = Int32.ofInt x then some (zB m l, L, st, h) else some (r, L, st, h)) with | some q => zwp (zcall d) m Q q.1 q.2.1 q.2.2.1 q.2.2.2 | none => False) = _
  rw [if_pos rfl]
theorem zcmp0 {t : Int64} : Value.int (lg_cmp t t) = zi 0 := by
  unfold lg_cmp
  rw [if_neg (fun q : t > t => Int64.lt_irrefl q), if_pos rfl]
  rfl
end
section
variable {σ : zσ}
theorem o_addService (ho : zOK σ) {x : Int} (q1 : 1 ≤ x ∧ x ≤ 100) (q2 : ¬ (σ.r.n = 12)) : zOK (σ.sv (σ.r.addS x)) := by
  obtain ⟨n0, n1, c0, c1⟩ := ho.1.1
  exact ho.sv (ho.1.addS (by omega) q1.1 q1.2)
theorem o_addCall (ho : zOK σ) {x y l t k : Int} (q1 : (0 ≤ x ∧ x < σ.r.n) ∧ 0 ≤ y ∧ y < σ.r.n) (q2 : ((1 ≤ l ∧ l ≤ 500) ∧ 1 ≤ t ∧ t ≤ 3) ∧ 0 ≤ k ∧ k ≤ 2) (q3 : ¬ (((x = y ∨ zin (zNeeds σ.r y) x = true) ∨ k = 2 ∧ zHd σ.r x σ.r.c.toNat = -1) ∨ σ.r.c = 24)) : zOK (σ.sv (σ.r.addK x y l t k)) := by
  obtain ⟨n0, n1, c0, c1⟩ := ho.1.1
  obtain ⟨q4, q5⟩ := not_or.mp q3
  obtain ⟨q6, q7⟩ := not_or.mp q4
  obtain ⟨q8, q9⟩ := not_or.mp q6
  exact ho.sv (ho.1.addK (by omega) q1.1 q1.2 q2.1.1 q2.1.2 q2.2 q8 (by simpa using q9) (fun e h => q7 ⟨e, h⟩))
theorem o_removeCall (ho : zOK σ) {k : Int} (q1 : 0 ≤ k ∧ k < σ.r.c) (q2 : ¬ (zany (fun j => decide (zLead σ.r j = k)) 0 σ.r.c = true)) : zOK (σ.sv (σ.r.delK k)) := by
  have q3 := (zany_f (fun j => decide (zLead σ.r j = k)) (i := 0) (n := σ.r.c)).mp (by simpa using q2)
  exact ho.sv (ho.1.delK q1.1 q1.2 (fun j j0 j1 e => by
    have := q3 j j0 j1
    rw [decide_eq_false_iff_not] at this
    exact this e))
theorem o_set (ho : zOK σ) {u x v : Int} (_q1 : 0 ≤ x ∧ x < σ.r.n) (q2 : (0 ≤ u ∧ u ≤ 5) ∧ zLeast u ≤ v ∧ v ≤ zMost u) : zOK (σ.sv (σ.r.sS u x v)) := ho.sv (ho.1.sS q2.1.1 q2.1.2 q2.2.1 q2.2.2)
theorem o_setLimit (ho : zOK σ) {k v : Int} (_q1 : 0 ≤ k ∧ k < σ.r.c) (q2 : 1 ≤ v ∧ v ≤ 500) : zOK (σ.sv (σ.r.sK 2 k v)) := ho.sv (ho.1.sK2 q2.1 q2.2)
theorem o_fail (ho : zOK σ) {x : Int} (_q1 : 0 ≤ x ∧ x < σ.r.n) (_q2 : σ.r.S 6 x = 1) : zOK (σ.sv (zGd σ.r x)) := ho.sv ho.1.gd
theorem o_repair (ho : zOK σ) {x : Int} (q1 : 0 ≤ x ∧ x < σ.r.n) (_q2 : σ.r.S 6 x ≠ 1 ∧ σ.r.S 8 x = -1) : zOK (σ.sv (σ.r.sS 8 x (σ.r.S 3 x))) := ho.sv (ho.1.rep q1.1 q1.2)
theorem o_steps (ho : zOK σ) {x : Int} (_q1 : 1 ≤ x ∧ x ≤ 50) : zOK (σ.sv (zSteps σ.r x.toNat)) := ho.sv (zSteps_wf ho.1 _).2
theorem o_tighten (ho : zOK σ) : zOK (σ.sv (zTight σ.r)) := ho.sv (zTight_wf ho.1).2
theorem o_undo (ho : zOK σ) (q1 : ¬ σ.p = 0) : zOK (σ.H (σ.p.toNat - 1), (σ.p - 1, σ.H), σ.2.2) := by
  obtain ⟨h1, ⟨p0, p1⟩, h3, h4, h5⟩ := ho
  exact ⟨h3 _ (by omega), ⟨by show 0 ≤ σ.p - 1; omega, by show σ.p - 1 ≤ 4; omega⟩, fun k hk => h3 k (by have hk : (k : Int) < σ.p - 1 := hk; omega), h4, h5⟩
theorem o_execute (ho : zOK σ) {X : Int} (hx : zXis σ.T σ.m σ.r X) : zOK (zXst σ.T σ.m X σ.r, (zXp σ.T σ.m X σ.p, zXh σ.T σ.m X σ.p σ.H σ.r), σ.2.2) := by
  have hW := zXs_wf ho.1 hx
  have hs := ho.sv hW
  by_cases c : zXa σ.T σ.m X = true
  · have e1 : zXp σ.T σ.m X σ.p = (zHiQ σ.p + 1 : Nat) := if_pos c
    have e2 : zXh σ.T σ.m X σ.p σ.H σ.r = zHiN σ.p σ.H σ.r := if_pos c
    rw [e1, e2]
    exact hs
  · have e1 : zXp σ.T σ.m X σ.p = σ.p := if_neg c
    have e2 : zXh σ.T σ.m X σ.p σ.H σ.r = σ.H := if_neg c
    rw [e1, e2]
    exact ⟨hW, ho.2⟩
theorem o_request (ho : zOK σ) {x b : Int} (q1 : 0 ≤ x ∧ x < σ.r.n) (q2 : 0 ≤ b ∧ b ≤ 1000) (q3 : zNok2 (zSv σ.r 12 x 0 b zN0).2) : zOK (σ.rq (zSv σ.r 12 x 0 b zN0)) := by
  obtain ⟨h1, h2, h3, h4, h5⟩ := ho
  have := zSv_tok h1 12 x 0 b zN0 q1.1 q1.2 q2.1
  generalize zSv σ.r 12 x 0 b zN0 = Z at this q3 ⊢
  exact ⟨h1, h2, h3, h4, fun _ => ⟨q3, this.1, by show Z.1.1 ≤ 1000; omega⟩⟩
theorem o_append (ho : zOK σ) {x : Int} (q1 : 0 ≤ x ∧ x ≤ 127) (q2 : σ.m < 120) : zOK (σ.tx (σ.m + 1) (fun k => if k = σ.m then x else σ.T k)) := by
  obtain ⟨h1, h2, h3, ⟨⟨h4, h6⟩, h7⟩, h5⟩ := ho
  refine ⟨h1, h2, h3, ⟨⟨?_, ?_⟩, fun k k0 k1 => ?_⟩, h5⟩
  · show 0 ≤ σ.m + 1; omega
  · show σ.m + 1 ≤ 120; omega
  · have k1 : k < σ.m + 1 := k1
    show 0 ≤ (if k = σ.m then x else σ.T k) ∧ (if k = σ.m then x else σ.T k) ≤ 127
    split
    · exact q1
    · exact h7 k k0 (by omega)
theorem o_clearText (ho : zOK σ) : zOK (σ.tx 0 σ.T) := by
  obtain ⟨h1, h2, h3, -, h5⟩ := ho
  exact ⟨h1, h2, h3, ⟨⟨by show (0 : Int) ≤ 0; omega, by show (0 : Int) ≤ 120; omega⟩, fun k k0 k1 => absurd (show k < 0 from k1) (by omega)⟩, h5⟩
theorem o_calm (ho : zOK σ) : ∀ x, 0 ≤ x → x < σ.r.n → zDown (zSteps (zGd σ.r x) 40) ≠ 0 := by
  intro x x0 x1 e
  have hW := ho.1.gd (x := x)
  obtain ⟨h1, h2⟩ := zSteps_wf hW 40
  have hn : (zSteps (zGd σ.r x) 40).n = σ.r.n := h1.n
  have hs := zSteps_stay hW x0 x1 zStay.gd 40
  have := (zDown_in h2 x0).mpr ⟨by rw [hn]; exact x1, by rw [hs.1]; decide⟩
  rw [e, zin_zero] at this
  cases this
theorem o_start (ho : zOK σ) {c : Int} : ∀ y, 0 ≤ y → y < σ.r.n → ¬ σ.r.S 6 y = 1 → 1 ≤ c ∧ c ≤ 4 → (zQR σ.r c).2 y ≠ -1 := fun y y0 y1 hy hc => (zQR_ok ho.1 hc.1).2.2 y y0 ((zDown_in ho.1 y0).mpr ⟨y1, hy⟩)
end
section
variable {σ : zσ} {s s' : zS} {V V' : zV} {n k N : Nat} {X : Int → Int}
/-- the script -/
def zSc (N : Nat) (X : Int → Int) (s : zS) (V : zV) : Prop := s.tg 4 = 32 ∧ s.ln 4 = (N : Int) ∧ ∀ j, 0 ≤ j → j < (N : Int) → V 4 j = zi (X j)
theorem zSc.cg (h : zSc N X s V) (hx : zExt s s' n k) (hs : 192 ≤ s.sz) (hV : V' 4 = V 4) : zSc N X s' V' := ⟨(hx.t hs (by omega)).trans h.1, (hx.l hs (by omega)).trans h.2.1, by rw [hV]; exact h.2.2⟩
theorem zWm.ah (h : zWm σ s V) (g : ∀ r, 164 ≤ r → r < 191 → s'.tg r = s.tg r ∧ s'.ln r = s.ln r ∧ V' r = V r) : zWm σ s' V' := by
  obtain ⟨⟨t, hM⟩, hC, hI, ⟨a, b, c⟩, hX, ⟨i1, i2⟩, hR⟩ := h
  have hV : ∀ r, 164 ≤ r → r < 191 → V' r = V r := fun r r0 r1 => (g r r0 r1).2.2
  have e : V' 164 = V 164 := hV 164 (by omega) (by omega)
  have e6 : V' 166 = V 166 := hV 166 (by omega) (by omega)
  refine ⟨⟨(g 164 (by omega) (by omega)).1.trans t, fun i hi => ?_⟩, hC.fr (hV 165 (by omega) (by omega)), ?_, ⟨by rw [e]; exact a, ?_, fun k hk => ?_⟩, ⟨by rw [e]; exact hX.1, by rw [hV 168 (by omega) (by omega)]; exact hX.2⟩, ⟨?_, ?_⟩, hR.cg rfl (by rw [e]) (hV 183 (by omega) (by omega)) (hV 184 (by omega) (by omega)) (hV 185 (by omega) (by omega))⟩
  · obtain ⟨b1, b2, b3⟩ := hM i hi
    exact ⟨by rw [e]; exact b1, (g _ (by omega) (by omega)).1.trans b2, (g _ (by omega) (by omega)).2.1.trans b3⟩
  · unfold zInts; rw [hV 165 (by omega) (by omega)]; exact hI
  · unfold zInts; rw [e6]; exact b
  · unfold zMCr; rw [e6]; exact c k hk
  · unfold zInts; rw [hV 181 (by omega) (by omega)]; exact i1
  · unfold zInts; rw [hV 182 (by omega) (by omega)]; exact i2
theorem zWm.cg (h : zWm σ s V) (hx : zExt s s' n k) (hs : 192 ≤ s.sz) (hV : ∀ r, 164 ≤ r → r < 191 → V' r = V r) : zWm σ s' V' := h.ah (fun r r0 r1 => ⟨hx.t hs (by omega), hx.l hs (by omega), hV r r0 r1⟩)
/-- what a call of the class leaves of the model and the script -/
theorem zWm.st (h : zWm σ s V) (hS : zSc N X s V) (hs : 192 ≤ s.sz) (hx : zExt s s' 1 6012) (hV : ∀ r : Nat, r < 6 ∨ 164 ≤ r → r < 191 → V' r = V r) : zWm σ s' V' ∧ zSc N X s' V' := ⟨h.cg hx hs (fun r r0 r1 => hV r (by omega) r1), hS.cg hx hs (hV 4 (by omega) (by omega))⟩
theorem zWc.f9 (h : zWc σ s V) (ho : zOK σ) (hf : zFr9 V V') : zWc σ s V' := h.cg ho (zExt.rf (n := 1) (k := 6012)) (fun r hr => hf r (by omega))
theorem zSc.f9 (h : zSc N X s V) (hf : zFr9 V V') : zSc N X s V' := ⟨h.1, h.2.1, by rw [hf 4 (by omega)]; exact h.2.2⟩
/-- what is owed at the end of a case -/
def zLnx (d N : Nat) (X : Int → Int) (i : Int) (s : zS) : Prop := ∀ (σ' : zσ) (s' : zS) (V' : zV) (a b : Value), zOK σ' → zWc σ' s' V' → zWm σ' s' V' → zSc N X s' V' → zExt s s' 1 6012 → zwp (zcall d) 299 zLawQ (zB 299 106) [.ref 4, .ref 5, .ref 164, .ref 191, zi i, a, b] [] (s', V')
end
