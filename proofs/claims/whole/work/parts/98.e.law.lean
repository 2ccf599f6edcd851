/-! THE LAW, 1: rules for its helpers -/
section
variable {d m : Nat} {Q : zO → zH → Prop} {r : List Instr} {L st : List Value} {h : zH} {x : Int}
theorem r_KH {X : List Instr → List Value → List Value → zH → Prop} {al : Bool} {k j : Nat} {lb : Int} {r2 : List Instr} (hA : al = true) (hE : zE m k = some lb) (hB : zB m lb = .astore j :: r2) (hj : j < L.length) (hp : zPrev L j = true) : zK al m Q X r L st (.inr k) h = X r2 (L.set j zJ) [] h := by
  unfold zK
  simp only [hE, hA, hB, true_and]
  exact propext ⟨fun q => q.2.2, fun q => ⟨hj, hp, q⟩⟩
theorem r_i2lR : zwp (zcall d) m Q (.i2l :: r) L (zi x :: st) h = zwp (zcall d) m Q r L (.long (Int32.ofInt x).toInt64 :: st) h := by rw [zw]; rfl
end
section
variable {d : Nat} {s : zS} {V : zV} {Q : zO → zH → Prop} {σ : zσ} {h : zH}
/-- what is owed behind a helper: its code; its answer in out[0] -/
def zLth (Q : zO → zH → Prop) (e : Int) (σ : zσ) (s : zS) (V : zV) : Prop := ∀ s' V', zSte s V s' V' → zWc σ s' V' → Q (.inl (some (zi e))) (s', V')
def zLrt (Q : zO → zH → Prop) (t : Int64) (σ : zσ) (s : zS) (V : zV) : Prop := ∀ s' V', zExt s s' 1 6012 → (∀ r : Nat, r < 6 ∨ 164 ≤ r → r < 191 → V' r = V r) → zWc σ s' V' → V' 191 0 = .long t → Q (.inl (some (zi 0))) (s', V')
theorem zLrt.go {s' : zS} {V' : zV} {t : Int64} (hQ : zLrt Q t σ s V) (ho : zOK σ) (hy : zSte s V s' V') (hw : zWc σ s' V') : Q (.inl (some (zi 0))) (s', zput V' 191 0 (.long t)) := by
  have z := zExt.rf (s := s') (n := 1) (k := 6012)
  exact hQ s' _ hy.1 (fun r r1 r2 => (zput_row (by omega)).trans (hy.2 r r1 (by omega))) (hw.cg ho z (fun r hr => zput_row (by omega))) zput_at
end
section
variable {d : Nat} {s : zS} {V : zV} {Q : zO → zH → Prop} {σ : zσ} {h : zH}
set_option maxRecDepth 20000 in
theorem l_addService (hd : 90 ≤ d) (hw : zWc σ s V) (ho : zOK σ) {x : Int} (hx : zI32 x) (e1 : ¬ (1 ≤ x ∧ x ≤ 100) → zLth Q 1 σ s V) (e2 : (1 ≤ x ∧ x ≤ 100) → (σ.r.n = 12) → zLth Q 2 σ s V) (h0 : (1 ≤ x ∧ x ≤ 100) → ¬ (σ.r.n = 12) → zOK (σ.sv (σ.r.addS x)) ∧ zLrt Q (Int32.ofInt σ.r.n).toInt64 (σ.sv (σ.r.addS x)) s V) : zcall d 270 [.ref 5, zi x, .ref 191] (s, V) Q := by
  obtain ⟨d, rfl⟩ : ∃ e, d = e + 1 := ⟨d - 1, by omega⟩
  simp (disch := first | assumption | omega) only [zc_270]
  simp (disch := first | assumption | exact zk_270 | ((repeat (first | exact z1n | refine z1I ?_ | refine z1R ?_)); done) | exact rfl | omega | decide) only [zb_270_0, r_aload_2, r_iconst, r_aload_0, r_iload_1, r_inv_2_0, r_inv_2_1, r_inv_2_2, r_inv_2_3, r_inv_2_4, r_K0, r_K1, r_i2l, r_lastore, r_lastoreR, r_goto, r_astore_3i, r_astore_3r, r_astore_3j, r_iret, r_bret_0, r_bret_1, ↓reduceIte, not_true_eq_false, not_false_eq_true, Int.reduceEq, Int.reduceLE, Int.reduceLT, Int.reduceAdd, Int.reduceNeg, Int.reduceMul, Int.reduceSub, Int.reduceToNat]
  refine w_addService (by omega) hw ho hx (fun q => fun s' V' y1 y2 => ?_) (fun q1 q2 => fun s' V' y1 y2 => ?_) (fun q1 q2 => fun s' V' y1 y2 => ?_)
  · have := e1 q s' V' y1 y2
    refine Eq.mpr (r_KH (lb := 1) (by decide) (by decide) zb_270_1 (by simp) rfl) ?_
    simp (disch := first | assumption | exact zk_270 | omega) only [r_iconst, r_iret]
    exact this
  · have := e2 q1 q2 s' V' y1 y2
    refine Eq.mpr (r_KH (lb := 2) (by decide) (by decide) zb_270_2 (by simp) rfl) ?_
    simp (disch := first | assumption | exact zk_270 | omega) only [r_iconst, r_iret]
    exact this
  · obtain ⟨ho', h0'⟩ := h0 q1 q2
    have := h0'.go ho' y1 y2
    have t9 := y2.2.2.2.2.2.2.2.2.2.2.2.1
    have l9 := y2.2.2.2.2.2.2.2.2.2.2.2.2
    simp (disch := first | assumption | exact zk_270 | omega) only [r_K1, r_i2lR, r_lastoreR, r_goto, zb_270_3, r_iconst, r_iret]
    exact this
end
