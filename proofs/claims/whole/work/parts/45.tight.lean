/-! TIGHTEN, 1 -/
/-- the calls to x below m get the limit v -/
def zLim (σ : zR) (x v m : Int) : zR := (σ.1, σ.2.1, σ.2.2.1, fun w i => if (w = 2 ∧ σ.K 1 i = x) ∧ i < m then v else σ.K w i)
theorem zLim_K {σ : zR} {x v m w i : Int} : (zLim σ x v m).K w i = if (w = 2 ∧ σ.K 1 i = x) ∧ i < m then v else σ.K w i := rfl
theorem zLim_o {σ : zR} {x v m w i : Int} (hw : w ≠ 2) : (zLim σ x v m).K w i = σ.K w i := by rw [zLim_K, if_neg (fun q => hw q.1.1)]
/-- states that differ in limits alone -/
def zSamL (ρ σ : zR) : Prop := σ.1 = ρ.1 ∧ σ.2.1 = ρ.2.1 ∧ σ.2.2.1 = ρ.2.2.1 ∧ ∀ w k, w ≠ 2 → σ.K w k = ρ.K w k
theorem zSamL.rf {ρ : zR} : zSamL ρ ρ := ⟨rfl, rfl, rfl, fun _ _ _ => rfl⟩
theorem zSamL.tr {ρ σ τ : zR} (h : zSamL ρ σ) (h' : zSamL σ τ) : zSamL ρ τ := ⟨h'.1.trans h.1, h'.2.1.trans h.2.1, h'.2.2.1.trans h.2.2.1, fun w k hw => (h'.2.2.2 w k hw).trans (h.2.2.2 w k hw)⟩
theorem zSamL.lim {σ : zR} {x v m : Int} : zSamL σ (zLim σ x v m) := ⟨rfl, rfl, rfl, fun _ _ hw => zLim_o hw⟩
theorem zSamL.n {ρ σ : zR} (h : zSamL ρ σ) : σ.n = ρ.n := h.1
theorem zSamL.c {ρ σ : zR} (h : zSamL ρ σ) : σ.c = ρ.c := h.2.1
theorem zSamL.S {ρ σ : zR} (h : zSamL ρ σ) : σ.S = ρ.S := by
  funext w x
  show σ.2.2.1 w x = ρ.2.2.1 w x
  rw [h.2.2.1]
theorem zSamL.ed {ρ σ : zR} (h : zSamL ρ σ) : zEd σ = zEd ρ := by
  funext x y
  unfold zEd
  simp only [h.2.2.2 0 _ (by omega), h.2.2.2 1 _ (by omega), h.c]
theorem zSamL.dep {ρ σ : zR} (h : zSamL ρ σ) : zDep σ = zDep ρ := by
  unfold zDep
  rw [h.ed]
theorem zSamL.hd {ρ σ : zR} (h : zSamL ρ σ) (x : Int) (j : Nat) : zHd σ x j = zHd ρ x j := zHd_congr (fun k _ _ => by rw [h.2.2.2 0 _ (by omega), h.2.2.2 4 _ (by omega)]; exact ⟨rfl, Iff.rfl⟩)
theorem zSamL.lead {ρ σ : zR} (h : zSamL ρ σ) {k : Int} (k0 : 0 ≤ k) : zLead σ k = zLead ρ k := zLead_congr (fun j _ _ => ⟨h.2.2.2 0 _ (by omega), h.2.2.2 4 _ (by omega)⟩) k0
theorem zWF.samL {ρ σ : zR} (hW : zWF ρ) (h : zSamL ρ σ) (hl : ∀ k, 0 ≤ k → k < ρ.c → 1 ≤ σ.K 2 k ∧ σ.K 2 k ≤ 500) : zWF σ := by
  obtain ⟨w1, w2, w3, w4, w5⟩ := hW
  refine ⟨by rw [h.n, h.c]; exact w1, fun x x0 x1 => by rw [h.S]; rw [h.n] at x1; exact w2 x x0 x1, fun k k0 k1 => ?_, by rw [h.dep]; exact w4, fun k k0 k1 hk => ?_⟩
  · rw [h.c] at k1
    have := w3 k k0 k1
    rw [h.2.2.2 0 _ (by omega), h.2.2.2 1 _ (by omega), h.2.2.2 3 _ (by omega), h.2.2.2 4 _ (by omega), h.n]
    exact ⟨this.1, this.2.1, hl k k0 k1, this.2.2.2⟩
  · rw [h.c] at k1
    rw [h.2.2.2 4 _ (by omega)] at hk
    rw [h.2.2.2 0 _ (by omega), h.hd]
    exact w5 k k0 k1 hk
def zMin5 (b : Int) : Int := if b < 500 then b else 500
/-- state and bounds behind the first k places -/
def zTg (ρ : zR) : Nat → zR × (Int → Int)
  | 0 => (ρ, fun _ => 0)
  | k + 1 => (zLim (zTg ρ k).1 (zPlc ρ k) (zMin5 (zBnO (zTg ρ k).1 (zTg ρ k).2 (zPlc ρ k))) ρ.c, fun y => if y = zPlc ρ k then zBnO (zTg ρ k).1 (zTg ρ k).2 (zPlc ρ k) else (zTg ρ k).2 y)
theorem zBnS_low {ρ : zR} (hW : zWF ρ) {A : Int → Int} (hA : ∀ y, 0 ≤ A y) {x k : Int} (x0 : 0 ≤ x) (x1 : x < ρ.n) (k0 : 0 ≤ k) (k1 : k ≤ ρ.c) : 1 ≤ zBnS ρ A x k := by
  have ho := zOwn_rng hW x0 x1
  refine zfo_inv (fun _ m => 1 ≤ m) (by omega) (fun j y h1 h2 hy => ?_) k0
  obtain ⟨w0, w1, w2, w3, w4⟩ := hW.2.2.1 j h1 (by omega)
  have ha := hA (ρ.K 1 j)
  split
  · generalize he : (if ρ.K 2 j < A (ρ.K 1 j) then ρ.K 2 j else A (ρ.K 1 j)) = e
    have he1 : 0 ≤ e := by rw [← he]; split <;> omega
    have m1 : 0 ≤ ρ.K 3 j * e := Int.mul_nonneg (by omega) he1
    omega
  · omega
theorem zBnO_low {ρ : zR} (hW : zWF ρ) {A : Int → Int} (hA : ∀ y, 0 ≤ A y) {x : Int} (x0 : 0 ≤ x) (x1 : x < ρ.n) : 1 ≤ zBnO ρ A x := by
  have := zBnS_low hW hA x0 x1 hW.1.2.2.1 (Int.le_refl _)
  unfold zBnO
  split <;> omega
/-- all along -/
theorem zTg_inv {ρ : zR} (hW : zWF ρ) : ∀ (k : Nat), (k : Int) ≤ ρ.n → zSamL ρ (zTg ρ k).1 ∧ zWF (zTg ρ k).1 ∧ (∀ y, 0 ≤ (zTg ρ k).2 y ∧ (zTg ρ k).2 y ≤ 100000) ∧ ∀ j, 0 ≤ j → j < ρ.c → zin (zDone ρ k) (ρ.K 1 j) = false → (zTg ρ k).1.K 2 j = ρ.K 2 j := by
  intro k
  induction k with
  | zero => intro _; exact ⟨zSamL.rf, hW, fun y => ⟨Int.le_refl _, by show (0 : Int) ≤ 100000; omega⟩, fun _ _ _ _ => rfl⟩
  | succ k ih =>
    intro hk
    obtain ⟨i1, i2, i3, i4⟩ := ih (by omega)
    obtain ⟨⟨x0, x1⟩, x2, -, -⟩ := zPlc_ok hW (k := k) (by omega) (by omega)
    rw [Int.toNat_natCast] at x2
    have b1 := zBnO_rng i2 i3 x0 (by rw [i1.n]; exact x1)
    have b2 := zBnO_low i2 (fun y => (i3 y).1) x0 (by rw [i1.n]; exact x1)
    have hm : 1 ≤ zMin5 (zBnO (zTg ρ k).1 (zTg ρ k).2 (zPlc ρ k)) ∧ zMin5 (zBnO (zTg ρ k).1 (zTg ρ k).2 (zPlc ρ k)) ≤ 500 := by unfold zMin5; split <;> omega
    have e1 : zSamL ρ (zTg ρ (k + 1)).1 := i1.tr zSamL.lim
    refine ⟨e1, hW.samL e1 (fun j j0 j1 => ?_), fun y => ?_, fun j j0 j1 hj => ?_⟩
    · show 1 ≤ (zLim _ _ _ _).K 2 j ∧ _
      rw [show (zTg ρ (k + 1)).1.K 2 j = (zLim (zTg ρ k).1 (zPlc ρ k) (zMin5 (zBnO (zTg ρ k).1 (zTg ρ k).2 (zPlc ρ k))) ρ.c).K 2 j from rfl, zLim_K]
      split
      · exact hm
      · exact (i2.2.2.1 j j0 (by rw [i1.c]; exact j1)).2.2.1
    · show 0 ≤ (if y = zPlc ρ k then zBnO (zTg ρ k).1 (zTg ρ k).2 (zPlc ρ k) else (zTg ρ k).2 y) ∧ (if y = zPlc ρ k then zBnO (zTg ρ k).1 (zTg ρ k).2 (zPlc ρ k) else (zTg ρ k).2 y) ≤ 100000
      split
      · exact b1
      · exact i3 y
    · have w := hW.2.2.1 j j0 j1
      have hj2 : zin (zDone ρ k ||| zone (zPlc ρ k)) (ρ.K 1 j) = false := by
        have : zDone ρ (k + 1) = zDone ρ k ||| zone (zPlc ρ k) := by
          show zDone ρ k ||| zone (zNx ρ (zDone ρ k)) = _
          unfold zPlc
          rw [Int.toNat_natCast]
        rw [← this]; exact hj
      rw [zin_or, Bool.or_eq_false_iff, zone_bit x0 w.2.1.1] at hj2
      show (zLim _ _ _ _).K 2 j = _
      rw [zLim_K, if_neg, i4 j j0 j1 hj2.1]
      rintro ⟨⟨-, q⟩, -⟩
      rw [i1.2.2.2 1 _ (by omega)] at q
      simp [q] at hj2
def zTight (ρ : zR) : zR := (zTg ρ ρ.n.toNat).1
def zTgC (ρ : zR) (k : Nat) : Int := zct (fun j => decide ((zTg ρ k).1.K 2 j ≠ ρ.K 2 j)) ρ.c
theorem zTight_wf {ρ : zR} (hW : zWF ρ) : zSamL ρ (zTight ρ) ∧ zWF (zTight ρ) := by
  have hn := hW.1
  obtain ⟨a, b, -, -⟩ := zTg_inv hW ρ.n.toNat (by omega)
  exact ⟨a, b⟩
/-- how many a place changes -/
theorem zTgC_s {ρ : zR} (hW : zWF ρ) (k : Nat) (hk : (k : Int) < ρ.n) : zTgC ρ (k + 1) = zTgC ρ k + zct (fun j => decide (ρ.K 1 j = zPlc ρ k) && decide ((zTg ρ k).1.K 2 j ≠ zMin5 (zBnO (zTg ρ k).1 (zTg ρ k).2 (zPlc ρ k)))) ρ.c := by
  obtain ⟨i1, i2, i3, i4⟩ := zTg_inv hW k (by omega)
  obtain ⟨⟨x0, x1⟩, x2, -, -⟩ := zPlc_ok hW (k := k) (by omega) hk
  rw [Int.toNat_natCast] at x2
  unfold zTgC
  have : ∀ m : Nat, (m : Int) ≤ ρ.c → zct (fun j => decide ((zTg ρ (k + 1)).1.K 2 j ≠ ρ.K 2 j)) m = zct (fun j => decide ((zTg ρ k).1.K 2 j ≠ ρ.K 2 j)) m + zct (fun j => decide (ρ.K 1 j = zPlc ρ k) && decide ((zTg ρ k).1.K 2 j ≠ zMin5 (zBnO (zTg ρ k).1 (zTg ρ k).2 (zPlc ρ k)))) m := by
    intro m
    induction m with
    | zero => intro _; rfl
    | succ m ih =>
      intro hm
      rw [show ((m + 1 : Nat) : Int) = (m : Int) + 1 from rfl, zct_s (by omega), zct_s (by omega), zct_s (by omega), ih (by omega)]
      have hK : (zTg ρ (k + 1)).1.K 2 m = if ρ.K 1 m = zPlc ρ k then zMin5 (zBnO (zTg ρ k).1 (zTg ρ k).2 (zPlc ρ k)) else (zTg ρ k).1.K 2 m := by
        show (zLim _ _ _ _).K 2 (m : Int) = _
        rw [zLim_K, i1.2.2.2 1 _ (by omega)]
        by_cases q : ρ.K 1 m = zPlc ρ k
        · rw [if_pos ⟨⟨rfl, q⟩, by omega⟩, if_pos q]
        · rw [if_neg (fun c => q c.1.2), if_neg q]
      rw [hK]
      by_cases q : ρ.K 1 m = zPlc ρ k
      · have h4 := i4 m (by omega) (by omega) (by rw [q]; exact x2)
        rw [if_pos q, h4]
        simp only [q, decide_true, Bool.true_and, ne_eq, not_true_eq_false, decide_false, Bool.false_eq_true, if_false]
        by_cases q2 : ρ.K 2 m = zMin5 (zBnO (zTg ρ k).1 (zTg ρ k).2 (zPlc ρ k))
        · simp [q2]
        · have q3 : ¬ zMin5 (zBnO (zTg ρ k).1 (zTg ρ k).2 (zPlc ρ k)) = ρ.K 2 m := fun c => q2 c.symm
          simp [q2, q3]
          omega
      · rw [if_neg q]
        simp only [q, decide_false, Bool.false_and, Bool.false_eq_true, if_false]
        split <;> omega
  have hc := hW.1
  have := this ρ.c.toNat (by omega)
  rwa [Int.toNat_of_nonneg (by omega)] at this
section
variable {d : Nat} {s : zS} {V : zV} {Q : zO → zH → Prop} {a : Nat} {ρ σ : zR} {h : zH}
theorem zStC.agree {V : zV} {a : Nat} (hC : zStC σ V a) (hn : ρ.n = σ.n) (hc : ρ.c = σ.c) (hS : ∀ w x, ρ.S w x = σ.S w x) (hK : ∀ w k, 0 ≤ k → k < σ.c → ρ.K w k = σ.K w k) : zStC ρ V a := by
  obtain ⟨c1, c2, c3, c4, c5⟩ := hC
  refine ⟨by rw [hn]; exact c1, by rw [hc]; exact c2, fun k hk x x0 x1 => by rw [hS]; rw [hn] at x1; exact c3 k hk x x0 x1, fun k hk x x0 x1 => ?_, fun x x0 x1 => ?_⟩
  · rw [hc] at x1
    rw [hK _ x x0 x1]
    exact c4 k hk x x0 x1
  · rw [hc] at x1
    rw [c5 x x0 x1, zLead_congr (ρ := ρ) (σ := σ) (fun j j0 j1 => ⟨hK 0 j j0 (by omega), hK 4 j j0 (by omega)⟩) x0]
set_option maxRecDepth 20000 in
theorem c_limitCallsTo (hd : 2 ≤ d) (hP : zStP s V a) (hC : zStC σ V a) (hW : zWF σ) (hG : s.tg 116 = 2) {x v : Int} (x0 : 0 ≤ x) (x1 : x < σ.n) (v0 : 1 ≤ v) (v1 : v ≤ 500) (hQ : zTo s V a (zLim σ x v σ.c) Q (.inl (some (zi (zct (fun j => decide (σ.K 1 j = x) && decide (σ.K 2 j ≠ v)) σ.c))))) : zcall d 29 [.ref 116, .ref a, zi x, zi v] (s, V) Q := by
  obtain ⟨n0, n1, c0, c1⟩ := hW.1
  have tO := hP.1
  obtain ⟨d, rfl⟩ : ∃ e, d = e + 1 := ⟨d - 1, by omega⟩
  simp (disch := first | assumption | omega) only [zc_29]
  simp (disch := first | assumption | exact zk_29 | ((repeat (first | exact z1n | refine z1I ?_ | refine z1R ?_)); done) | exact rfl | omega | decide) only [zb_29_0, r_iconst, r_istore_4i, r_istore_4r, r_istore_4j, r_istore_5i, r_istore_5r, r_istore_5j, r_goto_w, r_iload_5, r_aload_1, r_gf_449, r_icmp_ge, r_gf_451, r_aaload, r_ial, r_ial30, r_ial32, r_iload_2, r_icmp_ne, r_iload_3, r_inv_3_0, r_inv_3_1, r_inv_3_2, r_inv_3_3, r_inv_3_4, r_K0, r_K1, r_icmp_eq, r_iinc_4i, r_iinc_4r, r_iinc_4j, r_iinc_5i, r_iinc_5r, r_iinc_5j, r_goto, r_iload_4, r_iret, r_bret_0, r_bret_1, ↓reduceIte, not_true_eq_false, not_false_eq_true, Int.reduceEq, Int.reduceLE, Int.reduceLT, Int.reduceAdd, Int.reduceNeg, Int.reduceMul, Int.reduceSub, Int.reduceToNat]
  have hx := z_iter (i := 0) (n := σ.c) (I := fun k (q : zV) => zFr a V q ∧ zStP s q a ∧ zStC (zLim σ x v k) q a) (P := fun k q => zwp (zcall d) 29 Q (zB 29 1) [.ref 116, .ref a, zi x, zi v, zi (zct (fun j => decide (σ.K 1 j = x) && decide (σ.K 2 j ≠ v)) k), zi k] [] (s, q)) c0
  refine hx ?_ ?_ V ⟨zFr.rf, hP, hC.agree rfl rfl (fun _ _ => rfl) (fun w k k0 k1 => by rw [zLim_K, if_neg (fun q => by omega)])⟩
  · rintro k V1 k0 k1 ⟨f1, p1, q1⟩ ih
    have w := hW.2.2.1 k k0 k1
    have uB : V1 a 3 = .ref (a + 11) := p1.2.2.2.2.1
    have tB := p1.2.2.2.2.2.1
    have lB := p1.2.2.2.2.2.2.1
    have u1 : V1 (a + 11) 1 = .ref (a + 13) := (p1.2.2.2.2.2.2.2.2 1 (by omega)).1
    have t1 : s.tg (a + 13) = 20 := (p1.2.2.2.2.2.2.2.2 1 (by omega)).2.1
    have l1 : s.ln (a + 13) = 24 := (p1.2.2.2.2.2.2.2.2 1 (by omega)).2.2
    have uc : V1 a 1 = zi σ.c := q1.2.1
    have uk : V1 (a + 13) k = zi (σ.K 1 k) := (q1.2.2.2.1 1 (by omega) k k0 k1).trans (congrArg zi (zLim_o (by decide)))
    have hs := zct_s (p := fun j => decide (σ.K 1 j = x) && decide (σ.K 2 j ≠ v)) k0
    conv => rw [zb_29_1]
    by_cases e : σ.K 1 k = x
    · simp (disch := first | assumption | exact zk_29 | ((repeat (first | exact z1n | refine z1I ?_ | refine z1R ?_)); done) | exact rfl | omega | decide) only [r_iconst, r_istore_4i, r_istore_4r, r_istore_4j, r_istore_5i, r_istore_5r, r_istore_5j, r_goto_w, r_iload_5, r_aload_1, r_gf_449, r_icmp_ge, r_gf_451, r_aaload, r_ial, r_ial30, r_ial32, r_iload_2, r_icmp_ne, r_iload_3, r_inv_3_0, r_inv_3_1, r_inv_3_2, r_inv_3_3, r_inv_3_4, r_K0, r_K1, r_icmp_eq, r_iinc_4i, r_iinc_4r, r_iinc_4j, r_iinc_5i, r_iinc_5r, r_iinc_5j, r_goto, r_iload_4, r_iret, r_bret_0, r_bret_1, uB, u1, uc, uk, e, ↓reduceIte, not_true_eq_false, not_false_eq_true, Int.reduceEq, Int.reduceLE, Int.reduceLT, Int.reduceAdd, Int.reduceNeg, Int.reduceMul, Int.reduceSub, Int.reduceToNat]
      rw [if_neg (by omega)]
      have hk2 : (zLim σ x v k).K 2 k = σ.K 2 k := by rw [zLim_K, if_neg (fun q => by omega)]
      refine c_changeLimit (by omega) p1 q1 c1 k0 k1 (fun V2 y1 y2 y3 => ?_)
      have hst : zStC (zLim σ x v (k + 1)) V2 a := y3.agree rfl rfl (fun _ _ => rfl) (fun w i i0 i1 => by
        rw [zR.sK_K, zLim_K, zLim_K]
        by_cases q : w = 2 ∧ i = k
        · rw [if_pos q, if_pos ⟨⟨q.1, by rw [q.2]; exact e⟩, by omega⟩]
        · rw [if_neg q]
          by_cases q2 : (w = 2 ∧ σ.K 1 i = x) ∧ i < k
          · rw [if_pos q2, if_pos ⟨q2.1, by omega⟩]
          · rw [if_neg q2, if_neg (fun c => q2 ⟨c.1, by have := c.1.1; omega⟩)])
      rw [hk2]
      have := ih V2 ⟨f1.tr y1, y2, hst⟩
      rw [hs] at this
      simp (disch := first | assumption | exact zk_29 | ((repeat (first | exact z1n | refine z1I ?_ | refine z1R ?_)); done) | exact rfl | omega | decide) only [r_iconst, r_istore_4i, r_istore_4r, r_istore_4j, r_istore_5i, r_istore_5r, r_istore_5j, r_goto_w, r_iload_5, r_aload_1, r_gf_449, r_icmp_ge, r_gf_451, r_aaload, r_ial, r_ial30, r_ial32, r_iload_2, r_icmp_ne, r_iload_3, r_inv_3_0, r_inv_3_1, r_inv_3_2, r_inv_3_3, r_inv_3_4, r_K0, r_K1, r_icmp_eq, r_iinc_4i, r_iinc_4r, r_iinc_4j, r_iinc_5i, r_iinc_5r, r_iinc_5j, r_goto, r_iload_4, r_iret, r_bret_0, r_bret_1, ↓reduceIte, not_true_eq_false, not_false_eq_true, Int.reduceEq, Int.reduceLE, Int.reduceLT, Int.reduceAdd, Int.reduceNeg, Int.reduceMul, Int.reduceSub, Int.reduceToNat]
      by_cases q : σ.K 2 k = v
      · rw [if_pos q]
        rw [if_neg (by simp [q])] at this
        simp (disch := first | assumption | exact zk_29 | ((repeat (first | exact z1n | refine z1I ?_ | refine z1R ?_)); done) | exact rfl | omega | decide) only [zb_29_2, r_iconst, r_istore_4i, r_istore_4r, r_istore_4j, r_istore_5i, r_istore_5r, r_istore_5j, r_goto_w, r_iload_5, r_aload_1, r_gf_449, r_icmp_ge, r_gf_451, r_aaload, r_ial, r_ial30, r_ial32, r_iload_2, r_icmp_ne, r_iload_3, r_inv_3_0, r_inv_3_1, r_inv_3_2, r_inv_3_3, r_inv_3_4, r_K0, r_K1, r_icmp_eq, r_iinc_4i, r_iinc_4r, r_iinc_4j, r_iinc_5i, r_iinc_5r, r_iinc_5j, r_goto, r_iload_4, r_iret, r_bret_0, r_bret_1, ↓reduceIte, not_true_eq_false, not_false_eq_true, Int.reduceEq, Int.reduceLE, Int.reduceLT, Int.reduceAdd, Int.reduceNeg, Int.reduceMul, Int.reduceSub, Int.reduceToNat]
        exact this
      · rw [if_neg q]
        rw [if_pos (by simp [q, e])] at this
        simp (disch := first | assumption | exact zk_29 | ((repeat (first | exact z1n | refine z1I ?_ | refine z1R ?_)); done) | exact rfl | omega | decide) only [zb_29_2, r_iconst, r_istore_4i, r_istore_4r, r_istore_4j, r_istore_5i, r_istore_5r, r_istore_5j, r_goto_w, r_iload_5, r_aload_1, r_gf_449, r_icmp_ge, r_gf_451, r_aaload, r_ial, r_ial30, r_ial32, r_iload_2, r_icmp_ne, r_iload_3, r_inv_3_0, r_inv_3_1, r_inv_3_2, r_inv_3_3, r_inv_3_4, r_K0, r_K1, r_icmp_eq, r_iinc_4i, r_iinc_4r, r_iinc_4j, r_iinc_5i, r_iinc_5r, r_iinc_5j, r_goto, r_iload_4, r_iret, r_bret_0, r_bret_1, ↓reduceIte, not_true_eq_false, not_false_eq_true, Int.reduceEq, Int.reduceLE, Int.reduceLT, Int.reduceAdd, Int.reduceNeg, Int.reduceMul, Int.reduceSub, Int.reduceToNat]
        exact this
    · simp (disch := first | assumption | exact zk_29 | ((repeat (first | exact z1n | refine z1I ?_ | refine z1R ?_)); done) | exact rfl | omega | decide) only [zb_29_2, r_iconst, r_istore_4i, r_istore_4r, r_istore_4j, r_istore_5i, r_istore_5r, r_istore_5j, r_goto_w, r_iload_5, r_aload_1, r_gf_449, r_icmp_ge, r_gf_451, r_aaload, r_ial, r_ial30, r_ial32, r_iload_2, r_icmp_ne, r_iload_3, r_inv_3_0, r_inv_3_1, r_inv_3_2, r_inv_3_3, r_inv_3_4, r_K0, r_K1, r_icmp_eq, r_iinc_4i, r_iinc_4r, r_iinc_4j, r_iinc_5i, r_iinc_5r, r_iinc_5j, r_goto, r_iload_4, r_iret, r_bret_0, r_bret_1, uB, u1, uc, uk, e, ↓reduceIte, not_true_eq_false, not_false_eq_true, Int.reduceEq, Int.reduceLE, Int.reduceLT, Int.reduceAdd, Int.reduceNeg, Int.reduceMul, Int.reduceSub, Int.reduceToNat]
      rw [if_neg (by omega)]
      have := ih V1 ⟨f1, p1, q1.agree rfl rfl (fun _ _ => rfl) (fun w i i0 i1 => by
        rw [zLim_K, zLim_K]
        by_cases q2 : (w = 2 ∧ σ.K 1 i = x) ∧ i < k
        · rw [if_pos q2, if_pos ⟨q2.1, by omega⟩]
        · rw [if_neg q2, if_neg]
          rintro ⟨⟨c1, c2⟩, c3⟩
          by_cases q3 : i = k
          · rw [q3] at c2; exact e c2
          · exact q2 ⟨⟨c1, c2⟩, by omega⟩)⟩
      rw [hs, if_neg (by simp [e])] at this
      exact this
  · rintro V1 ⟨f1, p1, q1⟩
    have uc : V1 a 1 = zi σ.c := q1.2.1
    simp (disch := first | assumption | exact zk_29 | ((repeat (first | exact z1n | refine z1I ?_ | refine z1R ?_)); done) | exact rfl | omega | decide) only [zb_29_1, zb_29_3, r_iconst, r_istore_4i, r_istore_4r, r_istore_4j, r_istore_5i, r_istore_5r, r_istore_5j, r_goto_w, r_iload_5, r_aload_1, r_gf_449, r_icmp_ge, r_gf_451, r_aaload, r_ial, r_ial30, r_ial32, r_iload_2, r_icmp_ne, r_iload_3, r_inv_3_0, r_inv_3_1, r_inv_3_2, r_inv_3_3, r_inv_3_4, r_K0, r_K1, r_icmp_eq, r_iinc_4i, r_iinc_4r, r_iinc_4j, r_iinc_5i, r_iinc_5r, r_iinc_5j, r_goto, r_iload_4, r_iret, r_bret_0, r_bret_1, uc, Int.le_refl, ↓reduceIte, not_true_eq_false, not_false_eq_true, Int.reduceEq, Int.reduceLE, Int.reduceLT, Int.reduceAdd, Int.reduceNeg, Int.reduceMul, Int.reduceSub, Int.reduceToNat]
    exact hQ V1 f1 p1 q1
end
