/-! TEXT, 2: a command and a whole text, in the class -/
theorem zCmL_rng {T : Int → Int} {n : Int} : ∀ (m : Nat) (p : Int), p ≤ n → p ≤ (zCmL T n m p).1 ∧ (zCmL T n m p).1 ≤ n ∧ ((zCmL T n m p).2 = true → p + 2 * m ≤ (zCmL T n m p).1) := by
  intro m
  induction m with
  | zero => intro p h; exact ⟨Int.le_refl _, h, fun _ => by show p + 2 * ((0 : Nat) : Int) ≤ p; omega⟩
  | succ m ih =>
    intro p h
    obtain ⟨a, b, c, -, -⟩ := zDe_is (T := T) h
    have hs : zCmL T n (m + 1) p = if zDe T n p = p ∨ n ≤ zDe T n p ∨ T (zDe T n p) ≠ (if m = 0 then 59 else 44) then (zDe T n p, false) else zCmL T n m (zDe T n p + 1) := rfl
    by_cases q : zDe T n p = p ∨ n ≤ zDe T n p ∨ T (zDe T n p) ≠ (if m = 0 then 59 else 44)
    · rw [hs, if_pos q]
      exact ⟨a, c, fun q => by cases q⟩
    · rw [hs, if_neg q]
      have h1 : ¬ (zDe T n p = p) := fun z => q (Or.inl z)
      have h2 : ¬ (n ≤ zDe T n p) := fun z => q (Or.inr (Or.inl z))
      obtain ⟨e, f, g⟩ := ih (zDe T n p + 1) (by omega)
      exact ⟨by omega, f, fun z => by have := g z; omega⟩
theorem zCm_rng {T : Int → Int} {n p : Int} (h : p < n) : p ≤ (zCm T n p).1 ∧ (zCm T n p).1 ≤ n ∧ ((zCm T n p).2 = true → p + 3 ≤ (zCm T n p).1) := by
  unfold zCm
  split
  · exact ⟨Int.le_refl _, by show p ≤ n; omega, fun q => by cases q⟩
  · obtain ⟨a, b, c⟩ := zCmL_rng (T := T) (n := n) (zNum (T p)) (p + 1) (by omega)
    refine ⟨by omega, b, fun q => ?_⟩
    have := c q
    omega
/-- where the c-th command begins -/
def zPp (T : Int → Int) (n : Int) : Nat → Int
  | 0 => 0
  | c + 1 => (zCm T n (zPp T n c)).1
def zPg (T : Int → Int) (n : Int) (c : Nat) : Bool := decide (zPp T n c < n) && (zCm T n (zPp T n c)).2
/-- how many good commands there are before the end or the first error -/
def zPm (T : Int → Int) (n : Int) : Int := zfst (fun c => !zPg T n c.toNat) 0 41
def zPr (T : Int → Int) (n : Int) : Int := if zPp T n (zPm T n).toNat < n then -10 - (zCm T n (zPp T n (zPm T n).toNat)).1 else zPm T n
theorem zPm_g {T : Int → Int} {n : Int} {c : Nat} (h : (c : Int) < zPm T n) : zPp T n c < n ∧ (zCm T n (zPp T n c)).2 = true := by
  have e : (!zPg T n ((c : Int)).toNat) = false := (zfst_is (fun c => !zPg T n c.toNat) (i := 0) (n := 41) (by omega)).2.2.1 c (by omega) h
  rw [Int.toNat_natCast, Bool.not_eq_false'] at e
  unfold zPg at e
  rw [Bool.and_eq_true] at e
  exact ⟨of_decide_eq_true e.1, e.2⟩
theorem zPp_rng {T : Int → Int} {n : Int} (n0 : 0 ≤ n) : ∀ c : Nat, (c : Int) ≤ zPm T n → 3 * (c : Int) ≤ zPp T n c ∧ zPp T n c ≤ n := by
  intro c
  induction c with
  | zero => intro _; exact ⟨by show (3 * ((0 : Nat) : Int) ≤ 0); omega, n0⟩
  | succ c ih =>
    intro h
    obtain ⟨a, b⟩ := ih (by omega)
    obtain ⟨e, f⟩ := zPm_g (T := T) (n := n) (c := c) (by omega)
    obtain ⟨r1, r2, r3⟩ := zCm_rng (T := T) e
    have := r3 f
    show 3 * ((c + 1 : Nat) : Int) ≤ (zCm T n (zPp T n c)).1 ∧ (zCm T n (zPp T n c)).1 ≤ n
    omega
theorem zPm_rng {T : Int → Int} {n : Int} (n0 : 0 ≤ n) (n1 : n ≤ 120) : 0 ≤ zPm T n ∧ zPm T n ≤ 40 ∧ (zPp T n (zPm T n).toNat < n → zPm T n < 40 ∧ (zCm T n (zPp T n (zPm T n).toNat)).2 = false) := by
  obtain ⟨a, b, c, e⟩ := zfst_is (fun c => !zPg T n c.toNat) (i := 0) (n := 41) (by omega)
  have a : 0 ≤ zPm T n := a
  have b : zPm T n ≤ 41 := b
  obtain ⟨r1, r2⟩ := zPp_rng (T := T) n0 (zPm T n).toNat (by omega)
  have h40 : zPm T n ≤ 40 := by omega
  refine ⟨a, h40, fun q => ⟨by omega, ?_⟩⟩
  have h9 : (!zPg T n (zPm T n).toNat) = true := e (by show zPm T n < 41; omega)
  unfold zPg at h9
  rw [decide_eq_true q] at h9
  simpa using h9
section
variable {d : Nat} {s : zS} {V : zV} {Q : zO → zH → Prop} {h : zH} {T : Int → Int} {n : Int}
def zTxI (V : zV) : Prop := ∀ w : Nat, w < 5 → zInts V (159 + w) 40
/-- nothing but what is kept of the k-th command has changed -/
def zFx (k : Int) (V V' : zV) : Prop := (∀ q : Nat, q ≠ 157 → q < 159 ∨ 163 < q → V' q = V q) ∧ ∀ (q : Nat) (i : Int), i ≠ k → V' q i = V q i
/-- what is kept of the k-th command, that begins at p -/
def zKp (T : Int → Int) (n p : Int) (k : Int) (V : zV) : Prop := V 157 k = zi (T p) ∧ ∀ j : Nat, j < zNum (T p) → V (159 + j) k = zi (zNb T n p j)
theorem zTxP.fx {V' : zV} (hP : zTxP s V) (e5 : V' 155 = V 155) (e8 : V' 158 = V 158) : zTxP s V' := by
  unfold zTxP
  rw [e5, e8]
  exact hP
theorem zTxC.fx {V' : zV} (hC : zTxC T n V) (e5 : V' 155 = V 155) (e6 : V' 156 = V 156) : zTxC T n V' := by
  unfold zTxC
  rw [e5, e6]
  exact hC
theorem zTxI.put {k v : Int} {r : Nat} (hI : zTxI V) : zTxI (zput V r k (zi v)) := fun w hw i i0 i1 => by
  by_cases e : 159 + w = r ∧ i = k
  · rw [e.1, e.2]; exact ⟨v, zput_at⟩
  · obtain ⟨z, hz⟩ := hI w hw i i0 i1
    exact ⟨z, by rw [show zput V r k (zi v) (159 + w) i = V (159 + w) i from if_neg e]; exact hz⟩
theorem zFx.put {k : Int} {V1 : zV} {r : Nat} {v : Value} (h : zFx k V V1) (hr : r = 157 ∨ (159 ≤ r ∧ r ≤ 163)) : zFx k V (zput V1 r k v) := ⟨fun q q1 q2 => (zput_row (by omega)).trans (h.1 q q1 q2), fun q i hi => (zput_i hi).trans (h.2 q i hi)⟩
set_option maxRecDepth 20000 in
theorem c_errorAt (hd : 1 ≤ d) {x : Int} (x0 : 0 ≤ x) (x1 : x ≤ 1000) : zcall d 107 [zi x] h Q = Q (.inl (some (zi (-1 - x)))) h := by
  obtain ⟨d, rfl⟩ : ∃ e, d = e + 1 := ⟨d - 1, by omega⟩
  simp (disch := first | assumption | omega) only [zc_107]
  simp (disch := first | assumption | exact zk_107 | ((repeat (first | exact z1n | refine z1I ?_ | refine z1R ?_)); done) | exact rfl | omega | decide) only [zb_107_0, r_iconst, r_iload_0, r_isub, r_iret, r_bret_0, r_bret_1, ↓reduceIte, not_true_eq_false, not_false_eq_true, Int.reduceEq, Int.reduceLE, Int.reduceLT, Int.reduceAdd, Int.reduceNeg, Int.reduceMul, Int.reduceSub, Int.reduceToNat]
set_option maxRecDepth 20000 in
theorem c_placeOf (hd : 1 ≤ d) {x : Int} (x0 : -2000 ≤ x) (x1 : x ≤ 1000) : zcall d 108 [zi x] h Q = Q (.inl (some (zi (-1 - x)))) h := by
  obtain ⟨d, rfl⟩ : ∃ e, d = e + 1 := ⟨d - 1, by omega⟩
  simp (disch := first | assumption | omega) only [zc_108]
  simp (disch := first | assumption | exact zk_108 | ((repeat (first | exact z1n | refine z1I ?_ | refine z1R ?_)); done) | exact rfl | omega | decide) only [zb_108_0, r_iconst, r_iload_0, r_isub, r_iret, r_bret_0, r_bret_1, ↓reduceIte, not_true_eq_false, not_false_eq_true, Int.reduceEq, Int.reduceLE, Int.reduceLT, Int.reduceAdd, Int.reduceNeg, Int.reduceMul, Int.reduceSub, Int.reduceToNat]
theorem zNum_5 (l : Int) : zNum l ≤ 5 := by unfold zNum; (repeat' split) <;> omega
set_option maxRecDepth 20000 in
theorem c_parseCommand (hd : 2 ≤ d) (hP : zTxP s V) (hC : zTxC T n V) (hk : zTok2 T n) (hI : zTxI V) {p k : Int} (p0 : 0 ≤ p) (p1 : p < n) (k0 : 0 ≤ k) (k1 : k < 40) (hQ : ∀ V', zFx k V V' → zTxI V' → ((zCm T n p).2 = true → zKp T n p k V') → Q (.inl (some (zi (if (zCm T n p).2 = true then (zCm T n p).1 else -1 - (zCm T n p).1)))) (s, V')) : zcall d 109 [.ref 155, zi p, zi k] (s, V) Q := by
  have hP0 := hP
  obtain ⟨t1, ⟨v0, v2, v3⟩, ⟨t2, l2⟩, ⟨t3, l3⟩, ⟨t4, l4⟩, h5⟩ := hP
  have hC0 := hC
  obtain ⟨u1, hT⟩ := hC
  have hk0 := hk
  obtain ⟨⟨n0, n1⟩, hr⟩ := hk
  have hTp := hT p p0 p1
  have hrp := hr p p0 p1
  have h55 := zNum_5 (T p)
  obtain ⟨d, rfl⟩ : ∃ e, d = e + 1 := ⟨d - 1, by omega⟩
  rw [zc_109 t1]
  by_cases hN : zNum (T p) = 0
  · have hcm : zCm T n p = (p, false) := by unfold zCm; rw [if_pos hN]
    rw [hcm] at hQ
    have := hQ V ⟨fun _ _ _ => rfl, fun _ _ _ => rfl⟩ hI (fun q => by cases q)
    rw [if_neg Bool.false_ne_true] at this
    simp (disch := first | assumption | exact zk_109 | ((repeat (first | exact z1n | refine z1I ?_ | refine z1R ?_)); done) | exact rfl | omega | decide) only [zb_109_0, r_aload_0, r_gf_512, r_iload_1, r_ial, r_ial30, r_ial32, r_inv_1_0, r_inv_1_1, r_inv_1_2, r_inv_1_3, r_inv_1_4, r_K0, r_K1, r_istore_3i, r_istore_3r, r_istore_3j, r_iload_3, r_if_ne, r_iret, r_bret_0, r_bret_1, r_gf_514, r_iload_2, r_iastore, r_iconst, r_iadd, r_istore_4i, r_istore_4r, r_istore_4j, r_istore_5i, r_istore_5r, r_istore_5j, r_goto_w, r_iload_5, r_icmp_ge, r_iload_4, r_inv_2_0, r_inv_2_1, r_inv_2_2, r_inv_2_3, r_inv_2_4, r_istore_6i, r_istore_6r, r_istore_6j, r_iload_6, r_icmp_eq, r_gf_513, r_goto, r_gf_515, r_aaload, r_inv_3_0, r_inv_3_1, r_inv_3_2, r_inv_3_3, r_inv_3_4, r_iinc_5i, r_iinc_5r, r_iinc_5j, v0, hTp, c_numbersOf, hN, c_errorAt, Int.ofNat_zero, Int.cast_ofNat_Int, ↓reduceIte, not_true_eq_false, not_false_eq_true, Int.reduceEq, Int.reduceLE, Int.reduceLT, Int.reduceAdd, Int.reduceNeg, Int.reduceMul, Int.reduceSub, Int.reduceToNat]
    exact this
  · have hcm : zCm T n p = zCmL T n (zNum (T p)) (p + 1) := by unfold zCm; rw [if_neg hN]
    rw [hcm] at hQ
    simp (disch := first | assumption | exact zk_109 | ((repeat (first | exact z1n | refine z1I ?_ | refine z1R ?_)); done) | exact rfl | omega | decide) only [zb_109_0, r_aload_0, r_gf_512, r_iload_1, r_ial, r_ial30, r_ial32, r_inv_1_0, r_inv_1_1, r_inv_1_2, r_inv_1_3, r_inv_1_4, r_K0, r_K1, r_istore_3i, r_istore_3r, r_istore_3j, r_iload_3, r_if_ne, r_iret, r_bret_0, r_bret_1, r_gf_514, r_iload_2, r_iastore, r_iconst, r_iadd, r_istore_4i, r_istore_4r, r_istore_4j, r_istore_5i, r_istore_5r, r_istore_5j, r_goto_w, r_iload_5, r_icmp_ge, r_iload_4, r_inv_2_0, r_inv_2_1, r_inv_2_2, r_inv_2_3, r_inv_2_4, r_istore_6i, r_istore_6r, r_istore_6j, r_iload_6, r_icmp_eq, r_gf_513, r_goto, r_gf_515, r_aaload, r_inv_3_0, r_inv_3_1, r_inv_3_2, r_inv_3_3, r_inv_3_4, r_iinc_5i, r_iinc_5r, r_iinc_5j, v0, hTp, c_numbersOf, ↓reduceIte, not_true_eq_false, not_false_eq_true, Int.reduceEq, Int.reduceLE, Int.reduceLT, Int.reduceAdd, Int.reduceNeg, Int.reduceMul, Int.reduceSub, Int.reduceToNat]
    rw [if_pos (by omega)]
    simp (disch := first | assumption | exact zk_109 | ((repeat (first | exact z1n | refine z1I ?_ | refine z1R ?_)); done) | exact rfl | omega | decide) only [zb_109_1, r_aload_0, r_gf_512, r_iload_1, r_ial, r_ial30, r_ial32, r_inv_1_0, r_inv_1_1, r_inv_1_2, r_inv_1_3, r_inv_1_4, r_K0, r_K1, r_istore_3i, r_istore_3r, r_istore_3j, r_iload_3, r_if_ne, r_iret, r_bret_0, r_bret_1, r_gf_514, r_iload_2, r_iastore, r_iconst, r_iadd, r_istore_4i, r_istore_4r, r_istore_4j, r_istore_5i, r_istore_5r, r_istore_5j, r_goto_w, r_iload_5, r_icmp_ge, r_iload_4, r_inv_2_0, r_inv_2_1, r_inv_2_2, r_inv_2_3, r_inv_2_4, r_istore_6i, r_istore_6r, r_istore_6j, r_iload_6, r_icmp_eq, r_gf_513, r_goto, r_gf_515, r_aaload, r_inv_3_0, r_inv_3_1, r_inv_3_2, r_inv_3_3, r_inv_3_4, r_iinc_5i, r_iinc_5r, r_iinc_5j, v0, v2, hTp, ↓reduceIte, not_true_eq_false, not_false_eq_true, Int.reduceEq, Int.reduceLE, Int.reduceLT, Int.reduceAdd, Int.reduceNeg, Int.reduceMul, Int.reduceSub, Int.reduceToNat]
    have hlp := z_iter (i := 0) (n := (zNum (T p) : Int)) (I := fun j (q : zV × Value) => zFx k V q.1 ∧ zTxI q.1 ∧ q.1 157 k = zi (T p) ∧ (∀ i : Nat, (i : Int) < j → q.1 (159 + i) k = zi (zNb T n p i)) ∧ (0 ≤ zNs T n j.toNat (p + 1) ∧ zNs T n j.toNat (p + 1) ≤ n) ∧ zCmL T n (zNum (T p)) (p + 1) = zCmL T n (zNum (T p) - j.toNat) (zNs T n j.toNat (p + 1))) (P := fun j q => zwp (zcall d) 109 Q (zB 109 2) [.ref 155, zi p, zi k, zi (zNum (T p) : Nat), zi (zNs T n j.toNat (p + 1)), zi j, q.2] [] (s, q.1)) (by omega)
    refine hlp ?_ ?_ (_, zJ) ⟨zFx.put ⟨fun _ _ _ => rfl, fun _ _ _ => rfl⟩ (Or.inl rfl), hI.put, zput_at, fun i hi => by omega, ⟨by show 0 ≤ p + 1; omega, by show p + 1 ≤ n; omega⟩, rfl⟩
    · rintro j ⟨V1, x6⟩ j0 j1 ⟨f1, i1, e1, g1, ⟨r1, r2⟩, hz⟩ ih
      obtain ⟨w, rfl⟩ : ∃ w : Nat, j = w := ⟨j.toNat, by omega⟩
      have hP1 : zTxP s V1 := hP0.fx (f1.1 155 (by omega) (by omega)) (f1.1 158 (by omega) (by omega))
      have hC1 : zTxC T n V1 := hC0.fx (f1.1 155 (by omega) (by omega)) (f1.1 156 (by omega) (by omega))
      rw [Int.toNat_natCast] at r1 r2 hz
      have hw5 : w < 5 := by omega
      have hsub : zNum (T p) - w = (zNum (T p) - w - 1) + 1 := by omega
      rw [hsub] at hz
      have hns : zNs T n (w + 1) (p + 1) = zDe T n (zNs T n w (p + 1)) + 1 := rfl
      show zwp (zcall d) 109 Q (zB 109 2) [.ref 155, zi p, zi k, zi (zNum (T p) : Nat), zi (zNs T n (w : Int).toNat (p + 1)), zi (w : Int), x6] [] (s, V1)
      rw [Int.toNat_natCast]
      have ih' : ∀ V2 x2, _ := fun V2 x2 h2 => ih (V2, x2) h2
      simp only [show ((w : Int) + 1).toNat = w + 1 by omega] at ih'
      rw [hns] at ih'
      generalize hat : zNs T n w (p + 1) = at0 at *
      obtain ⟨a, b, c, e, f⟩ := zDe_is (T := T) r2
      obtain ⟨w1, w2, w3⟩ := hP1.2.2.2.2.2 w hw5
      obtain ⟨-, ⟨y0, y2, y3⟩, -⟩ := hP1
      have uu1 := hC1.1
      have hcl : zCmL T n (zNum (T p) - w - 1 + 1) at0 = if zDe T n at0 = at0 ∨ n ≤ zDe T n at0 ∨ T (zDe T n at0) ≠ (if zNum (T p) - w - 1 = 0 then 59 else 44) then (zDe T n at0, false) else zCmL T n (zNum (T p) - w - 1) (zDe T n at0 + 1) := rfl
      have hP1 : zTxP s V1 := hP0.fx (f1.1 155 (by omega) (by omega)) (f1.1 158 (by omega) (by omega))
      have bad : zDe T n at0 = at0 ∨ n ≤ zDe T n at0 ∨ T (zDe T n at0) ≠ (if zNum (T p) - w - 1 = 0 then 59 else 44) → Q (.inl (some (zi (-1 - zDe T n at0)))) (s, V1) := fun q => by
        rw [if_pos q] at hcl
        rw [hz, hcl] at hQ
        have := hQ V1 f1 i1 (fun q => by cases q)
        rw [if_neg Bool.false_ne_true] at this
        exact this
      have hnb : zVl T at0 (zDe T n at0) = zNb T n p w := by unfold zNb; rw [hat]
      have good : ¬ (zDe T n at0 = at0 ∨ n ≤ zDe T n at0 ∨ T (zDe T n at0) ≠ (if zNum (T p) - w - 1 = 0 then 59 else 44)) → zwp (zcall d) 109 Q (zB 109 2) [.ref 155, zi p, zi k, zi (zNum (T p) : Nat), zi (zDe T n at0 + 1), zi ((w : Int) + 1), zi (zDe T n at0)] [] (s, zput V1 (159 + w) k (zi (zVl T at0 (zDe T n at0)))) := fun q => by
        rw [if_neg q] at hcl
        refine ih' _ _ ⟨f1.put (Or.inr (by omega)), i1.put, by show zput V1 (159 + w) k _ 157 k = _; rw [zput_r (by omega)]; exact e1, fun i hi => ?_, ⟨by omega, by omega⟩, ?_⟩
        · show zput V1 (159 + w) k _ (159 + i) k = _
          by_cases ei : i = w
          · rw [ei, zput_at, hnb]
          · rw [zput_r (by omega)]; exact g1 i (by omega)
        · rw [hz, hcl]; congr 1
      conv => rw [zb_109_2]
      by_cases z1 : zDe T n at0 = at0
      · have := bad (Or.inl z1)
        rw [z1] at this
        simp (disch := first | assumption | exact zk_109 | ((repeat (first | exact z1n | refine z1I ?_ | refine z1R ?_)); done) | exact rfl | omega | decide) only [zb_109_5, r_aload_0, r_gf_512, r_iload_1, r_ial, r_ial30, r_ial32, r_inv_1_0, r_inv_1_1, r_inv_1_2, r_inv_1_3, r_inv_1_4, r_K0, r_K1, r_istore_3i, r_istore_3r, r_istore_3j, r_iload_3, r_if_ne, r_iret, r_bret_0, r_bret_1, r_gf_514, r_iload_2, r_iastore, r_iconst, r_iadd, r_istore_4i, r_istore_4r, r_istore_4j, r_istore_5i, r_istore_5r, r_istore_5j, r_goto_w, r_iload_5, r_icmp_ge, r_iload_4, r_inv_2_0, r_inv_2_1, r_inv_2_2, r_inv_2_3, r_inv_2_4, r_istore_6i, r_istore_6r, r_istore_6j, r_iload_6, r_icmp_eq, r_gf_513, r_goto, r_gf_515, r_aaload, r_inv_3_0, r_inv_3_1, r_inv_3_2, r_inv_3_3, r_inv_3_4, r_iinc_5i, r_iinc_5r, r_iinc_5j, uu1, y0, c_endOfDigits (hC := hC1), c_errorAt, z1, ↓reduceIte, not_true_eq_false, not_false_eq_true, Int.reduceEq, Int.reduceLE, Int.reduceLT, Int.reduceAdd, Int.reduceNeg, Int.reduceMul, Int.reduceSub, Int.reduceToNat]
        rw [if_neg (by omega)]
        exact this
      · by_cases z2 : n ≤ zDe T n at0
        · have := bad (Or.inr (Or.inl z2))
          simp (disch := first | assumption | exact zk_109 | ((repeat (first | exact z1n | refine z1I ?_ | refine z1R ?_)); done) | exact rfl | omega | decide) only [zb_109_5, r_aload_0, r_gf_512, r_iload_1, r_ial, r_ial30, r_ial32, r_inv_1_0, r_inv_1_1, r_inv_1_2, r_inv_1_3, r_inv_1_4, r_K0, r_K1, r_istore_3i, r_istore_3r, r_istore_3j, r_iload_3, r_if_ne, r_iret, r_bret_0, r_bret_1, r_gf_514, r_iload_2, r_iastore, r_iconst, r_iadd, r_istore_4i, r_istore_4r, r_istore_4j, r_istore_5i, r_istore_5r, r_istore_5j, r_goto_w, r_iload_5, r_icmp_ge, r_iload_4, r_inv_2_0, r_inv_2_1, r_inv_2_2, r_inv_2_3, r_inv_2_4, r_istore_6i, r_istore_6r, r_istore_6j, r_iload_6, r_icmp_eq, r_gf_513, r_goto, r_gf_515, r_aaload, r_inv_3_0, r_inv_3_1, r_inv_3_2, r_inv_3_3, r_inv_3_4, r_iinc_5i, r_iinc_5r, r_iinc_5j, uu1, y0, c_endOfDigits (hC := hC1), c_errorAt, ↓reduceIte, not_true_eq_false, not_false_eq_true, Int.reduceEq, Int.reduceLE, Int.reduceLT, Int.reduceAdd, Int.reduceNeg, Int.reduceMul, Int.reduceSub, Int.reduceToNat]
          rw [if_neg (by omega), if_neg z1, if_pos z2]
          exact this
        · have hj := hC1.2 (zDe T n at0) (by omega) (by omega)
          have hrj := hr (zDe T n at0) (by omega) (by omega)
          simp (disch := first | assumption | exact zk_109 | ((repeat (first | exact z1n | refine z1I ?_ | refine z1R ?_)); done) | exact rfl | omega | decide) only [zb_109_3, zb_109_4, zb_109_5, zb_109_6, r_aload_0, r_gf_512, r_iload_1, r_ial, r_ial30, r_ial32, r_inv_1_0, r_inv_1_1, r_inv_1_2, r_inv_1_3, r_inv_1_4, r_K0, r_K1, r_istore_3i, r_istore_3r, r_istore_3j, r_iload_3, r_if_ne, r_iret, r_bret_0, r_bret_1, r_gf_514, r_iload_2, r_iastore, r_iconst, r_iadd, r_istore_4i, r_istore_4r, r_istore_4j, r_istore_5i, r_istore_5r, r_istore_5j, r_goto_w, r_iload_5, r_icmp_ge, r_iload_4, r_inv_2_0, r_inv_2_1, r_inv_2_2, r_inv_2_3, r_inv_2_4, r_istore_6i, r_istore_6r, r_istore_6j, r_iload_6, r_icmp_eq, r_gf_513, r_goto, r_gf_515, r_aaload, r_inv_3_0, r_inv_3_1, r_inv_3_2, r_inv_3_3, r_inv_3_4, r_iinc_5i, r_iinc_5r, r_iinc_5j, uu1, y0, y3, w1, hj, c_endOfDigits (hC := hC1), c_valueOf (hC := hC1), c_errorAt, ↓reduceIte, not_true_eq_false, not_false_eq_true, Int.reduceEq, Int.reduceLE, Int.reduceLT, Int.reduceAdd, Int.reduceNeg, Int.reduceMul, Int.reduceSub, Int.reduceToNat]
          rw [if_neg (by omega), if_neg z1, if_neg z2]
          by_cases z3 : (zNum (T p) : Int) ≤ (w : Int) + 1
          · rw [if_pos z3]
            by_cases z4 : T (zDe T n at0) = 59
            · rw [if_pos z4]
              exact good (by rw [if_pos (by omega)]; omega)
            · rw [if_neg z4]
              exact bad (by rw [if_pos (by omega)]; omega)
          · rw [if_neg z3]
            by_cases z4 : T (zDe T n at0) = 44
            · rw [if_pos z4]
              exact good (by rw [if_neg (by omega)]; omega)
            · rw [if_neg z4]
              exact bad (by rw [if_neg (by omega)]; omega)
    · rintro ⟨V1, x6⟩ ⟨f1, i1, e1, g1, ⟨r1, r2⟩, hz⟩
      rw [Int.toNat_natCast] at r1 r2 hz
      rw [Nat.sub_self] at hz
      have hz : zCmL T n (zNum (T p)) (p + 1) = (zNs T n (zNum (T p)) (p + 1), true) := hz
      rw [hz] at hQ
      have := hQ V1 f1 i1 (fun _ => ⟨e1, fun j hj => g1 j (by omega)⟩)
      rw [if_pos rfl] at this
      show zwp (zcall d) 109 Q (zB 109 2) [.ref 155, zi p, zi k, zi (zNum (T p) : Nat), zi (zNs T n ((zNum (T p) : Nat) : Int).toNat (p + 1)), zi ((zNum (T p) : Nat) : Int), x6] [] (s, V1)
      rw [Int.toNat_natCast]
      simp (disch := first | assumption | exact zk_109 | ((repeat (first | exact z1n | refine z1I ?_ | refine z1R ?_)); done) | exact rfl | omega | decide) only [zb_109_2, zb_109_7, r_aload_0, r_gf_512, r_iload_1, r_ial, r_ial30, r_ial32, r_inv_1_0, r_inv_1_1, r_inv_1_2, r_inv_1_3, r_inv_1_4, r_K0, r_K1, r_istore_3i, r_istore_3r, r_istore_3j, r_iload_3, r_if_ne, r_iret, r_bret_0, r_bret_1, r_gf_514, r_iload_2, r_iastore, r_iconst, r_iadd, r_istore_4i, r_istore_4r, r_istore_4j, r_istore_5i, r_istore_5r, r_istore_5j, r_goto_w, r_iload_5, r_icmp_ge, r_iload_4, r_inv_2_0, r_inv_2_1, r_inv_2_2, r_inv_2_3, r_inv_2_4, r_istore_6i, r_istore_6r, r_istore_6j, r_iload_6, r_icmp_eq, r_gf_513, r_goto, r_gf_515, r_aaload, r_inv_3_0, r_inv_3_1, r_inv_3_2, r_inv_3_3, r_inv_3_4, r_iinc_5i, r_iinc_5r, r_iinc_5j, Int.le_refl, ↓reduceIte, not_true_eq_false, not_false_eq_true, Int.reduceEq, Int.reduceLE, Int.reduceLT, Int.reduceAdd, Int.reduceNeg, Int.reduceMul, Int.reduceSub, Int.reduceToNat]
      exact this
end
section
variable {d : Nat} {s : zS} {V : zV} {Q : zO → zH → Prop} {h : zH} {T : Int → Int} {n : Int}
set_option maxRecDepth 20000 in
theorem c_parse (hd : 3 ≤ d) (hP : zTxP s V) (hC : zTxC T n V) (hk : zTok2 T n) (hI : zTxI V) (hQ : ∀ V', (∀ q : Nat, q ≠ 157 → q < 159 ∨ 163 < q → V' q = V q) → zTxI V' → (∀ j : Nat, (j : Int) < zPm T n → zKp T n (zPp T n j) j V') → Q (.inl (some (zi (zPr T n)))) (s, V')) : zcall d 106 [.ref 155] (s, V) Q := by
  have t1 := hP.1
  obtain ⟨n0, n1⟩ := hk.1
  obtain ⟨m0, m1, m2⟩ := zPm_rng (T := T) n0 n1
  obtain ⟨d, rfl⟩ : ∃ e, d = e + 1 := ⟨d - 1, by omega⟩
  rw [zc_106 t1]
  simp (disch := first | assumption | exact zk_106 | ((repeat (first | exact z1n | refine z1I ?_ | refine z1R ?_)); done) | exact rfl | omega | decide) only [zb_106_0, r_iconst, r_istore_1i, r_istore_1r, r_istore_1j, r_istore_2i, r_istore_2r, r_istore_2j, r_goto_w, r_iload_2, r_aload_0, r_gf_513, r_icmp_ge, r_iload_1, r_inv_3_0, r_inv_3_1, r_inv_3_2, r_inv_3_3, r_inv_3_4, r_K0, r_K1, r_if_ge, r_inv_1_0, r_inv_1_1, r_inv_1_2, r_inv_1_3, r_inv_1_4, r_isub, r_iret, r_bret_0, r_bret_1, r_iinc_1i, r_iinc_1r, r_iinc_1j, r_goto, ↓reduceIte, not_true_eq_false, not_false_eq_true, Int.reduceEq, Int.reduceLE, Int.reduceLT, Int.reduceAdd, Int.reduceNeg, Int.reduceMul, Int.reduceSub, Int.reduceToNat]
  have fr : ∀ V1 : zV, (∀ q : Nat, q ≠ 157 → q < 159 ∨ 163 < q → V1 q = V q) → zTxP s V1 ∧ zTxC T n V1 := fun V1 f1 => ⟨hP.fx (f1 155 (by omega) (by omega)) (f1 158 (by omega) (by omega)), hC.fx (f1 155 (by omega) (by omega)) (f1 156 (by omega) (by omega))⟩
  have hlp := z_iter (i := 0) (n := zPm T n) (I := fun c (q : zV) => (∀ r : Nat, r ≠ 157 → r < 159 ∨ 163 < r → q r = V r) ∧ zTxI q ∧ ∀ j : Nat, (j : Int) < c → zKp T n (zPp T n j) j q) (P := fun c q => zwp (zcall d) 106 Q (zB 106 1) [.ref 155, zi c, zi (zPp T n c.toNat)] [] (s, q)) m0
  refine hlp ?_ ?_ V ⟨fun _ _ _ => rfl, hI, fun j hj => by omega⟩
  · rintro c V1 c0 c1 ⟨f1, i1, g1⟩ ih
    obtain ⟨w, rfl⟩ : ∃ w : Nat, c = w := ⟨c.toNat, by omega⟩
    obtain ⟨hP1, hC1⟩ := fr V1 f1
    obtain ⟨b1, b2⟩ := zPm_g c1
    obtain ⟨q1, q2⟩ := zPp_rng (T := T) n0 w (by omega)
    obtain ⟨q3, q4, q5⟩ := zCm_rng (T := T) b1
    have uu1 := hC1.1
    rw [Int.toNat_natCast]
    conv => rw [zb_106_1]
    simp (disch := first | assumption | exact zk_106 | ((repeat (first | exact z1n | refine z1I ?_ | refine z1R ?_)); done) | exact rfl | omega | decide) only [r_iconst, r_istore_1i, r_istore_1r, r_istore_1j, r_istore_2i, r_istore_2r, r_istore_2j, r_goto_w, r_iload_2, r_aload_0, r_gf_513, r_icmp_ge, r_iload_1, r_inv_3_0, r_inv_3_1, r_inv_3_2, r_inv_3_3, r_inv_3_4, r_K0, r_K1, r_if_ge, r_inv_1_0, r_inv_1_1, r_inv_1_2, r_inv_1_3, r_inv_1_4, r_isub, r_iret, r_bret_0, r_bret_1, r_iinc_1i, r_iinc_1r, r_iinc_1j, r_goto, uu1, ↓reduceIte, not_true_eq_false, not_false_eq_true, Int.reduceEq, Int.reduceLE, Int.reduceLT, Int.reduceAdd, Int.reduceNeg, Int.reduceMul, Int.reduceSub, Int.reduceToNat]
    rw [if_neg (by omega), if_neg (by omega)]
    refine c_parseCommand (by omega) hP1 hC1 hk i1 (by omega) b1 (by omega) (by omega) (fun V2 f2 i2 k2 => ?_)
    have := ih V2 ⟨fun q q1 q2 => (f2.1 q q1 q2).trans (f1 q q1 q2), i2, fun j hj => ?_⟩
    · rw [if_pos b2]
      rw [show ((w : Int) + 1).toNat = w + 1 by omega, show zPp T n (w + 1) = (zCm T n (zPp T n w)).1 from rfl] at this
      simp (disch := first | assumption | exact zk_106 | ((repeat (first | exact z1n | refine z1I ?_ | refine z1R ?_)); done) | exact rfl | omega | decide) only [zb_106_2, r_iconst, r_istore_1i, r_istore_1r, r_istore_1j, r_istore_2i, r_istore_2r, r_istore_2j, r_goto_w, r_iload_2, r_aload_0, r_gf_513, r_icmp_ge, r_iload_1, r_inv_3_0, r_inv_3_1, r_inv_3_2, r_inv_3_3, r_inv_3_4, r_K0, r_K1, r_if_ge, r_inv_1_0, r_inv_1_1, r_inv_1_2, r_inv_1_3, r_inv_1_4, r_isub, r_iret, r_bret_0, r_bret_1, r_iinc_1i, r_iinc_1r, r_iinc_1j, r_goto, ↓reduceIte, not_true_eq_false, not_false_eq_true, Int.reduceEq, Int.reduceLE, Int.reduceLT, Int.reduceAdd, Int.reduceNeg, Int.reduceMul, Int.reduceSub, Int.reduceToNat]
      rw [if_pos (by omega)]
      exact this
    · by_cases e : j = w
      · rw [e]; exact k2 b2
      · obtain ⟨x1, x2⟩ := g1 j (by omega)
        exact ⟨by rw [f2.2 _ _ (by omega)]; exact x1, fun i hi => by rw [f2.2 _ _ (by omega)]; exact x2 i hi⟩
  · rintro V1 ⟨f1, i1, g1⟩
    obtain ⟨hP1, hC1⟩ := fr V1 f1
    obtain ⟨q1, q2⟩ := zPp_rng (T := T) n0 (zPm T n).toNat (by omega)
    have uu1 := hC1.1
    by_cases z : zPp T n (zPm T n).toNat < n
    · obtain ⟨z1, z2⟩ := m2 z
      obtain ⟨q3, q4, q5⟩ := zCm_rng (T := T) z
      have hr : zPr T n = -10 - (zCm T n (zPp T n (zPm T n).toNat)).1 := by unfold zPr; rw [if_pos z]
      rw [hr] at hQ
      conv => rw [zb_106_1]
      simp (disch := first | assumption | exact zk_106 | ((repeat (first | exact z1n | refine z1I ?_ | refine z1R ?_)); done) | exact rfl | omega | decide) only [r_iconst, r_istore_1i, r_istore_1r, r_istore_1j, r_istore_2i, r_istore_2r, r_istore_2j, r_goto_w, r_iload_2, r_aload_0, r_gf_513, r_icmp_ge, r_iload_1, r_inv_3_0, r_inv_3_1, r_inv_3_2, r_inv_3_3, r_inv_3_4, r_K0, r_K1, r_if_ge, r_inv_1_0, r_inv_1_1, r_inv_1_2, r_inv_1_3, r_inv_1_4, r_isub, r_iret, r_bret_0, r_bret_1, r_iinc_1i, r_iinc_1r, r_iinc_1j, r_goto, uu1, ↓reduceIte, not_true_eq_false, not_false_eq_true, Int.reduceEq, Int.reduceLE, Int.reduceLT, Int.reduceAdd, Int.reduceNeg, Int.reduceMul, Int.reduceSub, Int.reduceToNat]
      rw [if_neg (by omega), if_neg (by omega)]
      refine c_parseCommand (by omega) hP1 hC1 hk i1 (by omega) z (by omega) (by omega) (fun V2 f2 i2 k2 => ?_)
      have := hQ V2 (fun q q1 q2 => (f2.1 q q1 q2).trans (f1 q q1 q2)) i2 (fun j hj => by
        obtain ⟨x1, x2⟩ := g1 j hj
        exact ⟨by rw [f2.2 _ _ (by omega)]; exact x1, fun i hi => by rw [f2.2 _ _ (by omega)]; exact x2 i hi⟩)
      rw [z2, if_neg Bool.false_ne_true]
      generalize (zCm T n (zPp T n (zPm T n).toNat)).1 = e at *
      simp (disch := first | assumption | exact zk_106 | ((repeat (first | exact z1n | refine z1I ?_ | refine z1R ?_)); done) | exact rfl | omega | decide) only [r_iconst, r_istore_1i, r_istore_1r, r_istore_1j, r_istore_2i, r_istore_2r, r_istore_2j, r_goto_w, r_iload_2, r_aload_0, r_gf_513, r_icmp_ge, r_iload_1, r_inv_3_0, r_inv_3_1, r_inv_3_2, r_inv_3_3, r_inv_3_4, r_K0, r_K1, r_if_ge, r_inv_1_0, r_inv_1_1, r_inv_1_2, r_inv_1_3, r_inv_1_4, r_isub, r_iret, r_bret_0, r_bret_1, r_iinc_1i, r_iinc_1r, r_iinc_1j, r_goto, c_placeOf, ↓reduceIte, not_true_eq_false, not_false_eq_true, Int.reduceEq, Int.reduceLE, Int.reduceLT, Int.reduceAdd, Int.reduceNeg, Int.reduceMul, Int.reduceSub, Int.reduceToNat]
      rw [if_neg (by omega)]
      rw [show -10 - e = -10 - (-1 - (-1 - e)) by omega] at this
      exact this
    · have hr : zPr T n = zPm T n := by unfold zPr; rw [if_neg z]
      rw [hr] at hQ
      have := hQ V1 f1 i1 g1
      have z : n ≤ zPp T n (zPm T n).toNat := by omega
      simp (disch := first | assumption | exact zk_106 | ((repeat (first | exact z1n | refine z1I ?_ | refine z1R ?_)); done) | exact rfl | omega | decide) only [zb_106_1, zb_106_3, r_iconst, r_istore_1i, r_istore_1r, r_istore_1j, r_istore_2i, r_istore_2r, r_istore_2j, r_goto_w, r_iload_2, r_aload_0, r_gf_513, r_icmp_ge, r_iload_1, r_inv_3_0, r_inv_3_1, r_inv_3_2, r_inv_3_3, r_inv_3_4, r_K0, r_K1, r_if_ge, r_inv_1_0, r_inv_1_1, r_inv_1_2, r_inv_1_3, r_inv_1_4, r_isub, r_iret, r_bret_0, r_bret_1, r_iinc_1i, r_iinc_1r, r_iinc_1j, r_goto, uu1, ↓reduceIte, not_true_eq_false, not_false_eq_true, Int.reduceEq, Int.reduceLE, Int.reduceLT, Int.reduceAdd, Int.reduceNeg, Int.reduceMul, Int.reduceSub, Int.reduceToNat]
      rw [if_pos z]
      exact this
end
