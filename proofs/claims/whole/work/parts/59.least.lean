/-! LEAST BUDGET, 1: outcomes depend on service and budget alone -/
theorem zMem_x {ρ : zR} {c hd : Int} (c0 : 0 ≤ c) (h0 : 0 ≤ hd) (h : c = hd ∨ zLead ρ c = hd) : ρ.K 0 c = ρ.K 0 hd := by
  rcases h with h | h
  · rw [h]
  · unfold zLead at h
    by_cases q : ρ.K 4 c = 2
    · rw [if_pos q] at h
      have hz := (zHd_is (ρ := ρ) (x := ρ.K 0 c) (j := c.toNat) (by omega)).1.1
      rw [h] at hz
      exact hz.symm
    · rw [if_neg q] at h; omega
/-- two ways of asking that answer alike for the calls of x -/
def zInd (ρ : zR) (x : Int) (A A' : zAsk) : Prop := ∀ cl, 0 ≤ cl → cl < ρ.c → ρ.K 0 cl = x → ∀ mo mo' bu ν ν', (A cl mo bu ν).1 = (A' cl mo' bu ν').1
theorem zMk_ind {ρ : zR} {x : Int} {A A' : zAsk} (h : zInd ρ x A A') {cl : Int} (c0 : 0 ≤ cl) (c1 : cl < ρ.c) (hx : ρ.K 0 cl = x) {mo mo' bu : Int} : ∀ (t : Nat) (u : Int) (ν ν' : zN), (zMk ρ A cl mo bu t u ν).1 = (zMk ρ A' cl mo' bu t u ν').1 := by
  intro t
  induction t with
  | zero => intro u ν ν'; rfl
  | succ t ih =>
    intro u ν ν'
    by_cases q : bu ≤ u
    · rw [zMk_stop q, zMk_stop q]
    · rw [zMk_go q rfl, zMk_go q rfl, h cl c0 c1 hx (mo + u) (mo' + u) _ ν ν']
      split
      · rfl
      · exact ih _ _ _
theorem zGr_ind {ρ : zR} {x : Int} {A A' : zAsk} (h : zInd ρ x A A') {hd mo mo' bu : Int} (h0 : 0 ≤ hd) (hx : ρ.K 0 hd = x) : ∀ (m : Nat) (u : Int) (ν ν' : zN), (m : Int) ≤ ρ.c → (zGr ρ A hd mo bu m u ν).1 = (zGr ρ A' hd mo' bu m u ν').1 := by
  intro m
  induction m with
  | zero => intro u ν ν' _; rfl
  | succ m ih =>
    intro u ν ν' hm
    unfold zGr
    by_cases q : ρ.c - ((m + 1 : Nat) : Int) = hd ∨ zLead ρ (ρ.c - ((m + 1 : Nat) : Int)) = hd
    · rw [if_pos q, if_pos q]
      have e := zMk_ind h (cl := ρ.c - ((m + 1 : Nat) : Int)) (by omega) (by omega) ((zMem_x (by omega) h0 q).trans hx) (mo := mo) (mo' := mo') (bu := bu) (ρ.K 3 (ρ.c - ((m + 1 : Nat) : Int))).toNat u ν ν'
      rw [e]
      split
      · exact e
      · exact ih _ _ _ (by omega)
    · rw [if_neg q, if_neg q]
      exact ih _ _ _ (by omega)
theorem zHs_ind {ρ : zR} {x : Int} {A A' : zAsk} (h : zInd ρ x A A') {mo mo' bu : Int} : ∀ (m : Nat) (u : Int) (ν ν' : zN), (m : Int) ≤ ρ.c → (zHs ρ A x mo bu m u ν).1 = (zHs ρ A' x mo' bu m u ν').1 := by
  intro m
  induction m with
  | zero => intro u ν ν' _; rfl
  | succ m ih =>
    intro u ν ν' hm
    unfold zHs
    by_cases q : ρ.K 0 (ρ.c - ((m + 1 : Nat) : Int)) = x ∧ ρ.K 4 (ρ.c - ((m + 1 : Nat) : Int)) ≠ 2
    · rw [if_pos q, if_pos q]
      have e := zGr_ind h (hd := ρ.c - ((m + 1 : Nat) : Int)) (mo := mo) (mo' := mo') (bu := bu) (by omega) q.1 (m + 1) u ν ν' hm
      rw [e]
      split
      · exact ih _ _ _ (by omega)
      · split
        · rfl
        · exact ih _ _ _ (by omega)
    · rw [if_neg q, if_neg q]
      exact ih _ _ _ (by omega)
theorem zSvB_ind {ρ : zR} (hc : 0 ≤ ρ.c) {x : Int} {A A' : zAsk} (h : zInd ρ x A A') {mo mo' bu : Int} {ν ν' : zN} : (zSvB ρ A x mo bu ν).1 = (zSvB ρ A' x mo' bu ν').1 := by
  unfold zSvB
  split
  · rfl
  · split
    · rfl
    · exact zHs_ind h _ _ _ _ (by omega)
theorem zSv_ind {ρ : zR} (hc : 0 ≤ ρ.c) : ∀ (f : Nat) (x mo mo' bu : Int) (ν ν' : zN), (zSv ρ f x mo bu ν).1 = (zSv ρ f x mo' bu ν').1 := by
  intro f
  induction f with
  | zero => intro x mo mo' bu ν ν'; rfl
  | succ f ih =>
    intro x mo mo' bu ν ν'
    have h : zInd ρ x (zAk ρ (zSv ρ f)) (zAk ρ (zSv ρ f)) := fun cl _ _ _ mo mo' bu ν ν' => ih (ρ.K 1 cl) mo mo' bu (zNt ν cl mo bu) (zNt ν' cl mo' bu)
    exact zSvB_ind hc h
theorem zSv_fuel {ρ : zR} (hW : zWF ρ) : ∀ (f : Nat) (x mo bu : Int) (ν : zN), zpop (zNeeds ρ x) < f → (zSv ρ (f + 1) x mo bu ν).1 = (zSv ρ f x mo bu ν).1 := by
  intro f
  induction f with
  | zero =>
    intro x mo bu ν h
    have := zpop_rng (v := zNeeds ρ x)
    omega
  | succ f ih =>
    intro x mo bu ν h
    refine zSvB_ind hW.1.2.2.1 (fun cl c0 c1 hx mo mo' bu ν ν' => ?_)
    have hr := zRank_lt hW (⟨cl, c0, c1, hx, rfl⟩ : zEd ρ x (ρ.K 1 cl))
    show (zSv ρ (f + 1) (ρ.K 1 cl) mo bu (zNt ν cl mo bu)).1 = (zSv ρ f (ρ.K 1 cl) mo' bu (zNt ν' cl mo' bu)).1
    rw [ih _ _ _ _ (by omega)]
    exact zSv_ind hW.1.2.2.1 f _ _ _ _ _ _
/-- what comes of a service with a budget -/
def zSw (ρ : zR) (x bu : Int) : Int × Bool := (zSv ρ 12 x 0 bu zN0).1
def zTbA (ρ : zR) : zAsk := fun cl _ bu ν => (zSw ρ (ρ.K 1 cl) bu, ν)
theorem zSw_tab {ρ : zR} (hW : zWF ρ) {x mo bu : Int} (x0 : 0 ≤ x) (x1 : x < ρ.n) {ν : zN} : (zSvB ρ (zTbA ρ) x mo bu ν).1 = zSw ρ x bu := by
  have hr := zRank_n hW x0 x1
  refine (zSvB_ind hW.1.2.2.1 (fun cl c0 c1 hx mo mo' bu ν ν' => ?_) : _ = (zSvB ρ (zAk ρ (zSv ρ 11)) x 0 bu zN0).1)
  have hr2 := zRank_lt hW (⟨cl, c0, c1, hx, rfl⟩ : zEd ρ x (ρ.K 1 cl))
  show (zSv ρ 12 (ρ.K 1 cl) 0 bu zN0).1 = (zSv ρ 11 (ρ.K 1 cl) mo' bu (zNt ν' cl mo' bu)).1
  rw [zSv_fuel hW 11 _ _ _ _ (by omega)]
  exact zSv_ind hW.1.2.2.1 11 _ _ _ _ _ _
theorem zSw_rng {ρ : zR} (hW : zWF ρ) {x bu : Int} (x0 : 0 ≤ x) (x1 : x < ρ.n) (b0 : 0 ≤ bu) : 0 ≤ (zSw ρ x bu).1 ∧ (zSw ρ x bu).1 ≤ bu := zSv_tok hW 12 x 0 bu zN0 x0 x1 b0
theorem zTbA_tok {ρ : zR} (hW : zWF ρ) : zTok ρ (zTbA ρ) := fun cl mo bu ν c0 c1 b0 => by
  have w := hW.2.2.1 cl c0 c1
  exact zSw_rng hW w.2.1.1 w.2.1.2 b0
theorem zSw_down {ρ : zR} {x bu : Int} (h : ρ.S 6 x ≠ 1) : (zSw ρ x bu).2 = false := by
  show (zSvB ρ (zAk ρ (zSv ρ 11)) x 0 bu zN0).1.2 = false
  unfold zSvB
  rw [if_pos h]
/-- the least budget, or -1 -/
def zLb (ρ : zR) (x : Int) : Int := if zfst (fun b => (zSw ρ x b).2) 0 1001 < 1001 then zfst (fun b => (zSw ρ x b).2) 0 1001 else -1
section
variable {d : Nat} {s : zS} {V : zV} {Q : zO → zH → Prop} {a r : Nat} {ρ : zR} {h : zH}
/-- the table holds what comes of the services in v with budgets below b -/
def zTbl (ρ : zR) (v : Nat) (V : zV) (r : Nat) (b : Int) : Prop := ∀ b' y : Int, 0 ≤ b' → b' < b → b' ≤ 500 → 0 ≤ y → y < ρ.n → zin v y = true → V r (b' * 12 + y) = zi (zOc (zSw ρ y b'))
set_option maxRecDepth 20000 in
/-- BudgetSearch serves x with the budget b: x is asked about, or one that it depends on -/
theorem c_bserve (hd : 12 ≤ d) (hW : zWF ρ) (hP : zStP s V a) (hC : zStC ρ V a) (ht : s.tg 132 = 0) (hr : V 132 0 = .ref r) (hrt : s.tg r = 20) (hrl : s.ln r = 6012) {v : Nat} {x b : Int} (x0 : 0 ≤ x) (x1 : x < ρ.n) (b0 : 0 ≤ b) (b1 : b ≤ 1000) (hv : ∀ y, 0 ≤ y → zEd ρ x y → zin v y = true) (hT : zTbl ρ v V r b) (hQ : Q (.inl (some (zi (zOc (zSw ρ x b))))) (s, V)) : zcall d 305 [.ref 132, .ref a, zi x, zi 0, zi b, zi 1] (s, V) Q := by
  obtain ⟨n0, n1, cc0, cc1⟩ := hW.1
  refine c_serve0 (R := fun _ V' => V' = V) (nA := 3) (nF := 4) (nM := 5) (d := 3) (bm := b - 1) (ask := zTbA ρ) (ν := zN0) ⟨Or.inr ⟨ht, rfl⟩, Or.inr ⟨ht, rfl⟩, Or.inr ⟨ht, rfl⟩, zTbA_tok hW, ?_, ?_, ?_, ?_⟩ ht hW (by omega) (by omega) rfl x0 x1 (by omega) (by omega) b0 b1 (Int.le_refl _) ?_
  · rintro ν V' rfl
    exact ⟨hP, hC⟩
  · rintro e cl mo bu ν V' K hde rfl c0 c1 hcx m0 m1 bu0 bu1 bu2 hK
    have w := hW.2.2.1 cl c0 c1
    obtain ⟨e, rfl⟩ : ∃ q, e = q + 1 := ⟨e - 1, by omega⟩
    rw [zc_3 ht]
    have v3 : V' a 3 = .ref (a + 11) := hP.2.2.2.2.1
    have v31 : V' (a + 11) 1 = .ref (a + 13) := (hP.2.2.2.2.2.2.2.2 1 (by omega)).1
    have t7 := hP.1
    have tB := hP.2.2.2.2.2.1
    have lB := hP.2.2.2.2.2.2.1
    have t13 : s.tg (a + 13) = 20 := (hP.2.2.2.2.2.2.2.2 1 (by omega)).2.1
    have l13 : s.ln (a + 13) = 24 := (hP.2.2.2.2.2.2.2.2 1 (by omega)).2.2
    have vk : V' (a + 13) cl = zi (ρ.K 1 cl) := hC.2.2.2.1 1 (by omega) cl c0 c1
    have vt := hT bu (ρ.K 1 cl) (by omega) (by omega) (by omega) w.2.1.1 w.2.1.2 (hv _ w.2.1.1 ⟨cl, c0, c1, hcx, rfl⟩)
    have := hK V' rfl
    simp (disch := first | assumption | exact zk_3 | ((repeat (first | exact z1n | refine z1I ?_ | refine z1R ?_)); done) | exact rfl | omega | decide) only [zb_3_0, r_aload_0, r_gf_0, r_iload_4, r_iconst, r_imul, r_aload_1, r_gf_451, r_aaload, r_iload_2, r_ial, r_ial30, r_ial32, r_iadd, r_iret, r_bret_0, r_bret_1, hr, v3, v31, vk, vt, ↓reduceIte, not_true_eq_false, not_false_eq_true, Int.reduceEq, Int.reduceLE, Int.reduceLT, Int.reduceAdd, Int.reduceNeg, Int.reduceMul, Int.reduceSub, Int.reduceToNat]
    exact this
  · rintro e y kind mo bu ν V' K hde rfl y0 y1 k0 k1 hK
    obtain ⟨e, rfl⟩ : ∃ q, e = q + 1 := ⟨e - 1, by omega⟩
    rw [zc_4 ht]
    have := hK V' rfl
    simp (disch := first | assumption | exact zk_4 | ((repeat (first | exact z1n | refine z1I ?_ | refine z1R ?_)); done) | exact rfl | omega | decide) only [zb_4_0, r_ret, ↓reduceIte, not_true_eq_false, not_false_eq_true, Int.reduceEq, Int.reduceLE, Int.reduceLT, Int.reduceAdd, Int.reduceNeg, Int.reduceMul, Int.reduceSub, Int.reduceToNat]
    exact this
  · rintro e ν V' K hde rfl hK
    obtain ⟨e, rfl⟩ : ∃ q, e = q + 1 := ⟨e - 1, by omega⟩
    rw [zc_5 ht]
    have := hK V' rfl
    simp (disch := first | assumption | exact zk_5 | ((repeat (first | exact z1n | refine z1I ?_ | refine z1R ?_)); done) | exact rfl | omega | decide) only [zb_5_0, r_ret, ↓reduceIte, not_true_eq_false, not_false_eq_true, Int.reduceEq, Int.reduceLE, Int.reduceLT, Int.reduceAdd, Int.reduceNeg, Int.reduceMul, Int.reduceSub, Int.reduceToNat]
    exact this
  · rintro V' rfl
    rw [zSw_tab hW x0 x1]
    exact hQ
set_option maxRecDepth 20000 in
theorem c_keep (hd : 13 ≤ d) (hW : zWF ρ) (hP : zStP s V a) (hC : zStC ρ V a) (ht : s.tg 132 = 0) (hr : V 132 0 = .ref r) (hrt : s.tg r = 20) (hrl : s.ln r = 6012) (hra : r < a ∨ a + 18 ≤ r) (hr132 : r ≠ 132) {v : Nat} (hv4 : v < 4096) {b : Int} (b0 : 0 ≤ b) (b1 : b ≤ 500) (hv : ∀ x y, 0 ≤ x → x < ρ.n → zin v x = true → 0 ≤ y → zEd ρ x y → zin v y = true) (hT : zTbl ρ v V r b) (hQ : ∀ V', (∀ q : Nat, q ≠ r → V' q = V q) → zTbl ρ v V' r (b + 1) → Q (.inl none) (s, V')) : zcall d 2 [.ref 132, .ref a, zi (v : Nat), zi b] (s, V) Q := by
  obtain ⟨n0, n1, cc0, cc1⟩ := hW.1
  obtain ⟨d, rfl⟩ : ∃ e, d = e + 1 := ⟨d - 1, by omega⟩
  rw [zc_2 ht]
  have t7 := hP.1
  simp (disch := first | assumption | exact zk_2 | ((repeat (first | exact z1n | refine z1I ?_ | refine z1R ?_)); done) | exact rfl | omega | decide) only [zb_2_0, r_iconst, r_istore_4i, r_istore_4r, r_istore_4j, r_goto_w, r_iload_4, r_aload_1, r_gf_448, r_icmp_ge, r_iload_2, r_inv_2_0, r_inv_2_1, r_inv_2_2, r_inv_2_3, r_inv_2_4, r_K0, r_K1, r_if_eq, r_aload_0, r_gf_0, r_iload_3, r_imul, r_iadd, r_inv_6_0, r_inv_6_1, r_inv_6_2, r_inv_6_3, r_inv_6_4, r_iastore, r_iinc_4i, r_iinc_4r, r_iinc_4j, r_goto, r_ret, ↓reduceIte, not_true_eq_false, not_false_eq_true, Int.reduceEq, Int.reduceLE, Int.reduceLT, Int.reduceAdd, Int.reduceNeg, Int.reduceMul, Int.reduceSub, Int.reduceToNat]
  have hx := z_iter (i := 0) (n := ρ.n) (I := fun k (q : zV) => (∀ z : Nat, z ≠ r → q z = V z) ∧ zTbl ρ v q r b ∧ ∀ y, 0 ≤ y → y < k → zin v y = true → q r (b * 12 + y) = zi (zOc (zSw ρ y b))) (P := fun k q => zwp (zcall d) 2 Q (zB 2 1) [.ref 132, .ref a, zi (v : Nat), zi b, zi k] [] (s, q)) n0
  have fr : ∀ V1 : zV, (∀ z : Nat, z ≠ r → V1 z = V z) → zStP s V1 a ∧ zStC ρ V1 a ∧ V1 132 0 = .ref r := fun V1 f1 => by
    have e : ∀ z, a ≤ z → z < a + 18 → V1 z = V z := fun z z0 z1 => f1 z (by omega)
    refine ⟨hP.of (by rw [e a (by omega) (by omega)]) (by rw [e a (by omega) (by omega)]) (e _ (by omega) (by omega)) (e _ (by omega) (by omega)), ?_, by rw [f1 132 (by omega)]; exact hr⟩
    obtain ⟨c1, c2, c3, c4, c5⟩ := hC
    exact ⟨by rw [e a (by omega) (by omega)]; exact c1, by rw [e a (by omega) (by omega)]; exact c2, fun k hk x => by rw [e _ (by omega) (by omega)]; exact c3 k hk x, fun k hk x => by rw [e _ (by omega) (by omega)]; exact c4 k hk x, fun x => by rw [e _ (by omega) (by omega)]; exact c5 x⟩
  refine hx ?_ ?_ V ⟨fun _ _ => rfl, hT, fun y _ _ => by omega⟩
  · rintro k V1 k0 k1 ⟨f1, hT1, e1⟩ ih
    obtain ⟨hP1, hC1, hr1⟩ := fr V1 f1
    have vn := hC1.1
    conv => rw [zb_2_1]
    simp (disch := first | assumption | exact zk_2 | ((repeat (first | exact z1n | refine z1I ?_ | refine z1R ?_)); done) | exact rfl | omega | decide) only [r_iconst, r_istore_4i, r_istore_4r, r_istore_4j, r_goto_w, r_iload_4, r_aload_1, r_gf_448, r_icmp_ge, r_iload_2, r_inv_2_0, r_inv_2_1, r_inv_2_2, r_inv_2_3, r_inv_2_4, r_K0, r_K1, r_if_eq, r_aload_0, r_gf_0, r_iload_3, r_imul, r_iadd, r_inv_6_0, r_inv_6_1, r_inv_6_2, r_inv_6_3, r_inv_6_4, r_iastore, r_iinc_4i, r_iinc_4r, r_iinc_4j, r_goto, r_ret, vn, c_contains, hr1, ↓reduceIte, not_true_eq_false, not_false_eq_true, Int.reduceEq, Int.reduceLE, Int.reduceLT, Int.reduceAdd, Int.reduceNeg, Int.reduceMul, Int.reduceSub, Int.reduceToNat]
    rw [if_neg (by omega)]
    by_cases q : zin v k = true
    · rw [if_pos q]
      refine c_bserve (by omega) hW hP1 hC1 ht hr1 hrt hrl k0 k1 b0 (by omega) (fun y y0 hy => hv k y k0 k1 q y0 hy) hT1 ?_
      simp (disch := first | assumption | exact zk_2 | ((repeat (first | exact z1n | refine z1I ?_ | refine z1R ?_)); done) | exact rfl | omega | decide) only [zb_2_2, r_iconst, r_istore_4i, r_istore_4r, r_istore_4j, r_goto_w, r_iload_4, r_aload_1, r_gf_448, r_icmp_ge, r_iload_2, r_inv_2_0, r_inv_2_1, r_inv_2_2, r_inv_2_3, r_inv_2_4, r_K0, r_K1, r_if_eq, r_aload_0, r_gf_0, r_iload_3, r_imul, r_iadd, r_inv_6_0, r_inv_6_1, r_inv_6_2, r_inv_6_3, r_inv_6_4, r_iastore, r_iinc_4i, r_iinc_4r, r_iinc_4j, r_goto, r_ret, ↓reduceIte, not_true_eq_false, not_false_eq_true, Int.reduceEq, Int.reduceLE, Int.reduceLT, Int.reduceAdd, Int.reduceNeg, Int.reduceMul, Int.reduceSub, Int.reduceToNat]
      refine ih _ ⟨fun z hz => (zput_row hz).trans (f1 z hz), fun b' y q0 q1 q2 q3 q4 q5 => ?_, fun y y0 y1 hy => ?_⟩
      · rw [zput_i (by omega)]; exact hT1 b' y q0 q1 q2 q3 q4 q5
      · by_cases e : y = k
        · rw [e, zput_at]
        · rw [zput_i (by omega)]; exact e1 y y0 (by omega) hy
    · rw [if_neg q]
      simp (disch := first | assumption | exact zk_2 | ((repeat (first | exact z1n | refine z1I ?_ | refine z1R ?_)); done) | exact rfl | omega | decide) only [zb_2_2, r_iconst, r_istore_4i, r_istore_4r, r_istore_4j, r_goto_w, r_iload_4, r_aload_1, r_gf_448, r_icmp_ge, r_iload_2, r_inv_2_0, r_inv_2_1, r_inv_2_2, r_inv_2_3, r_inv_2_4, r_K0, r_K1, r_if_eq, r_aload_0, r_gf_0, r_iload_3, r_imul, r_iadd, r_inv_6_0, r_inv_6_1, r_inv_6_2, r_inv_6_3, r_inv_6_4, r_iastore, r_iinc_4i, r_iinc_4r, r_iinc_4j, r_goto, r_ret, ↓reduceIte, not_true_eq_false, not_false_eq_true, Int.reduceEq, Int.reduceLE, Int.reduceLT, Int.reduceAdd, Int.reduceNeg, Int.reduceMul, Int.reduceSub, Int.reduceToNat]
      refine ih _ ⟨f1, hT1, fun y y0 y1 hy => ?_⟩
      by_cases e : y = k
      · rw [e] at hy; exact absurd hy q
      · exact e1 y y0 (by omega) hy
  · rintro V1 ⟨f1, hT1, e1⟩
    obtain ⟨hP1, hC1, hr1⟩ := fr V1 f1
    have vn := hC1.1
    simp (disch := first | assumption | exact zk_2 | ((repeat (first | exact z1n | refine z1I ?_ | refine z1R ?_)); done) | exact rfl | omega | decide) only [zb_2_1, zb_2_3, r_iconst, r_istore_4i, r_istore_4r, r_istore_4j, r_goto_w, r_iload_4, r_aload_1, r_gf_448, r_icmp_ge, r_iload_2, r_inv_2_0, r_inv_2_1, r_inv_2_2, r_inv_2_3, r_inv_2_4, r_K0, r_K1, r_if_eq, r_aload_0, r_gf_0, r_iload_3, r_imul, r_iadd, r_inv_6_0, r_inv_6_1, r_inv_6_2, r_inv_6_3, r_inv_6_4, r_iastore, r_iinc_4i, r_iinc_4r, r_iinc_4j, r_goto, r_ret, vn, Int.le_refl, ↓reduceIte, not_true_eq_false, not_false_eq_true, Int.reduceEq, Int.reduceLE, Int.reduceLT, Int.reduceAdd, Int.reduceNeg, Int.reduceMul, Int.reduceSub, Int.reduceToNat]
    refine hQ V1 f1 (fun b' y q0 q1 q2 q3 q4 q5 => ?_)
    by_cases e : b' = b
    · rw [e]; exact e1 y q3 q4 q5
    · exact hT1 b' y q0 (by omega) q2 q3 q4 q5
set_option maxRecDepth 20000 in
/-- leastFor, where the table is there -/
theorem c_least2 (hd : 14 ≤ d) (hW : zWF ρ) (hP : zStP s V a) (hC : zStC ρ V a) (ht : s.tg 132 = 0) (hr : V 132 0 = .ref r) (hrt : s.tg r = 20) (hrl : s.ln r = 6012) (hra : r < a ∨ a + 18 ≤ r) (hr132 : r ≠ 132) {x : Int} (x0 : 0 ≤ x) (x1 : x < ρ.n) (hQ : ∀ V', (∀ q : Nat, q ≠ r → V' q = V q) → Q (.inl (some (zi (zLb ρ x)))) (s, V')) : zwp (zcall d) 1 Q (zB 1 2) [.ref 132, .ref a, zi x, zJ, zJ] [] (s, V) := by
  obtain ⟨n0, n1, cc0, cc1⟩ := hW.1
  have t7 := hP.1
  have hv4 := zNeeds_lt hW x
  simp (disch := first | assumption | exact zk_1 | ((repeat (first | exact z1n | refine z1I ?_ | refine z1R ?_)); done) | exact rfl | omega | decide) only [zb_1_2, r_aload_1, r_iload_2, r_inv_2_0, r_inv_2_1, r_inv_2_2, r_inv_2_3, r_inv_2_4, r_K0, r_K1, r_if_ne, r_iconst, r_iret, r_bret_0, r_bret_1, r_aload_0, r_gf_0, r_alen, r_newa_int, r_pf_0, r_goto_w, r_istore_3i, r_istore_3r, r_istore_3j, r_istore_4i, r_istore_4r, r_istore_4j, r_iload_4, r_icmp_gt, r_inv_6_0, r_inv_6_1, r_inv_6_2, r_inv_6_3, r_inv_6_4, r_inv_1_0, r_inv_1_1, r_inv_1_2, r_inv_1_3, r_inv_1_4, r_if_eq, r_iload_3, r_inv_4_0, r_inv_4_1, r_inv_4_2, r_inv_4_3, r_inv_4_4, r_iinc_4i, r_iinc_4r, r_iinc_4j, r_goto, c_needs (hC := hC), ↓reduceIte, not_true_eq_false, not_false_eq_true, Int.reduceEq, Int.reduceLE, Int.reduceLT, Int.reduceAdd, Int.reduceNeg, Int.reduceMul, Int.reduceSub, Int.reduceToNat]
  have fr : ∀ V1 : zV, (∀ z : Nat, z ≠ r → V1 z = V z) → zStP s V1 a ∧ zStC ρ V1 a ∧ V1 132 0 = .ref r := fun V1 f1 => by
    have e : ∀ z, a ≤ z → z < a + 18 → V1 z = V z := fun z z0 z1 => f1 z (by omega)
    refine ⟨hP.of (by rw [e a (by omega) (by omega)]) (by rw [e a (by omega) (by omega)]) (e _ (by omega) (by omega)) (e _ (by omega) (by omega)), ?_, by rw [f1 132 (by omega)]; exact hr⟩
    obtain ⟨c1, c2, c3, c4, c5⟩ := hC
    exact ⟨by rw [e a (by omega) (by omega)]; exact c1, by rw [e a (by omega) (by omega)]; exact c2, fun k hk x => by rw [e _ (by omega) (by omega)]; exact c3 k hk x, fun k hk x => by rw [e _ (by omega) (by omega)]; exact c4 k hk x, fun x => by rw [e _ (by omega) (by omega)]; exact c5 x⟩
  have hclo : ∀ z y, 0 ≤ z → z < ρ.n → zin (zNeeds ρ x) z = true → 0 ≤ y → zEd ρ z y → zin (zNeeds ρ x) y = true := fun z y z0 z1 hz y0 hy =>
    (zNeeds_iff hW x0 x1 y0).mpr (Relation.TransGen.tail ((zNeeds_iff hW x0 x1 z0).mp hz) hy)
  have hx := z_iter (i := 0) (n := 1001) (I := fun b (q : zV) => (∀ z : Nat, z ≠ r → q z = V z) ∧ zTbl ρ (zNeeds ρ x) q r b ∧ ∀ b', 0 ≤ b' → b' < b → (zSw ρ x b').2 = false) (P := fun b q => zwp (zcall d) 1 Q (zB 1 3) [.ref 132, .ref a, zi x, zi (zNeeds ρ x : Nat), zi b] [] (s, q)) (by omega)
  refine hx ?_ ?_ V ⟨fun _ _ => rfl, fun b' y _ _ => by omega, fun b' _ _ => by omega⟩
  · rintro b V1 b0 b1 ⟨f1, hT1, e1⟩ ih
    obtain ⟨hP1, hC1, hr1⟩ := fr V1 f1
    have hrg := zSw_rng hW x0 x1 b0
    conv => rw [zb_1_3]
    simp (disch := first | assumption | exact zk_1 | ((repeat (first | exact z1n | refine z1I ?_ | refine z1R ?_)); done) | exact rfl | omega | decide) only [r_aload_1, r_iload_2, r_inv_2_0, r_inv_2_1, r_inv_2_2, r_inv_2_3, r_inv_2_4, r_K0, r_K1, r_if_ne, r_iconst, r_iret, r_bret_0, r_bret_1, r_aload_0, r_gf_0, r_alen, r_newa_int, r_pf_0, r_goto_w, r_istore_3i, r_istore_3r, r_istore_3j, r_istore_4i, r_istore_4r, r_istore_4j, r_iload_4, r_icmp_gt, r_inv_6_0, r_inv_6_1, r_inv_6_2, r_inv_6_3, r_inv_6_4, r_inv_1_0, r_inv_1_1, r_inv_1_2, r_inv_1_3, r_inv_1_4, r_if_eq, r_iload_3, r_inv_4_0, r_inv_4_1, r_inv_4_2, r_inv_4_3, r_inv_4_4, r_iinc_4i, r_iinc_4r, r_iinc_4j, r_goto, ↓reduceIte, not_true_eq_false, not_false_eq_true, Int.reduceEq, Int.reduceLE, Int.reduceLT, Int.reduceAdd, Int.reduceNeg, Int.reduceMul, Int.reduceSub, Int.reduceToNat]
    rw [if_neg (by omega)]
    refine c_bserve (by omega) hW hP1 hC1 ht hr1 hrt hrl x0 x1 b0 (by omega) (fun y y0 hy => (zNeeds_iff hW x0 x1 y0).mpr (Relation.TransGen.single hy)) hT1 ?_
    by_cases g : (zSw ρ x b).2 = true
    · have hf : zfst (fun b => (zSw ρ x b).2) 0 1001 = b := zfst_eq b0 (by omega) (fun j j0 j1 => e1 j j0 j1) (fun _ => g)
      have := hQ V1 f1
      unfold zLb at this
      rw [hf, if_pos b1] at this
      simp (disch := first | assumption | exact zk_1 | ((repeat (first | exact z1n | refine z1I ?_ | refine z1R ?_)); done) | exact rfl | omega | decide) only [r_aload_1, r_iload_2, r_inv_2_0, r_inv_2_1, r_inv_2_2, r_inv_2_3, r_inv_2_4, r_K0, r_K1, r_if_ne, r_iconst, r_iret, r_bret_0, r_bret_1, r_aload_0, r_gf_0, r_alen, r_newa_int, r_pf_0, r_goto_w, r_istore_3i, r_istore_3r, r_istore_3j, r_istore_4i, r_istore_4r, r_istore_4j, r_iload_4, r_icmp_gt, r_inv_6_0, r_inv_6_1, r_inv_6_2, r_inv_6_3, r_inv_6_4, r_inv_1_0, r_inv_1_1, r_inv_1_2, r_inv_1_3, r_inv_1_4, r_if_eq, r_iload_3, r_inv_4_0, r_inv_4_1, r_inv_4_2, r_inv_4_3, r_inv_4_4, r_iinc_4i, r_iinc_4r, r_iinc_4j, r_goto, c_isGood, g, ↓reduceIte, not_true_eq_false, not_false_eq_true, Int.reduceEq, Int.reduceLE, Int.reduceLT, Int.reduceAdd, Int.reduceNeg, Int.reduceMul, Int.reduceSub, Int.reduceToNat]
      exact this
    · have gf : (zSw ρ x b).2 = false := by simpa using g
      have e2 : ∀ b', 0 ≤ b' → b' < b + 1 → (zSw ρ x b').2 = false := fun b' q0 q1 => by
        by_cases e : b' = b
        · rw [e]; exact gf
        · exact e1 b' q0 (by omega)
      simp (disch := first | assumption | exact zk_1 | ((repeat (first | exact z1n | refine z1I ?_ | refine z1R ?_)); done) | exact rfl | omega | decide) only [zb_1_4, r_aload_1, r_iload_2, r_inv_2_0, r_inv_2_1, r_inv_2_2, r_inv_2_3, r_inv_2_4, r_K0, r_K1, r_if_ne, r_iconst, r_iret, r_bret_0, r_bret_1, r_aload_0, r_gf_0, r_alen, r_newa_int, r_pf_0, r_goto_w, r_istore_3i, r_istore_3r, r_istore_3j, r_istore_4i, r_istore_4r, r_istore_4j, r_iload_4, r_icmp_gt, r_inv_6_0, r_inv_6_1, r_inv_6_2, r_inv_6_3, r_inv_6_4, r_inv_1_0, r_inv_1_1, r_inv_1_2, r_inv_1_3, r_inv_1_4, r_if_eq, r_iload_3, r_inv_4_0, r_inv_4_1, r_inv_4_2, r_inv_4_3, r_inv_4_4, r_iinc_4i, r_iinc_4r, r_iinc_4j, r_goto, c_isGood, gf, Bool.false_eq_true, ↓reduceIte, not_true_eq_false, not_false_eq_true, Int.reduceEq, Int.reduceLE, Int.reduceLT, Int.reduceAdd, Int.reduceNeg, Int.reduceMul, Int.reduceSub, Int.reduceToNat]
      by_cases q : 500 < b
      · rw [if_pos q]
        have := ih V1 ⟨f1, fun b' y q0 q1 q2 q3 q4 q5 => hT1 b' y q0 (by omega) q2 q3 q4 q5, e2⟩
        simp (disch := first | assumption | exact zk_1 | ((repeat (first | exact z1n | refine z1I ?_ | refine z1R ?_)); done) | exact rfl | omega | decide) only [zb_1_5, r_aload_1, r_iload_2, r_inv_2_0, r_inv_2_1, r_inv_2_2, r_inv_2_3, r_inv_2_4, r_K0, r_K1, r_if_ne, r_iconst, r_iret, r_bret_0, r_bret_1, r_aload_0, r_gf_0, r_alen, r_newa_int, r_pf_0, r_goto_w, r_istore_3i, r_istore_3r, r_istore_3j, r_istore_4i, r_istore_4r, r_istore_4j, r_iload_4, r_icmp_gt, r_inv_6_0, r_inv_6_1, r_inv_6_2, r_inv_6_3, r_inv_6_4, r_inv_1_0, r_inv_1_1, r_inv_1_2, r_inv_1_3, r_inv_1_4, r_if_eq, r_iload_3, r_inv_4_0, r_inv_4_1, r_inv_4_2, r_inv_4_3, r_inv_4_4, r_iinc_4i, r_iinc_4r, r_iinc_4j, r_goto, ↓reduceIte, not_true_eq_false, not_false_eq_true, Int.reduceEq, Int.reduceLE, Int.reduceLT, Int.reduceAdd, Int.reduceNeg, Int.reduceMul, Int.reduceSub, Int.reduceToNat]
        exact this
      · rw [if_neg q]
        refine c_keep (by omega) hW hP1 hC1 ht hr1 hrt hrl hra hr132 hv4 b0 (by omega) hclo hT1 (fun V2 f2 hT2 => ?_)
        have := ih V2 ⟨fun z hz => (f2 z hz).trans (f1 z hz), hT2, e2⟩
        simp (disch := first | assumption | exact zk_1 | ((repeat (first | exact z1n | refine z1I ?_ | refine z1R ?_)); done) | exact rfl | omega | decide) only [zb_1_5, r_aload_1, r_iload_2, r_inv_2_0, r_inv_2_1, r_inv_2_2, r_inv_2_3, r_inv_2_4, r_K0, r_K1, r_if_ne, r_iconst, r_iret, r_bret_0, r_bret_1, r_aload_0, r_gf_0, r_alen, r_newa_int, r_pf_0, r_goto_w, r_istore_3i, r_istore_3r, r_istore_3j, r_istore_4i, r_istore_4r, r_istore_4j, r_iload_4, r_icmp_gt, r_inv_6_0, r_inv_6_1, r_inv_6_2, r_inv_6_3, r_inv_6_4, r_inv_1_0, r_inv_1_1, r_inv_1_2, r_inv_1_3, r_inv_1_4, r_if_eq, r_iload_3, r_inv_4_0, r_inv_4_1, r_inv_4_2, r_inv_4_3, r_inv_4_4, r_iinc_4i, r_iinc_4r, r_iinc_4j, r_goto, ↓reduceIte, not_true_eq_false, not_false_eq_true, Int.reduceEq, Int.reduceLE, Int.reduceLT, Int.reduceAdd, Int.reduceNeg, Int.reduceMul, Int.reduceSub, Int.reduceToNat]
        exact this
  · rintro V1 ⟨f1, hT1, e1⟩
    have hf : zfst (fun b => (zSw ρ x b).2) 0 1001 = 1001 := zfst_eq (by omega) (Int.le_refl _) (fun j j0 j1 => e1 j j0 j1) (fun z => by omega)
    have := hQ V1 f1
    unfold zLb at this
    rw [hf, if_neg (by omega)] at this
    simp (disch := first | assumption | exact zk_1 | ((repeat (first | exact z1n | refine z1I ?_ | refine z1R ?_)); done) | exact rfl | omega | decide) only [zb_1_3, zb_1_6, r_aload_1, r_iload_2, r_inv_2_0, r_inv_2_1, r_inv_2_2, r_inv_2_3, r_inv_2_4, r_K0, r_K1, r_if_ne, r_iconst, r_iret, r_bret_0, r_bret_1, r_aload_0, r_gf_0, r_alen, r_newa_int, r_pf_0, r_goto_w, r_istore_3i, r_istore_3r, r_istore_3j, r_istore_4i, r_istore_4r, r_istore_4j, r_iload_4, r_icmp_gt, r_inv_6_0, r_inv_6_1, r_inv_6_2, r_inv_6_3, r_inv_6_4, r_inv_1_0, r_inv_1_1, r_inv_1_2, r_inv_1_3, r_inv_1_4, r_if_eq, r_iload_3, r_inv_4_0, r_inv_4_1, r_inv_4_2, r_inv_4_3, r_inv_4_4, r_iinc_4i, r_iinc_4r, r_iinc_4j, r_goto, ↓reduceIte, not_true_eq_false, not_false_eq_true, Int.reduceEq, Int.reduceLE, Int.reduceLT, Int.reduceAdd, Int.reduceNeg, Int.reduceMul, Int.reduceSub, Int.reduceToNat]
    exact this
end
