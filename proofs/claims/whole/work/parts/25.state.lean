/-! STATE, 3: writing -/
def zR.sS (ρ : zR) (w x v : Int) : zR := (ρ.1, ρ.2.1, fun w' x' => if w' = w ∧ x' = x then v else ρ.S w' x', ρ.2.2.2)
def zR.sK (ρ : zR) (w x v : Int) : zR := (ρ.1, ρ.2.1, ρ.2.2.1, fun w' x' => if w' = w ∧ x' = x then v else ρ.K w' x')
theorem zR.sS_S {ρ : zR} {w x v w' x' : Int} : (ρ.sS w x v).S w' x' = if w' = w ∧ x' = x then v else ρ.S w' x' := rfl
theorem zR.sK_K {ρ : zR} {w x v w' x' : Int} : (ρ.sK w x v).K w' x' = if w' = w ∧ x' = x then v else ρ.K w' x' := rfl
/-- the leaders are told by callers and kinds alone -/
theorem zHd_congr {ρ σ : zR} {x : Int} {j : Nat} (h0 : ∀ k : Int, 0 ≤ k → k < j → ρ.K 0 k = σ.K 0 k ∧ (ρ.K 4 k ≠ 2 ↔ σ.K 4 k ≠ 2)) : zHd ρ x j = zHd σ x j := by
  induction j with
  | zero => rfl
  | succ j ih =>
    have := h0 j (by omega) (by omega)
    show (if ρ.K 0 j = x ∧ ρ.K 4 j ≠ 2 then (j : Int) else zHd ρ x j) = if σ.K 0 j = x ∧ σ.K 4 j ≠ 2 then (j : Int) else zHd σ x j
    exact ite_congr (propext ⟨fun q => ⟨by rw [← this.1]; exact q.1, this.2.mp q.2⟩, fun q => ⟨by rw [this.1]; exact q.1, this.2.mpr q.2⟩⟩) (fun _ => rfl) (fun _ => ih (fun k a b => h0 k a (by omega)))
theorem zLead_congr {ρ σ : zR} {k : Int} (h0 : ∀ j : Int, 0 ≤ j → j ≤ k → ρ.K 0 j = σ.K 0 j ∧ ρ.K 4 j = σ.K 4 j) (hk : 0 ≤ k) : zLead ρ k = zLead σ k := by
  unfold zLead
  rw [(h0 k hk (Int.le_refl _)).2, (h0 k hk (Int.le_refl _)).1, zHd_congr (fun j a b => ⟨(h0 j a (by omega)).1, by rw [(h0 j a (by omega)).2]⟩)]
theorem zFr.rf {a : Nat} {V : zV} : zFr a V V := fun _ _ => rfl
theorem zFr.tr {a : Nat} {V V' V'' : zV} (h : zFr a V V') (h' : zFr a V' V'') : zFr a V V'' := fun r hr => (h' r hr).trans (h r hr)
theorem zFr.put {a r : Nat} {V : zV} {k : Int} {v : Value} (h : a ≤ r) (h' : r < a + 18) : zFr a V (zput V r k v) := fun q hq => zput_row (by omega)
theorem zFr.p {a r : Nat} {V V1 : zV} {k : Int} {v : Value} (h0 : zFr a V V1) (h : a ≤ r) (h' : r < a + 18) : zFr a V (zput V1 r k v) := h0.tr (zFr.put h h')
theorem zFr.row {a r : Nat} {V : zV} {f : Int → Value} (h : a ≤ r) (h' : r < a + 18) : zFr a V (zrow V r f) := fun q hq => zrow_r (by omega)
section
variable {s : zS} {V V' : zV} {a : Nat} {ρ : zR}
theorem zStP.of (hP : zStP s V a) (h2 : V' a 2 = V a 2) (h3 : V' a 3 = V a 3) (h4 : V' (a + 1) = V (a + 1)) (h5 : V' (a + 11) = V (a + 11)) : zStP s V' a := by
  obtain ⟨p1, p2, p3, p4, p5, p6, p7, p8, p9⟩ := hP
  exact ⟨p1, h2.trans p2, p3, p4, h3.trans p5, p6, p7, fun k hk => by rw [h4]; exact p8 k hk, fun k hk => by rw [h5]; exact p9 k hk⟩
theorem zStP.fr {b : Nat} (hP : zStP s V b) (hF : zFr a V V') (hab : a + 18 ≤ b ∨ b + 18 ≤ a) : zStP s V' b := by
  have e : ∀ r, b ≤ r → r < b + 18 → V' r = V r := fun r h1 h2 => hF r (by omega)
  exact hP.of (by rw [e b (by omega) (by omega)]) (by rw [e b (by omega) (by omega)]) (e _ (by omega) (by omega)) (e _ (by omega) (by omega))
theorem zStC.fr {b : Nat} (hC : zStC ρ V b) (hF : zFr a V V') (hab : a + 18 ≤ b ∨ b + 18 ≤ a) : zStC ρ V' b := by
  have e : ∀ r, b ≤ r → r < b + 18 → V' r = V r := fun r h1 h2 => hF r (by omega)
  obtain ⟨c1, c2, c3, c4, c5⟩ := hC
  exact ⟨by rw [e b (by omega) (by omega)]; exact c1, by rw [e b (by omega) (by omega)]; exact c2, fun k hk x => by rw [e _ (by omega) (by omega)]; exact c3 k hk x, fun k hk x => by rw [e _ (by omega) (by omega)]; exact c4 k hk x, fun x => by rw [e _ (by omega) (by omega)]; exact c5 x⟩
theorem zStP.put (hP : zStP s V a) {r : Nat} {k : Int} {v : Value} (h1 : a + 2 ≤ r) (h2 : r ≠ a + 11) : zStP s (zput V r k v) a := hP.of (zput_r (by omega)) (zput_r (by omega)) (zput_row (by omega)) (zput_row (by omega))
theorem zStP.putf (hP : zStP s V a) {k : Int} {v : Value} (h1 : k ≠ 2) (h2 : k ≠ 3) : zStP s (zput V a k v) a := hP.of (zput_k (by omega)) (zput_k (by omega)) (zput_row (by omega)) (zput_row (by omega))
theorem zStC.putS (hC : zStC ρ V a) {k : Nat} (hk : k < 9) {x v : Int} : zStC (ρ.sS k x v) (zput V (a + 2 + k) x (zi v)) a := by
  obtain ⟨c1, c2, c3, c4, c5⟩ := hC
  refine ⟨(zput_r (by omega)).trans c1, (zput_r (by omega)).trans c2, fun k' hk' x' h1 h2 => ?_, fun k' hk' x' h1 h2 => ?_, fun x' h1 h2 => ?_⟩
  · rw [zR.sS_S]
    by_cases e : (k' : Int) = k ∧ x' = x
    · rw [if_pos e, show k' = k by omega, e.2, zput_at]
    · rw [if_neg e]
      by_cases e1 : k' = k
      · rw [e1, zput_k (fun q => e ⟨by omega, q⟩), ← e1]
        exact c3 k' hk' x' h1 h2
      · rw [zput_r (by omega)]
        exact c3 k' hk' x' h1 h2
  · rw [zput_r (by omega)]
    exact c4 k' hk' x' h1 h2
  · rw [zput_r (by omega)]
    exact (c5 x' h1 h2).trans (congrArg zi (zLead_congr (fun _ _ _ => ⟨rfl, rfl⟩) h1))
end
section
variable {d : Nat} {s : zS} {V : zV} {Q : zO → zH → Prop} {a : Nat} {ρ : zR} {h : zH}
/-- what a method does that changes the State at a -/
def zTo (s : zS) (V : zV) (a : Nat) (ρ' : zR) (Q : zO → zH → Prop) (o : zO) : Prop := ∀ V', zFr a V V' → zStP s V' a → zStC ρ' V' a → Q o (s, V')
def zGd (ρ : zR) (x : Int) : zR := ((ρ.sS 6 x 0).sS 7 x 0).sS 8 x (-1)
set_option maxRecDepth 20000 in
theorem c_goDown (hd : 1 ≤ d) (hP : zStP s V a) (hC : zStC ρ V a) (hn : ρ.n ≤ 12) {x : Int} (h1 : 0 ≤ x) (h2 : x < ρ.n) (hQ : zTo s V a (zGd ρ x) Q (.inl none)) : zcall d 95 [.ref a, zi x] (s, V) Q := by
  have tO := hP.1
  have vA := hP.2.1
  have tA := hP.2.2.1
  have lA := hP.2.2.2.1
  have vn := hC.1
  have vc := hC.2.1
  have vs6 : V (a + 1) 6 = .ref (a + 8) := (hP.2.2.2.2.2.2.2.1 6 (by omega)).1
  have ts6 : s.tg (a + 8) = 20 := (hP.2.2.2.2.2.2.2.1 6 (by omega)).2.1
  have ls6 : s.ln (a + 8) = 12 := (hP.2.2.2.2.2.2.2.1 6 (by omega)).2.2
  have es6 : ∀ x : Int, 0 ≤ x → x < ρ.n → V (a + 8) x = zi (ρ.S 6 x) := hC.2.2.1 6 (by omega)
  have vs7 : V (a + 1) 7 = .ref (a + 9) := (hP.2.2.2.2.2.2.2.1 7 (by omega)).1
  have ts7 : s.tg (a + 9) = 20 := (hP.2.2.2.2.2.2.2.1 7 (by omega)).2.1
  have ls7 : s.ln (a + 9) = 12 := (hP.2.2.2.2.2.2.2.1 7 (by omega)).2.2
  have es7 : ∀ x : Int, 0 ≤ x → x < ρ.n → V (a + 9) x = zi (ρ.S 7 x) := hC.2.2.1 7 (by omega)
  have vs8 : V (a + 1) 8 = .ref (a + 10) := (hP.2.2.2.2.2.2.2.1 8 (by omega)).1
  have ts8 : s.tg (a + 10) = 20 := (hP.2.2.2.2.2.2.2.1 8 (by omega)).2.1
  have ls8 : s.ln (a + 10) = 12 := (hP.2.2.2.2.2.2.2.1 8 (by omega)).2.2
  have es8 : ∀ x : Int, 0 ≤ x → x < ρ.n → V (a + 10) x = zi (ρ.S 8 x) := hC.2.2.1 8 (by omega)
  obtain ⟨d, rfl⟩ : ∃ e, d = e + 1 := ⟨d - 1, by omega⟩
  simp (disch := first | assumption | omega) only [zc_95]
  simp (disch := first | assumption | exact zk_95 | ((repeat (first | exact z1n | refine z1I ?_ | refine z1R ?_)); done) | exact rfl | omega | decide) only [zb_95_0, r_aload_0, r_gf_450, r_iconst, r_aaload, r_iload_1, r_iastore, r_ret, vA, vn, vc, vs6, es6, vs7, es7, vs8, es8, zput_r, ↓reduceIte, not_true_eq_false, not_false_eq_true, Int.reduceEq, Int.reduceLE, Int.reduceLT, Int.reduceAdd, Int.reduceNeg, Int.reduceMul, Int.reduceSub, Int.reduceToNat]
  refine hQ _ ?_ ?_ ?_
  · exact (zFr.put (by omega) (by omega)).tr ((zFr.put (by omega) (by omega)).tr (zFr.put (by omega) (by omega)))
  · exact ((hP.put (by omega) (by omega)).put (by omega) (by omega)).put (by omega) (by omega)
  · exact ((hC.putS (k := 6) (by omega)).putS (k := 7) (by omega)).putS (k := 8) (by omega)
set_option maxRecDepth 20000 in
theorem c_change (hd : 1 ≤ d) (hP : zStP s V a) (hC : zStC ρ V a) (hn : ρ.n ≤ 12) {w x v : Int} (w1 : 0 ≤ w) (w2 : w < 6) (h1 : 0 ≤ x) (h2 : x < ρ.n) (hQ : zTo s V a (ρ.sS w x v) Q (.inl (some (zi (ρ.S w x))))) : zcall d 77 [.ref a, zi w, zi x, zi v] (s, V) Q := by
  obtain ⟨k, rfl⟩ : ∃ k : Nat, w = k := ⟨w.toNat, by omega⟩
  have tO := hP.1
  have vA := hP.2.1
  have tA := hP.2.2.1
  have lA := hP.2.2.2.1
  have vn := hC.1
  have vc := hC.2.1
  have vs0 : V (a + 1) 0 = .ref (a + 2) := (hP.2.2.2.2.2.2.2.1 0 (by omega)).1
  have ts0 : s.tg (a + 2) = 20 := (hP.2.2.2.2.2.2.2.1 0 (by omega)).2.1
  have ls0 : s.ln (a + 2) = 12 := (hP.2.2.2.2.2.2.2.1 0 (by omega)).2.2
  have es0 : ∀ x : Int, 0 ≤ x → x < ρ.n → V (a + 2) x = zi (ρ.S 0 x) := hC.2.2.1 0 (by omega)
  have vk : V (a + 1) (k : Int) = .ref (a + 2 + k) := (hP.2.2.2.2.2.2.2.1 k (by omega)).1
  have tk := (hP.2.2.2.2.2.2.2.1 k (by omega)).2.1
  have lk := (hP.2.2.2.2.2.2.2.1 k (by omega)).2.2
  have ek := hC.2.2.1 k (by omega)
  obtain ⟨d, rfl⟩ : ∃ e, d = e + 1 := ⟨d - 1, by omega⟩
  simp (disch := first | assumption | omega) only [zc_77]
  simp (disch := first | assumption | exact zk_77 | ((repeat (first | exact z1n | refine z1I ?_ | refine z1R ?_)); done) | exact rfl | omega | decide) only [zb_77_0, r_aload_0, r_gf_450, r_iload_1, r_aaload, r_iload_2, r_ial, r_ial30, r_ial32, r_istore_4i, r_istore_4r, r_istore_4j, r_iload_3, r_iastore, r_iload_4, r_iret, r_bret_0, r_bret_1, vA, vn, vc, vs0, es0, vk, ek, ↓reduceIte, not_true_eq_false, not_false_eq_true, Int.reduceEq, Int.reduceLE, Int.reduceLT, Int.reduceAdd, Int.reduceNeg, Int.reduceMul, Int.reduceSub, Int.reduceToNat]
  exact hQ _ (zFr.put (by omega) (by omega)) (hP.put (by omega) (by omega)) (hC.putS (by omega))
set_option maxRecDepth 20000 in
theorem c_beginRepair (hd : 1 ≤ d) (hP : zStP s V a) (hC : zStC ρ V a) (hn : ρ.n ≤ 12) {x : Int} (h1 : 0 ≤ x) (h2 : x < ρ.n) (hQ : zTo s V a (ρ.sS 8 x (ρ.S 3 x)) Q (.inl (some (zi (ρ.S 3 x))))) : zcall d 97 [.ref a, zi x] (s, V) Q := by
  have tO := hP.1
  have vA := hP.2.1
  have tA := hP.2.2.1
  have lA := hP.2.2.2.1
  have vn := hC.1
  have vc := hC.2.1
  have vs3 : V (a + 1) 3 = .ref (a + 5) := (hP.2.2.2.2.2.2.2.1 3 (by omega)).1
  have ts3 : s.tg (a + 5) = 20 := (hP.2.2.2.2.2.2.2.1 3 (by omega)).2.1
  have ls3 : s.ln (a + 5) = 12 := (hP.2.2.2.2.2.2.2.1 3 (by omega)).2.2
  have es3 : ∀ x : Int, 0 ≤ x → x < ρ.n → V (a + 5) x = zi (ρ.S 3 x) := hC.2.2.1 3 (by omega)
  have vs8 : V (a + 1) 8 = .ref (a + 10) := (hP.2.2.2.2.2.2.2.1 8 (by omega)).1
  have ts8 : s.tg (a + 10) = 20 := (hP.2.2.2.2.2.2.2.1 8 (by omega)).2.1
  have ls8 : s.ln (a + 10) = 12 := (hP.2.2.2.2.2.2.2.1 8 (by omega)).2.2
  have es8 : ∀ x : Int, 0 ≤ x → x < ρ.n → V (a + 10) x = zi (ρ.S 8 x) := hC.2.2.1 8 (by omega)
  obtain ⟨d, rfl⟩ : ∃ e, d = e + 1 := ⟨d - 1, by omega⟩
  simp (disch := first | assumption | omega) only [zc_97]
  simp (disch := first | assumption | exact zk_97 | ((repeat (first | exact z1n | refine z1I ?_ | refine z1R ?_)); done) | exact rfl | omega | decide) only [zb_97_0, r_aload_0, r_gf_450, r_iconst, r_aaload, r_iload_1, r_ial, r_ial30, r_ial32, r_iastore, r_iret, r_bret_0, r_bret_1, vA, vn, vc, vs3, es3, vs8, es8, zput_r, zput_at, ↓reduceIte, not_true_eq_false, not_false_eq_true, Int.reduceEq, Int.reduceLE, Int.reduceLT, Int.reduceAdd, Int.reduceNeg, Int.reduceMul, Int.reduceSub, Int.reduceToNat]
  exact hQ _ (zFr.put (by omega) (by omega)) (hP.put (by omega) (by omega)) (hC.putS (k := 8) (by omega))
def zMd (ρ : zR) (x : Int) (b : Bool) : zR := if ρ.S 8 x = -1 then ρ else
  if (ρ.S 8 x = 0 ∨ ρ.S 8 x = 1) ∧ b = false then (((ρ.sS 8 x 0).sS 6 x 1).sS 7 x 0).sS 8 x (-1) else ρ.sS 8 x (if 0 < ρ.S 8 x then ρ.S 8 x - 1 else ρ.S 8 x)
set_option maxRecDepth 20000 in
theorem c_mend (hd : 1 ≤ d) (hP : zStP s V a) (hC : zStC ρ V a) (hn : ρ.n ≤ 12) {x : Int} (h1 : 0 ≤ x) (h2 : x < ρ.n) {b : Bool} (w : -1 ≤ ρ.S 8 x ∧ ρ.S 8 x ≤ 20) (hQ : zTo s V a (zMd ρ x b) Q (.inl none)) : zcall d 100 [.ref a, zi x, zi (if b = true then 1 else 0)] (s, V) Q := by
  have tO := hP.1
  have vA := hP.2.1
  have tA := hP.2.2.1
  have lA := hP.2.2.2.1
  have vn := hC.1
  have vc := hC.2.1
  have vs6 : V (a + 1) 6 = .ref (a + 8) := (hP.2.2.2.2.2.2.2.1 6 (by omega)).1
  have ts6 : s.tg (a + 8) = 20 := (hP.2.2.2.2.2.2.2.1 6 (by omega)).2.1
  have ls6 : s.ln (a + 8) = 12 := (hP.2.2.2.2.2.2.2.1 6 (by omega)).2.2
  have es6 : ∀ x : Int, 0 ≤ x → x < ρ.n → V (a + 8) x = zi (ρ.S 6 x) := hC.2.2.1 6 (by omega)
  have vs7 : V (a + 1) 7 = .ref (a + 9) := (hP.2.2.2.2.2.2.2.1 7 (by omega)).1
  have ts7 : s.tg (a + 9) = 20 := (hP.2.2.2.2.2.2.2.1 7 (by omega)).2.1
  have ls7 : s.ln (a + 9) = 12 := (hP.2.2.2.2.2.2.2.1 7 (by omega)).2.2
  have es7 : ∀ x : Int, 0 ≤ x → x < ρ.n → V (a + 9) x = zi (ρ.S 7 x) := hC.2.2.1 7 (by omega)
  have vs8 : V (a + 1) 8 = .ref (a + 10) := (hP.2.2.2.2.2.2.2.1 8 (by omega)).1
  have ts8 : s.tg (a + 10) = 20 := (hP.2.2.2.2.2.2.2.1 8 (by omega)).2.1
  have ls8 : s.ln (a + 10) = 12 := (hP.2.2.2.2.2.2.2.1 8 (by omega)).2.2
  have es8 : ∀ x : Int, 0 ≤ x → x < ρ.n → V (a + 10) x = zi (ρ.S 8 x) := hC.2.2.1 8 (by omega)
  obtain ⟨d, rfl⟩ : ∃ e, d = e + 1 := ⟨d - 1, by omega⟩
  simp (disch := first | assumption | omega) only [zc_100]
  have g : ∀ r v, a + 2 ≤ r → r ≠ a + 11 → r < a + 18 → zFr a V (zput V r x v) ∧ zStP s (zput V r x v) a := fun r v q1 q2 q3 => ⟨zFr.put (by omega) (by omega), hP.put q1 q2⟩
  unfold zTo zMd at hQ
  have full : ∀ V1, zFr a V V1 → zStP s V1 a → zStC (ρ.sS 8 x 0) V1 a → zFr a V (zput (zput (zput V1 (a + 8) x (zi 1)) (a + 9) x (zi 0)) (a + 10) x (zi (-1))) ∧ zStP s (zput (zput (zput V1 (a + 8) x (zi 1)) (a + 9) x (zi 0)) (a + 10) x (zi (-1))) a ∧ zStC ((((ρ.sS 8 x 0).sS 6 x 1).sS 7 x 0).sS 8 x (-1)) (zput (zput (zput V1 (a + 8) x (zi 1)) (a + 9) x (zi 0)) (a + 10) x (zi (-1))) a := fun V1 q1 q2 q3 =>
    ⟨q1.tr ((zFr.put (by omega) (by omega)).tr ((zFr.put (by omega) (by omega)).tr (zFr.put (by omega) (by omega)))), ((q2.put (by omega) (by omega)).put (by omega) (by omega)).put (by omega) (by omega), ((q3.putS (k := 6) (by omega)).putS (k := 7) (by omega)).putS (k := 8) (by omega)⟩
  by_cases e : ρ.S 8 x = -1
  · rw [if_pos e] at hQ
    simp (disch := first | assumption | exact zk_100 | ((repeat (first | exact z1n | refine z1I ?_ | refine z1R ?_)); done) | exact rfl | omega | decide) only [zb_100_0, zb_100_1, zb_100_2, zb_100_3, r_aload_0, r_gf_450, r_iconst, r_aaload, r_iload_1, r_ial, r_ial30, r_ial32, r_istore_3i, r_istore_3r, r_istore_3j, r_iload_3, r_icmp_ne, r_ret, r_if_le, r_iinc_3i, r_iinc_3r, r_iinc_3j, r_goto_w, r_iastore, r_if_ne, r_iload_2, vA, vn, vc, vs6, es6, vs7, es7, vs8, es8, e, ↓reduceIte, not_true_eq_false, not_false_eq_true, Int.reduceEq, Int.reduceLE, Int.reduceLT, Int.reduceAdd, Int.reduceNeg, Int.reduceMul, Int.reduceSub, Int.reduceToNat]
    exact hQ _ zFr.rf hP hC
  rw [if_neg e] at hQ
  by_cases e1 : ρ.S 8 x = 0
  · cases b with
    | true =>
      rw [if_neg (by simp), e1] at hQ
      simp (disch := first | assumption | exact zk_100 | ((repeat (first | exact z1n | refine z1I ?_ | refine z1R ?_)); done) | exact rfl | omega | decide) only [zb_100_0, zb_100_1, zb_100_2, zb_100_3, r_aload_0, r_gf_450, r_iconst, r_aaload, r_iload_1, r_ial, r_ial30, r_ial32, r_istore_3i, r_istore_3r, r_istore_3j, r_iload_3, r_icmp_ne, r_ret, r_if_le, r_iinc_3i, r_iinc_3r, r_iinc_3j, r_goto_w, r_iastore, r_if_ne, r_iload_2, vA, vn, vc, vs6, es6, vs7, es7, vs8, es8, e1, zput_r, ↓reduceIte, not_true_eq_false, not_false_eq_true, Int.reduceEq, Int.reduceLE, Int.reduceLT, Int.reduceAdd, Int.reduceNeg, Int.reduceMul, Int.reduceSub, Int.reduceToNat]
      exact hQ _ (g _ _ (by omega) (by omega) (by omega)).1 (g _ _ (by omega) (by omega) (by omega)).2 (hC.putS (k := 8) (by omega))
    | false =>
      rw [if_pos ⟨Or.inl e1, rfl⟩] at hQ
      simp (disch := first | assumption | exact zk_100 | ((repeat (first | exact z1n | refine z1I ?_ | refine z1R ?_)); done) | exact rfl | omega | decide) only [zb_100_0, zb_100_1, zb_100_2, zb_100_3, r_aload_0, r_gf_450, r_iconst, r_aaload, r_iload_1, r_ial, r_ial30, r_ial32, r_istore_3i, r_istore_3r, r_istore_3j, r_iload_3, r_icmp_ne, r_ret, r_if_le, r_iinc_3i, r_iinc_3r, r_iinc_3j, r_goto_w, r_iastore, r_if_ne, r_iload_2, vA, vn, vc, vs6, es6, vs7, es7, vs8, es8, e1, zput_r, Bool.false_eq_true, ↓reduceIte, not_true_eq_false, not_false_eq_true, Int.reduceEq, Int.reduceLE, Int.reduceLT, Int.reduceAdd, Int.reduceNeg, Int.reduceMul, Int.reduceSub, Int.reduceToNat]
      obtain ⟨q1, q2, q3⟩ := full _ (g (a + 10) (zi 0) (by omega) (by omega) (by omega)).1 (g _ _ (by omega) (by omega) (by omega)).2 (hC.putS (k := 8) (by omega))
      exact hQ _ q1 q2 q3
  by_cases e2 : ρ.S 8 x = 1
  · cases b with
    | true =>
      rw [if_neg (by simp), e2] at hQ
      simp (disch := first | assumption | exact zk_100 | ((repeat (first | exact z1n | refine z1I ?_ | refine z1R ?_)); done) | exact rfl | omega | decide) only [zb_100_0, zb_100_1, zb_100_2, zb_100_3, r_aload_0, r_gf_450, r_iconst, r_aaload, r_iload_1, r_ial, r_ial30, r_ial32, r_istore_3i, r_istore_3r, r_istore_3j, r_iload_3, r_icmp_ne, r_ret, r_if_le, r_iinc_3i, r_iinc_3r, r_iinc_3j, r_goto_w, r_iastore, r_if_ne, r_iload_2, vA, vn, vc, vs6, es6, vs7, es7, vs8, es8, e2, zput_r, ↓reduceIte, not_true_eq_false, not_false_eq_true, Int.reduceEq, Int.reduceLE, Int.reduceLT, Int.reduceAdd, Int.reduceNeg, Int.reduceMul, Int.reduceSub, Int.reduceToNat]
      exact hQ _ (g _ _ (by omega) (by omega) (by omega)).1 (g _ _ (by omega) (by omega) (by omega)).2 (hC.putS (k := 8) (by omega))
    | false =>
      rw [if_pos ⟨Or.inr e2, rfl⟩] at hQ
      simp (disch := first | assumption | exact zk_100 | ((repeat (first | exact z1n | refine z1I ?_ | refine z1R ?_)); done) | exact rfl | omega | decide) only [zb_100_0, zb_100_1, zb_100_2, zb_100_3, r_aload_0, r_gf_450, r_iconst, r_aaload, r_iload_1, r_ial, r_ial30, r_ial32, r_istore_3i, r_istore_3r, r_istore_3j, r_iload_3, r_icmp_ne, r_ret, r_if_le, r_iinc_3i, r_iinc_3r, r_iinc_3j, r_goto_w, r_iastore, r_if_ne, r_iload_2, vA, vn, vc, vs6, es6, vs7, es7, vs8, es8, e2, zput_r, Bool.false_eq_true, ↓reduceIte, not_true_eq_false, not_false_eq_true, Int.reduceEq, Int.reduceLE, Int.reduceLT, Int.reduceAdd, Int.reduceNeg, Int.reduceMul, Int.reduceSub, Int.reduceToNat]
      obtain ⟨q1, q2, q3⟩ := full _ (g (a + 10) (zi 0) (by omega) (by omega) (by omega)).1 (g _ _ (by omega) (by omega) (by omega)).2 (hC.putS (k := 8) (by omega))
      exact hQ _ q1 q2 q3
  rw [if_neg (by omega), if_pos (by omega)] at hQ
  simp (disch := first | assumption | exact zk_100 | ((repeat (first | exact z1n | refine z1I ?_ | refine z1R ?_)); done) | exact rfl | omega | decide) only [zb_100_0, zb_100_1, zb_100_2, zb_100_3, r_aload_0, r_gf_450, r_iconst, r_aaload, r_iload_1, r_ial, r_ial30, r_ial32, r_istore_3i, r_istore_3r, r_istore_3j, r_iload_3, r_icmp_ne, r_ret, r_if_le, r_iinc_3i, r_iinc_3r, r_iinc_3j, r_goto_w, r_iastore, r_if_ne, r_iload_2, vA, vn, vc, vs6, es6, vs7, es7, vs8, es8, zput_r, ↓reduceIte, not_true_eq_false, not_false_eq_true, Int.reduceEq, Int.reduceLE, Int.reduceLT, Int.reduceAdd, Int.reduceNeg, Int.reduceMul, Int.reduceSub, Int.reduceToNat]
  rw [if_pos (by omega), if_neg (by omega), if_pos (by omega)]
  exact hQ _ (g _ _ (by omega) (by omega) (by omega)).1 (g _ _ (by omega) (by omega) (by omega)).2 (hC.putS (k := 8) (by omega))
def zSt (ρ : zR) (x : Int) (b : Bool) : zR := if b = true then ρ.sS 7 x (ρ.S 7 x + 1) else if 0 < ρ.S 7 x then ρ.sS 7 x (ρ.S 7 x - 1) else ρ
set_option maxRecDepth 20000 in
theorem c_strain (hd : 1 ≤ d) (hP : zStP s V a) (hC : zStC ρ V a) (hn : ρ.n ≤ 12) {x : Int} (h1 : 0 ≤ x) (h2 : x < ρ.n) {b : Bool} (w : 0 ≤ ρ.S 7 x ∧ ρ.S 7 x ≤ 9) (hQ : zTo s V a (zSt ρ x b) Q (.inl none)) : zcall d 101 [.ref a, zi x, zi (if b = true then 1 else 0)] (s, V) Q := by
  have tO := hP.1
  have vA := hP.2.1
  have tA := hP.2.2.1
  have lA := hP.2.2.2.1
  have vn := hC.1
  have vc := hC.2.1
  have vs7 : V (a + 1) 7 = .ref (a + 9) := (hP.2.2.2.2.2.2.2.1 7 (by omega)).1
  have ts7 : s.tg (a + 9) = 20 := (hP.2.2.2.2.2.2.2.1 7 (by omega)).2.1
  have ls7 : s.ln (a + 9) = 12 := (hP.2.2.2.2.2.2.2.1 7 (by omega)).2.2
  have es7 : ∀ x : Int, 0 ≤ x → x < ρ.n → V (a + 9) x = zi (ρ.S 7 x) := hC.2.2.1 7 (by omega)
  obtain ⟨d, rfl⟩ : ∃ e, d = e + 1 := ⟨d - 1, by omega⟩
  simp (disch := first | assumption | omega) only [zc_101]
  unfold zTo zSt at hQ
  cases b with
  | true =>
    rw [if_pos rfl] at hQ
    simp (disch := first | assumption | exact zk_101 | ((repeat (first | exact z1n | refine z1I ?_ | refine z1R ?_)); done) | exact rfl | omega | decide) only [zb_101_0, zb_101_1, zb_101_2, r_iload_2, r_if_eq, r_aload_0, r_gf_450, r_iconst, r_aaload, r_iload_1, r_dup2, r_ial, r_ial30, r_ial32, r_iadd, r_iastore, r_goto, r_if_le, r_isub, r_goto_w, r_ret, vA, vn, vc, vs7, es7, ↓reduceIte, not_true_eq_false, not_false_eq_true, Int.reduceEq, Int.reduceLE, Int.reduceLT, Int.reduceAdd, Int.reduceNeg, Int.reduceMul, Int.reduceSub, Int.reduceToNat]
    exact hQ _ (zFr.put (by omega) (by omega)) (hP.put (by omega) (by omega)) (hC.putS (k := 7) (by omega))
  | false =>
    rw [if_neg (by decide)] at hQ
    simp (disch := first | assumption | exact zk_101 | ((repeat (first | exact z1n | refine z1I ?_ | refine z1R ?_)); done) | exact rfl | omega | decide) only [zb_101_0, zb_101_1, zb_101_2, r_iload_2, r_if_eq, r_aload_0, r_gf_450, r_iconst, r_aaload, r_iload_1, r_dup2, r_ial, r_ial30, r_ial32, r_iadd, r_iastore, r_goto, r_if_le, r_isub, r_goto_w, r_ret, vA, vn, vc, vs7, es7, Bool.false_eq_true, ↓reduceIte, not_true_eq_false, not_false_eq_true, Int.reduceEq, Int.reduceLE, Int.reduceLT, Int.reduceAdd, Int.reduceNeg, Int.reduceMul, Int.reduceSub, Int.reduceToNat]
    by_cases e : 0 < ρ.S 7 x
    · rw [if_pos e] at hQ
      rw [if_neg (by omega)]
      exact hQ _ (zFr.put (by omega) (by omega)) (hP.put (by omega) (by omega)) (hC.putS (k := 7) (by omega))
    · rw [if_neg e] at hQ
      rw [if_pos (by omega)]
      exact hQ _ zFr.rf hP hC
end
