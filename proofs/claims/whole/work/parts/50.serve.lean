/-! SERVING, 1: what a request does, without any machine; small methods of Serving -/
/-- notes: failures (how many, rows), tries (how many, rows), missing, served, first failing, first at fault -/
def zN : Type := (Int × (Int → Int → Int)) × (Int × (Int → Int → Int)) × Int × Int × Int × Int
def zN.fc (ν : zN) : Int := ν.1.1
def zN.F (ν : zN) (w k : Int) : Int := ν.1.2 w k
def zN.tc (ν : zN) : Int := ν.2.1.1
def zN.T (ν : zN) (w k : Int) : Int := ν.2.1.2 w k
def zN.mi (ν : zN) : Int := ν.2.2.1
def zN.sv (ν : zN) : Int := ν.2.2.2.1
def zN.ff (ν : zN) : Int := ν.2.2.2.2.1
def zN.fa (ν : zN) : Int := ν.2.2.2.2.2
def zRow4 (a b c d w : Int) : Int := if w = 0 then a else if w = 1 then b else if w = 2 then c else d
def zNfl (ν : zN) (x kind mo bu : Int) : zN := (if ν.fc < 60 then (ν.fc + 1, fun w k => if k = ν.fc then zRow4 x kind mo bu w else ν.F w k) else ν.1, ν.2.1, ν.mi, ν.sv, (if ν.ff = -1 then x else ν.ff), (if ν.fa = -1 ∧ kind < 3 then x else ν.fa))
def zNt (ν : zN) (call mo bu : Int) : zN := (ν.1, (if ν.tc < 200 then (ν.tc + 1, fun w k => if k = ν.tc then zRow4 call mo bu 0 w else ν.T w k) else ν.2.1), ν.mi, ν.sv + 1, ν.ff, ν.fa)
def zNo (ν : zN) : Int := if ν.tc < 200 then ν.tc else -1
def zNg (ν : zN) (n : Int) : zN := (ν.1, (if n = -1 then ν.2.1 else (ν.tc, fun w k => if w = 3 ∧ k = n then 1 else ν.T w k)), ν.mi, ν.sv, ν.ff, ν.fa)
def zNm (ν : zN) : zN := (ν.1, ν.2.1, ν.mi + 1, ν.sv, ν.ff, ν.fa)
abbrev zRs : Type := (Int × Bool) × zN
abbrev zAsk : Type := Int → Int → Int → zN → zRs
def zMnI (a b : Int) : Int := if a < b then a else b
/-- tries of a call -/
def zMk (ρ : zR) (ask : zAsk) (cl mo bu : Int) : Nat → Int → zN → zRs
  | 0, u, ν => ((u, false), ν)
  | t + 1, u, ν => if bu ≤ u then ((u, false), zNfl ν (ρ.K 0 cl) 3 (mo + u) bu) else
      if (ask cl (mo + u) (zMnI (ρ.K 2 cl) (bu - u)) ν).1.2 = true then ((u + (ask cl (mo + u) (zMnI (ρ.K 2 cl) (bu - u)) ν).1.1, true), (ask cl (mo + u) (zMnI (ρ.K 2 cl) (bu - u)) ν).2)
      else zMk ρ ask cl mo bu t (u + (ask cl (mo + u) (zMnI (ρ.K 2 cl) (bu - u)) ν).1.1) (ask cl (mo + u) (zMnI (ρ.K 2 cl) (bu - u)) ν).2
/-- the calls of a group, the last m of all calls being left -/
def zGr (ρ : zR) (ask : zAsk) (hd mo bu : Int) : Nat → Int → zN → zRs
  | 0, u, ν => ((u, false), ν)
  | m + 1, u, ν => if ρ.c - (m + 1 : Nat) = hd ∨ zLead ρ (ρ.c - (m + 1 : Nat)) = hd then
      (if (zMk ρ ask (ρ.c - (m + 1 : Nat)) mo bu (ρ.K 3 (ρ.c - (m + 1 : Nat))).toNat u ν).1.2 = true then zMk ρ ask (ρ.c - (m + 1 : Nat)) mo bu (ρ.K 3 (ρ.c - (m + 1 : Nat))).toNat u ν
       else zGr ρ ask hd mo bu m (zMk ρ ask (ρ.c - (m + 1 : Nat)) mo bu (ρ.K 3 (ρ.c - (m + 1 : Nat))).toNat u ν).1.1 (zMk ρ ask (ρ.c - (m + 1 : Nat)) mo bu (ρ.K 3 (ρ.c - (m + 1 : Nat))).toNat u ν).2)
      else zGr ρ ask hd mo bu m u ν
/-- the groups of x -/
def zHs (ρ : zR) (ask : zAsk) (x mo bu : Int) : Nat → Int → zN → zRs
  | 0, u, ν => ((u, true), ν)
  | m + 1, u, ν => if ρ.K 0 (ρ.c - (m + 1 : Nat)) = x ∧ ρ.K 4 (ρ.c - (m + 1 : Nat)) ≠ 2 then
      (if (zGr ρ ask (ρ.c - (m + 1 : Nat)) mo bu (m + 1) u ν).1.2 = true then zHs ρ ask x mo bu m (zGr ρ ask (ρ.c - (m + 1 : Nat)) mo bu (m + 1) u ν).1.1 (zGr ρ ask (ρ.c - (m + 1 : Nat)) mo bu (m + 1) u ν).2
       else if ρ.K 4 (ρ.c - (m + 1 : Nat)) = 0 then (((zGr ρ ask (ρ.c - (m + 1 : Nat)) mo bu (m + 1) u ν).1.1, false), zNfl (zGr ρ ask (ρ.c - (m + 1 : Nat)) mo bu (m + 1) u ν).2 x 4 (mo + (zGr ρ ask (ρ.c - (m + 1 : Nat)) mo bu (m + 1) u ν).1.1) bu)
       else zHs ρ ask x mo bu m (zGr ρ ask (ρ.c - (m + 1 : Nat)) mo bu (m + 1) u ν).1.1 (zNm (zGr ρ ask (ρ.c - (m + 1 : Nat)) mo bu (m + 1) u ν).2))
      else zHs ρ ask x mo bu m u ν
def zSvB (ρ : zR) (ask : zAsk) (x mo bu : Int) (ν : zN) : zRs := if ρ.S 6 x ≠ 1 then ((0, false), zNfl ν x 1 mo bu) else if bu < zOwn ρ x then ((bu, false), zNfl ν x 2 (mo + bu) bu) else zHs ρ ask x mo bu ρ.c.toNat (zOwn ρ x) ν
/-- asking a callee, by what serving it does -/
def zAk (ρ : zR) (sv : Int → Int → Int → zN → zRs) : zAsk := fun cl mo bu ν => ((sv (ρ.K 1 cl) mo bu (zNt ν cl mo bu)).1, if (sv (ρ.K 1 cl) mo bu (zNt ν cl mo bu)).1.2 = true then zNg (sv (ρ.K 1 cl) mo bu (zNt ν cl mo bu)).2 (zNo ν) else (sv (ρ.K 1 cl) mo bu (zNt ν cl mo bu)).2)
def zSv (ρ : zR) : Nat → Int → Int → Int → zN → zRs
  | 0 => fun _ _ _ ν => ((0, false), ν)
  | f + 1 => zSvB ρ (zAk ρ (zSv ρ f))
/-- times stay within budgets -/
def zTok (ρ : zR) (ask : zAsk) : Prop := ∀ cl mo bu ν, 0 ≤ cl → cl < ρ.c → 0 ≤ bu → 0 ≤ (ask cl mo bu ν).1.1 ∧ (ask cl mo bu ν).1.1 ≤ bu
theorem zMk_t {ρ : zR} {ask : zAsk} (ha : zTok ρ ask) {cl mo bu : Int} (c0 : 0 ≤ cl) (c1 : cl < ρ.c) (hl : 1 ≤ ρ.K 2 cl) : ∀ (t : Nat) (u : Int) (ν : zN), 0 ≤ u → u ≤ bu → u ≤ (zMk ρ ask cl mo bu t u ν).1.1 ∧ (zMk ρ ask cl mo bu t u ν).1.1 ≤ bu := by
  intro t
  induction t with
  | zero => intro u ν u0 u1; exact ⟨Int.le_refl _, u1⟩
  | succ t ih =>
    intro u ν u0 u1
    unfold zMk
    split
    · exact ⟨Int.le_refl _, u1⟩
    · rename_i q
      have hm : 0 ≤ zMnI (ρ.K 2 cl) (bu - u) ∧ zMnI (ρ.K 2 cl) (bu - u) ≤ bu - u := by unfold zMnI; split <;> omega
      have h := ha cl (mo + u) (zMnI (ρ.K 2 cl) (bu - u)) ν c0 c1 hm.1
      split
      · dsimp only
        omega
      · have := ih (u + (ask cl (mo + u) (zMnI (ρ.K 2 cl) (bu - u)) ν).1.1) (ask cl (mo + u) (zMnI (ρ.K 2 cl) (bu - u)) ν).2 (by omega) (by omega)
        omega
theorem zGr_t {ρ : zR} (hW : zWF ρ) {ask : zAsk} (ha : zTok ρ ask) {hd mo bu : Int} : ∀ (m : Nat) (u : Int) (ν : zN), (m : Int) ≤ ρ.c → 0 ≤ u → u ≤ bu → u ≤ (zGr ρ ask hd mo bu m u ν).1.1 ∧ (zGr ρ ask hd mo bu m u ν).1.1 ≤ bu := by
  intro m
  induction m with
  | zero => intro u ν _ u0 u1; exact ⟨Int.le_refl _, u1⟩
  | succ m ih =>
    intro u ν hm u0 u1
    have w := hW.2.2.1 (ρ.c - (m + 1 : Nat)) (by omega) (by omega)
    unfold zGr
    split
    · have h := zMk_t ha (by omega) (by omega) w.2.2.1.1 (cl := ρ.c - (m + 1 : Nat)) (mo := mo) (bu := bu) (ρ.K 3 (ρ.c - (m + 1 : Nat))).toNat u ν u0 u1
      split
      · exact h
      · have := ih _ (zMk ρ ask (ρ.c - (m + 1 : Nat)) mo bu (ρ.K 3 (ρ.c - (m + 1 : Nat))).toNat u ν).2 (by omega) (Int.le_trans u0 h.1) h.2
        omega
    · exact ih u ν (by omega) u0 u1
theorem zHs_t {ρ : zR} (hW : zWF ρ) {ask : zAsk} (ha : zTok ρ ask) {x mo bu : Int} : ∀ (m : Nat) (u : Int) (ν : zN), (m : Int) ≤ ρ.c → 0 ≤ u → u ≤ bu → u ≤ (zHs ρ ask x mo bu m u ν).1.1 ∧ (zHs ρ ask x mo bu m u ν).1.1 ≤ bu := by
  intro m
  induction m with
  | zero => intro u ν _ u0 u1; exact ⟨Int.le_refl _, u1⟩
  | succ m ih =>
    intro u ν hm u0 u1
    unfold zHs
    split
    · have h := zGr_t hW ha (hd := ρ.c - (m + 1 : Nat)) (mo := mo) (bu := bu) (m + 1) u ν hm u0 u1
      split
      · have := ih _ (zGr ρ ask (ρ.c - (m + 1 : Nat)) mo bu (m + 1) u ν).2 (by omega) (Int.le_trans u0 h.1) h.2
        omega
      · split
        · exact h
        · have := ih _ (zNm (zGr ρ ask (ρ.c - (m + 1 : Nat)) mo bu (m + 1) u ν).2) (by omega) (Int.le_trans u0 h.1) h.2
          omega
    · exact ih u ν (by omega) u0 u1
theorem zSvB_t {ρ : zR} (hW : zWF ρ) {ask : zAsk} (ha : zTok ρ ask) {x mo bu : Int} (x0 : 0 ≤ x) (x1 : x < ρ.n) (b0 : 0 ≤ bu) (ν : zN) : 0 ≤ (zSvB ρ ask x mo bu ν).1.1 ∧ (zSvB ρ ask x mo bu ν).1.1 ≤ bu := by
  have ho := zOwn_rng hW x0 x1
  have hc := hW.1
  unfold zSvB
  split
  · exact ⟨Int.le_refl _, b0⟩
  · split
    · exact ⟨b0, Int.le_refl _⟩
    · have := zHs_t hW ha (x := x) (mo := mo) (bu := bu) ρ.c.toNat (zOwn ρ x) ν (by omega) (by omega) (by omega)
      omega
/-- encoded outcomes -/
def zOc (r : Int × Bool) : Int := 2 * r.1 + zb1 r.2
theorem zOc_and {r : Int × Bool} (h0 : 0 ≤ r.1) (h1 : r.1 ≤ 1000000) : zand (zOc r) 1 = zb1 r.2 := by
  obtain ⟨u, g⟩ := r
  dsimp only at h0 h1
  obtain ⟨n, rfl⟩ : ∃ n : Nat, u = n := ⟨u.toNat, by omega⟩
  have e : zOc ((n : Int), g) = ((2 * n + (if g = true then 1 else 0) : Nat) : Int) := by
    unfold zOc zb1
    cases g <;> simp
  rw [e, show (1 : Int) = ((1 : Nat) : Int) from rfl, zand_n (by split <;> omega) (by omega), Nat.and_one_is_mod]
  cases g
  · simp [zb1]
  · simp [zb1]
theorem zOc_shr {r : Int × Bool} (h0 : 0 ≤ r.1) (h1 : r.1 ≤ 1000000) : zshr (zOc r) 1 = r.1 := by
  obtain ⟨u, g⟩ := r
  dsimp only at h0 h1
  obtain ⟨n, rfl⟩ : ∃ n : Nat, u = n := ⟨u.toNat, by omega⟩
  have e : zOc ((n : Int), g) = ((2 * n + (if g = true then 1 else 0) : Nat) : Int) := by
    unfold zOc zb1
    cases g <;> simp
  rw [e, zshr_n (by split <;> omega) (by omega) (by omega), show (1 : Int).toNat = 1 from rfl, Nat.shiftRight_eq_div_pow]
  dsimp only
  congr 1
  split <;> omega
section
variable {d : Nat} {s : zS} {V : zV} {Q : zO → zH → Prop} {a : Nat} {ρ : zR} {h : zH}
set_option maxRecDepth 20000 in
theorem c_bad (hd : 1 ≤ d) {u : Int} : zcall d 59 [zi u] h Q = Q (.inl (some (zi (zOc (u, false))))) h := by
  obtain ⟨d, rfl⟩ : ∃ e, d = e + 1 := ⟨d - 1, by omega⟩
  simp (disch := first | assumption | omega) only [zc_59]
  simp (disch := first | assumption | exact zk_59 | ((repeat (first | exact z1n | refine z1I ?_ | refine z1R ?_)); done) | exact rfl | omega | decide) only [zb_59_0, r_iconst, r_iload_0, r_imul, r_iret, r_bret_0, r_bret_1, ↓reduceIte, not_true_eq_false, not_false_eq_true, Int.reduceEq, Int.reduceLE, Int.reduceLT, Int.reduceAdd, Int.reduceNeg, Int.reduceMul, Int.reduceSub, Int.reduceToNat]
  rw [show zOc (u, false) = 2 * u by unfold zOc zb1; simp]
set_option maxRecDepth 20000 in
theorem c_good (hd : 1 ≤ d) {u : Int} : zcall d 58 [zi u] h Q = Q (.inl (some (zi (zOc (u, true))))) h := by
  obtain ⟨d, rfl⟩ : ∃ e, d = e + 1 := ⟨d - 1, by omega⟩
  simp (disch := first | assumption | omega) only [zc_58]
  simp (disch := first | assumption | exact zk_58 | ((repeat (first | exact z1n | refine z1I ?_ | refine z1R ?_)); done) | exact rfl | omega | decide) only [zb_58_0, r_iconst, r_iload_0, r_imul, r_iadd, r_iret, r_bret_0, r_bret_1, ↓reduceIte, not_true_eq_false, not_false_eq_true, Int.reduceEq, Int.reduceLE, Int.reduceLT, Int.reduceAdd, Int.reduceNeg, Int.reduceMul, Int.reduceSub, Int.reduceToNat]
  rw [show zOc (u, true) = 2 * u + 1 by unfold zOc zb1; simp]
set_option maxRecDepth 20000 in
theorem c_isGood (hd : 1 ≤ d) {r : Int × Bool} (h0 : 0 ≤ r.1) (h1 : r.1 ≤ 1000000) : zcall d 60 [zi (zOc r)] h Q = if r.2 = true then Q (.inl (some (zi 1))) h else Q (.inl (some (zi 0))) h := by
  have e := zOc_and h0 h1
  obtain ⟨d, rfl⟩ : ∃ e, d = e + 1 := ⟨d - 1, by omega⟩
  simp (disch := first | assumption | omega) only [zc_60]
  cases hb : r.2
  · rw [hb, show zb1 false = 0 from rfl] at e
    simp (disch := first | assumption | exact zk_60 | ((repeat (first | exact z1n | refine z1I ?_ | refine z1R ?_)); done) | exact rfl | omega | decide) only [zb_60_0, zb_60_1, zb_60_2, r_iload_0, r_iconst, r_iand, r_if_eq, r_goto, r_goto_w, r_iret, r_bret_0, r_bret_1, e, Bool.false_eq_true, ↓reduceIte, not_true_eq_false, not_false_eq_true, Int.reduceEq, Int.reduceLE, Int.reduceLT, Int.reduceAdd, Int.reduceNeg, Int.reduceMul, Int.reduceSub, Int.reduceToNat]
  · rw [hb, show zb1 true = 1 from rfl] at e
    simp (disch := first | assumption | exact zk_60 | ((repeat (first | exact z1n | refine z1I ?_ | refine z1R ?_)); done) | exact rfl | omega | decide) only [zb_60_0, zb_60_1, zb_60_2, r_iload_0, r_iconst, r_iand, r_if_eq, r_goto, r_goto_w, r_iret, r_bret_0, r_bret_1, e, ↓reduceIte, not_true_eq_false, not_false_eq_true, Int.reduceEq, Int.reduceLE, Int.reduceLT, Int.reduceAdd, Int.reduceNeg, Int.reduceMul, Int.reduceSub, Int.reduceToNat]
set_option maxRecDepth 20000 in
theorem c_timeOf (hd : 1 ≤ d) {r : Int × Bool} (h0 : 0 ≤ r.1) (h1 : r.1 ≤ 1000000) : zcall d 61 [zi (zOc r)] h Q = Q (.inl (some (zi r.1))) h := by
  have e := zOc_shr h0 h1
  obtain ⟨d, rfl⟩ : ∃ e, d = e + 1 := ⟨d - 1, by omega⟩
  simp (disch := first | assumption | omega) only [zc_61]
  simp (disch := first | assumption | exact zk_61 | ((repeat (first | exact z1n | refine z1I ?_ | refine z1R ?_)); done) | exact rfl | omega | decide) only [zb_61_0, r_iload_0, r_iconst, r_ishr, r_iret, r_bret_0, r_bret_1, e, ↓reduceIte, not_true_eq_false, not_false_eq_true, Int.reduceEq, Int.reduceLE, Int.reduceLT, Int.reduceAdd, Int.reduceNeg, Int.reduceMul, Int.reduceSub, Int.reduceToNat]
end
