/-! REQUEST, 6: the model's whole run of a request -/
theorem zHs_skip {ρ : zR} {ask : zAsk} {x mo bu : Int} : ∀ (m : Nat) (p q u : Int) (ν : zN), (q - p).toNat = m → 0 ≤ p → p ≤ q → q ≤ ρ.c → (∀ j, p ≤ j → j < q → ¬ (ρ.K 0 j = x ∧ ρ.K 4 j ≠ 2)) → zHs ρ ask x mo bu (ρ.c - p).toNat u ν = zHs ρ ask x mo bu (ρ.c - q).toNat u ν := by
  intro m
  induction m with
  | zero => intro p q u ν hm p0 pq qc _; rw [show p = q by omega]
  | succ m ih =>
    intro p q u ν hm p0 pq qc hno
    rw [show (ρ.c - p).toNat = (ρ.c - (p + 1)).toNat + 1 by omega]
    conv => lhs; unfold zHs
    have e : ρ.c - (((ρ.c - (p + 1)).toNat + 1 : Nat) : Int) = p := by omega
    rw [e, if_neg (hno p (Int.le_refl _) (by omega))]
    exact ih (p + 1) q u ν (by omega) (by omega) (by omega) qc (fun j j0 j1 => hno j (by omega) j1)
theorem zGr_skip {ρ : zR} {ask : zAsk} {hh mo bu : Int} : ∀ (m : Nat) (p q u : Int) (ν : zN), (q - p).toNat = m → 0 ≤ p → p ≤ q → q ≤ ρ.c → (∀ j, p ≤ j → j < q → ¬ (j = hh ∨ zLead ρ j = hh)) → zGr ρ ask hh mo bu (ρ.c - p).toNat u ν = zGr ρ ask hh mo bu (ρ.c - q).toNat u ν := by
  intro m
  induction m with
  | zero => intro p q u ν hm p0 pq qc _; rw [show p = q by omega]
  | succ m ih =>
    intro p q u ν hm p0 pq qc hno
    rw [show (ρ.c - p).toNat = (ρ.c - (p + 1)).toNat + 1 by omega]
    conv => lhs; unfold zGr
    have e : ρ.c - (((ρ.c - (p + 1)).toNat + 1 : Nat) : Int) = p := by omega
    rw [e, if_neg (hno p (Int.le_refl _) (by omega))]
    exact ih (p + 1) q u ν (by omega) (by omega) (by omega) qc (fun j j0 j1 => hno j (by omega) j1)
theorem zMk_stop {ρ : zR} {ask : zAsk} {cl mo bu u : Int} {t : Nat} {ν : zN} (h : bu ≤ u) : zMk ρ ask cl mo bu (t + 1) u ν = ((u, false), zNfl ν (ρ.K 0 cl) 3 (mo + u) bu) := by
  unfold zMk
  rw [if_pos h]
theorem zMk_go {ρ : zR} {ask : zAsk} {cl mo bu u : Int} {t : Nat} {ν : zN} (h : ¬ bu ≤ u) {r : zRs} (hr : ask cl (mo + u) (zMnI (ρ.K 2 cl) (bu - u)) ν = r) : zMk ρ ask cl mo bu (t + 1) u ν = if r.1.2 = true then ((u + r.1.1, true), r.2) else zMk ρ ask cl mo bu t (u + r.1.1) r.2 := by
  rw [← hr]
  conv => lhs; unfold zMk
  rw [if_neg h]
/-- what is left of the service when a group has come to g -/
def zFinG (ρ : zR) (ask : zAsk) (x mo bu hh : Int) (g : zRs) : zRs := if g.1.2 = true then zHs ρ ask x mo bu (ρ.c - (hh + 1)).toNat g.1.1 g.2 else if ρ.K 4 hh = 0 then ((g.1.1, false), zNfl g.2 x 4 (mo + g.1.1) bu) else zHs ρ ask x mo bu (ρ.c - (hh + 1)).toNat g.1.1 (zNm g.2)
theorem zHs_at {ρ : zR} {ask : zAsk} {x mo bu c u : Int} {ν : zN} (c0 : 0 ≤ c) (c1 : c < ρ.c) (hx : ρ.K 0 c = x ∧ ρ.K 4 c ≠ 2) : zHs ρ ask x mo bu (ρ.c - c).toNat u ν = zFinG ρ ask x mo bu c (zGr ρ ask c mo bu (ρ.c - c).toNat u ν) := by
  have e0 : (ρ.c - c).toNat = (ρ.c - (c + 1)).toNat + 1 := by omega
  have e : ρ.c - (((ρ.c - (c + 1)).toNat + 1 : Nat) : Int) = c := by omega
  rw [e0]
  conv => lhs; unfold zHs
  rw [e, if_pos hx]
  rfl
theorem zGr_at {ρ : zR} {ask : zAsk} {hh mo bu c u : Int} {ν : zN} (c0 : 0 ≤ c) (c1 : c < ρ.c) (hx : c = hh ∨ zLead ρ c = hh) : zGr ρ ask hh mo bu (ρ.c - c).toNat u ν = if (zMk ρ ask c mo bu (ρ.K 3 c).toNat u ν).1.2 = true then zMk ρ ask c mo bu (ρ.K 3 c).toNat u ν else zGr ρ ask hh mo bu (ρ.c - (c + 1)).toNat (zMk ρ ask c mo bu (ρ.K 3 c).toNat u ν).1.1 (zMk ρ ask c mo bu (ρ.K 3 c).toNat u ν).2 := by
  have e0 : (ρ.c - c).toNat = (ρ.c - (c + 1)).toNat + 1 := by omega
  have e : ρ.c - (((ρ.c - (c + 1)).toNat + 1 : Nat) : Int) = c := by omega
  rw [e0]
  conv => lhs; unfold zGr
  rw [e, if_pos hx]
section
variable {d : Nat} {s : zS} {V V0 : zV} {Q : zO → zH → Prop} {ρ : zR} {ν ν' : zN} {L x mo bu : Int}
set_option maxRecDepth 20000 in
theorem m_returns (hd : 1 ≤ d) (hM : zMP s V) (hN : zMN ν V) (hk : zNok2 ν) (l0 : 0 ≤ L) (l1 : L < 12) {t u k no : Int} {g : Bool} (eL : V 164 20 = zi (L + 1)) (et : V 175 (L + 1) = zi t) (eu : V 175 L = zi u) (ek : V 178 L = zi k) (en : V 180 L = zi no) (es : V 164 34 = zi (zb1 g)) (no0 : -1 ≤ no) (no1 : no < 200)
    (hQ : ∀ V', zFm [175, 178, 179, 182] [20] V V' → V' 164 20 = zi L → (∀ r : Nat, 172 ≤ r → r ≤ 180 → ∀ i : Int, i ≠ L → V' r i = V r i) → V' 175 L = zi (u + t) → V' 178 L = zi (k + 1) → V' 179 L = zi (zb1 g) → zMN (if g = true then zNg ν no else ν) V' → zNok2 (if g = true then zNg ν no else ν) → Q (.inl none) (s, V')) : zcall d 216 [.ref 164] (s, V) Q := by
  obtain ⟨⟨m1, m2, m3, m4, m5, m6⟩, mF, mT, mi1, mi2⟩ := hN
  have tM := hM.1
  have vm_passed : V 164 14 = .ref 175 := (hM.2 10 (by decide)).1
  have tm_passed : s.tg 175 = 20 := (hM.2 10 (by decide)).2.1
  have lm_passed : s.ln 175 = 13 := (hM.2 10 (by decide)).2.2
  have vm_made : V 164 17 = .ref 178 := (hM.2 13 (by decide)).1
  have tm_made : s.tg 178 = 20 := (hM.2 13 (by decide)).2.1
  have lm_made : s.ln 178 = 13 := (hM.2 13 (by decide)).2.2
  have vm_won : V 164 18 = .ref 179 := (hM.2 14 (by decide)).1
  have tm_won : s.tg 179 = 23 := (hM.2 14 (by decide)).2.1
  have lm_won : s.ln 179 = 13 := (hM.2 14 (by decide)).2.2
  have vm_tryOf : V 164 19 = .ref 180 := (hM.2 15 (by decide)).1
  have tm_tryOf : s.tg 180 = 20 := (hM.2 15 (by decide)).2.1
  have lm_tryOf : s.ln 180 = 13 := (hM.2 15 (by decide)).2.2
  have vm_tryRow : V 164 29 = .ref 182 := (hM.2 17 (by decide)).1
  have tm_tryRow : s.tg 182 = 20 := (hM.2 17 (by decide)).2.1
  have lm_tryRow : s.ln 182 = 800 := (hM.2 17 (by decide)).2.2
  obtain ⟨d, rfl⟩ : ∃ e, d = e + 1 := ⟨d - 1, by omega⟩
  simp (disch := first | assumption | omega) only [zc_216]
  have base : ∀ (gv : Int), gv = zb1 g → ∀ V1, V1 = zput (zput (zput (zput V 164 20 (zi L)) 175 L (zi (u + t))) 178 L (zi (k + 1))) 179 L (zi gv) → zFm [175, 178, 179, 182] [20] V V1 ∧ V1 164 20 = zi L ∧ (∀ r : Nat, 172 ≤ r → r ≤ 180 → ∀ i : Int, i ≠ L → V1 r i = V r i) ∧ V1 175 L = zi (u + t) ∧ V1 178 L = zi (k + 1) ∧ V1 179 L = zi (zb1 g) ∧ zMN ν V1 := by
    intro gv hgv V1 hV1
    subst hV1
    refine ⟨?_, ?_, fun r r0 r1 i hi => ?_, ?_, ?_, ?_, ?_⟩
    · exact (((zFm.rf.pf (by simp)).pr (by simp) (by omega)).pr (by simp) (by omega)).pr (by simp) (by omega)
    · simp (disch := omega) only [zput_r, zput_at]
    · rw [zput_i hi, zput_i hi, zput_i hi, zput_r (by omega)]
    · simp (disch := omega) only [zput_r, zput_at]
    · simp (disch := omega) only [zput_r, zput_at]
    · rw [zput_at, hgv]
    · refine zMN.of ⟨⟨m1, m2, m3, m4, m5, m6⟩, mF, mT, mi1, mi2⟩ (fun k hk => ?_) ?_ ?_
      · simp (disch := omega) only [zput_r, zput_k]
      · simp (disch := omega) only [zput_row]
      · simp (disch := omega) only [zput_row]
  cases g with
  | false =>
    have e0 : zb1 false = 0 := rfl
    rw [e0] at es
    obtain ⟨r1, r2, r3, r4, r5, r6, r7⟩ := base 0 rfl _ rfl
    have := hQ _ r1 r2 r3 r4 r5 r6 (by rw [if_neg (by decide)]; exact r7) (by rw [if_neg (by decide)]; exact hk)
    simp (disch := first | assumption | exact zk_216 | ((repeat (first | exact z1n | refine z1I ?_ | refine z1R ?_)); done) | exact rfl | omega | decide) only [zb_216_0, zb_216_1, r_aload_0, r_gf_654, r_gf_660, r_ial, r_ial30, r_ial32, r_istore_1i, r_istore_1r, r_istore_1j, r_dup_i, r_dup_r, r_iconst, r_isub, r_pf_660, r_dup2, r_iload_1, r_iadd, r_iastore, r_gf_657, r_gf_658, r_gf_674, r_bastore, r_if_eq, r_gf_659, r_icmp_eq, r_gf_669, r_imul, r_goto_w, r_ret, vm_passed, vm_made, vm_won, vm_tryOf, vm_tryRow, eL, et, eu, ek, es, zput_r, zput_k, zput_at, show L + 1 - 1 = L by omega, ↓reduceIte, not_true_eq_false, not_false_eq_true, Int.reduceEq, Int.reduceLE, Int.reduceLT, Int.reduceAdd, Int.reduceNeg, Int.reduceMul, Int.reduceSub, Int.reduceToNat]
    exact this
  | true =>
    have e0 : zb1 true = 1 := rfl
    rw [e0] at es
    obtain ⟨r1, r2, r3, r4, r5, r6, r7⟩ := base 1 rfl _ rfl
    by_cases q : no = -1
    · have e1 : zNg ν no = ν := by unfold zNg; rw [if_pos q]; rfl
      have := hQ _ r1 r2 r3 r4 r5 r6 (by rw [if_pos rfl, e1]; exact r7) (by rw [if_pos rfl, e1]; exact hk)
      simp (disch := first | assumption | exact zk_216 | ((repeat (first | exact z1n | refine z1I ?_ | refine z1R ?_)); done) | exact rfl | omega | decide) only [zb_216_0, zb_216_1, r_aload_0, r_gf_654, r_gf_660, r_ial, r_ial30, r_ial32, r_istore_1i, r_istore_1r, r_istore_1j, r_dup_i, r_dup_r, r_iconst, r_isub, r_pf_660, r_dup2, r_iload_1, r_iadd, r_iastore, r_gf_657, r_gf_658, r_gf_674, r_bastore, r_if_eq, r_gf_659, r_icmp_eq, r_gf_669, r_imul, r_goto_w, r_ret, vm_passed, vm_made, vm_won, vm_tryOf, vm_tryRow, eL, et, eu, ek, es, en, q, zput_r, zput_k, zput_at, show L + 1 - 1 = L by omega, ↓reduceIte, not_true_eq_false, not_false_eq_true, Int.reduceEq, Int.reduceLE, Int.reduceLT, Int.reduceAdd, Int.reduceNeg, Int.reduceMul, Int.reduceSub, Int.reduceToNat]
      exact this
    · obtain ⟨⟨m1', m2', m3', m4', m5', m6'⟩, mF', mT', mi1', mi2'⟩ := r7
      have etc : (zNg ν no).tc = ν.tc := by
        show (if no = -1 then ν.2.1 else (ν.tc, fun w k => if w = 3 ∧ k = no then 1 else ν.T w k)).1 = _
        rw [if_neg q]
      have eT : ∀ w k, (zNg ν no).T w k = if w = 3 ∧ k = no then 1 else ν.T w k := fun w k => by
        show (if no = -1 then ν.2.1 else (ν.tc, fun w k => if w = 3 ∧ k = no then 1 else ν.T w k)).2 w k = _
        rw [if_neg q]
      have := hQ (zput (zput (zput (zput (zput V 164 20 (zi L)) 175 L (zi (u + t))) 178 L (zi (k + 1))) 179 L (zi 1)) 182 (4 * no + 3) (zi 1)) (r1.pr (by simp) (by omega)) ((zput_r (by omega)).trans r2) (fun r r0 r1 i hi => (zput_r (by omega)).trans (r3 r r0 r1 i hi)) ((zput_r (by omega)).trans r4) ((zput_r (by omega)).trans r5) ((zput_r (by omega)).trans r6) (by
        rw [if_pos rfl]
        refine ⟨⟨(zput_r (by omega)).trans m1', (zput_r (by omega)).trans m2', (zput_r (by omega)).trans m3', (zput_r (by omega)).trans m4', (zput_r (by omega)).trans m5', (zput_r (by omega)).trans (m6'.trans (by rw [etc]))⟩, fun w k w0 w1 k0 k1 => (zput_r (by omega)).trans (mF' w k w0 w1 k0 k1), fun w k w0 w1 k0 k1 => ?_, fun i i0 i1 => by rw [zput_r (by omega)]; exact mi1' i i0 i1, mi2'.put⟩
        rw [etc] at k1
        rw [eT]
        by_cases z : w = 3 ∧ k = no
        · rw [if_pos z, z.1, z.2, zput_at]
        · rw [if_neg z, zput_i (by omega)]
          exact mT' w k w0 w1 k0 k1) (by rw [if_pos rfl]; exact hk.ng)
      simp (disch := first | assumption | exact zk_216 | ((repeat (first | exact z1n | refine z1I ?_ | refine z1R ?_)); done) | exact rfl | omega | decide) only [zb_216_0, zb_216_1, r_aload_0, r_gf_654, r_gf_660, r_ial, r_ial30, r_ial32, r_istore_1i, r_istore_1r, r_istore_1j, r_dup_i, r_dup_r, r_iconst, r_isub, r_pf_660, r_dup2, r_iload_1, r_iadd, r_iastore, r_gf_657, r_gf_658, r_gf_674, r_bastore, r_if_eq, r_gf_659, r_icmp_eq, r_gf_669, r_imul, r_goto_w, r_ret, vm_passed, vm_made, vm_won, vm_tryOf, vm_tryRow, eL, et, eu, ek, es, en, q, zput_r, zput_k, zput_at, show L + 1 - 1 = L by omega, ↓reduceIte, not_true_eq_false, not_false_eq_true, Int.reduceEq, Int.reduceLE, Int.reduceLT, Int.reduceAdd, Int.reduceNeg, Int.reduceMul, Int.reduceSub, Int.reduceToNat]
      exact this
end
section
variable {d : Nat} {s : zS} {Q : zO → zH → Prop} {ρ : zR} {X B : Int}
/-- the two points of the loop: it goes on; a service has ended -/
def zLp (d : Nat) (Q : zO → zH → Prop) (s : zS) (X B : Int) (g : Int) (V : zV) : Prop := ∀ w5, zwp (zcall d) 217 Q (zB 217 1) [.ref 164, zi X, zi B, zi g, zi 0, w5] [] (s, V)
def zEn4 (d : Nat) (Q : zO → zH → Prop) (s : zS) (X B : Int) (V : zV) : Prop := ∀ g : Int, zwp (zcall d) 217 Q (zB 217 4) [.ref 164, zi X, zi B, zi g, zi 0, zi 2] [] (s, V)
def zEnd (d : Nat) (Q : zO → zH → Prop) (s : zS) (X B : Int) (V0 : zV) (ρ : zR) (L x mo bu : Int) (res : zRs) : Prop := ∀ V', zMS s V0 ρ L x mo bu res.2 V' → V' 175 L = zi res.1.1 → V' 164 34 = zi (zb1 res.1.2) → zEn4 d Q s X B V'
set_option maxRecDepth 20000 in
/-- a service that has been entered is begun -/
theorem m_level (hd : 8 ≤ d) (hW : zWF ρ) : ∀ (f : Nat) (L x mo bu : Int) (ν : zN) (V : zV), zpop (zNeeds ρ x) < f → L + zpop (zNeeds ρ x) ≤ 11 → 0 ≤ L → 0 ≤ x → x < ρ.n → 0 ≤ bu → bu ≤ 1000 → zMS s V ρ L x mo bu ν V → V 175 L = zi 0 → zEnd d Q s X B V ρ L x mo bu (zSv ρ f x mo bu ν) → ∀ K : zO → zH → Prop, (∀ g V1, zLp d Q s X B g V1 → K (.inl (some (zi g))) (s, V1)) → zcall d 211 [.ref 164] (s, V) K := by
  obtain ⟨n0, n1, cc0, cc1⟩ := hW.1
  intro f
  induction f with
  | zero =>
    intro L x mo bu ν V hr
    have := zpop_rng (v := zNeeds ρ x)
    omega
  | succ f ihf =>
    intro L x mo bu ν V00 hrk hL l0 x0 x1 b0 b1 hms0 eu0 hE K hK
    have hrn := zpop_rng (v := zNeeds ρ x)
    generalize hask : zAk ρ (zSv ρ f) = ask at *
    have hsv : zSv ρ (f + 1) x mo bu ν = zSvB ρ ask x mo bu ν := by rw [← hask]; rfl
    rw [hsv] at hE
    have hTk : zTok ρ ask := by rw [← hask]; exact zAk_tok hW f
    -- from the loop's head, with goes = 1, by what acts does
    have stepA : ∀ V, (∀ w5, zcall d 213 [.ref 164] (s, V) (zK (zAl 217 213) 217 Q (zwp (zcall d) 217 Q) [.goto 3] [.ref 164, zi X, zi B, zi 1, zi 0, w5] [])) → zMP s V → zLp d Q s X B 1 V := by
      intro V h hM w5
      have tM := hM.1
      have := h w5
      conv => rw [zb_217_1]
      simp (disch := first | assumption | exact zk_217 | ((repeat (first | exact z1n | refine z1I ?_ | refine z1R ?_)); done) | exact rfl | omega | decide) only [r_aload_0, r_iconst, r_pf_662, r_pf_663, r_pf_664, r_pf_665, r_pf_666, r_pf_667, r_pf_660, r_iload_1, r_iload_2, r_inv_4_0, r_inv_4_1, r_inv_4_2, r_inv_4_3, r_inv_4_4, r_K0, r_K1, r_inv_1_0, r_inv_1_1, r_inv_1_2, r_inv_1_3, r_inv_1_4, r_istore_3i, r_istore_3r, r_istore_3j, r_istore_4i, r_istore_4r, r_istore_4j, r_goto_w, r_iload_4, r_if_ne, r_iload_3, r_if_eq, r_goto, r_istore_5i, r_istore_5r, r_istore_5j, r_iload_5, r_icmp_ne, r_gf_660, r_gf_654, r_ial, r_ial30, r_ial32, r_pf_661, r_gf_674, r_iret, r_bret_0, r_bret_1, ↓reduceIte, not_true_eq_false, not_false_eq_true, Int.reduceEq, Int.reduceLE, Int.reduceLT, Int.reduceAdd, Int.reduceNeg, Int.reduceMul, Int.reduceSub, Int.reduceToNat]
      exact this
    have k0 : ∀ V w5, zLp d Q s X B 1 V → zwp (zcall d) 217 Q (zB 217 3) [.ref 164, zi X, zi B, zi 1, zi 0, w5] [zi 0] (s, V) := by
      intro V w5 h
      have := h (zi 0)
      simp (disch := first | assumption | exact zk_217 | ((repeat (first | exact z1n | refine z1I ?_ | refine z1R ?_)); done) | exact rfl | omega | decide) only [zb_217_3, zb_217_4, zb_217_5, zb_217_6, r_aload_0, r_iconst, r_pf_662, r_pf_663, r_pf_664, r_pf_665, r_pf_666, r_pf_667, r_pf_660, r_iload_1, r_iload_2, r_inv_4_0, r_inv_4_1, r_inv_4_2, r_inv_4_3, r_inv_4_4, r_K0, r_K1, r_inv_1_0, r_inv_1_1, r_inv_1_2, r_inv_1_3, r_inv_1_4, r_istore_3i, r_istore_3r, r_istore_3j, r_istore_4i, r_istore_4r, r_istore_4j, r_goto_w, r_iload_4, r_if_ne, r_iload_3, r_if_eq, r_goto, r_istore_5i, r_istore_5r, r_istore_5j, r_iload_5, r_icmp_ne, r_gf_660, r_gf_654, r_ial, r_ial30, r_ial32, r_pf_661, r_gf_674, r_iret, r_bret_0, r_bret_1, ↓reduceIte, not_true_eq_false, not_false_eq_true, Int.reduceEq, Int.reduceLE, Int.reduceLT, Int.reduceAdd, Int.reduceNeg, Int.reduceMul, Int.reduceSub, Int.reduceToNat]
      exact this
    have k2 : ∀ V w5 g, zEn4 d Q s X B V → zwp (zcall d) 217 Q (zB 217 3) [.ref 164, zi X, zi B, zi g, zi 0, w5] [zi 2] (s, V) := by
      intro V w5 g h
      have := h g
      simp (disch := first | assumption | exact zk_217 | ((repeat (first | exact z1n | refine z1I ?_ | refine z1R ?_)); done) | exact rfl | omega | decide) only [zb_217_3, r_aload_0, r_iconst, r_pf_662, r_pf_663, r_pf_664, r_pf_665, r_pf_666, r_pf_667, r_pf_660, r_iload_1, r_iload_2, r_inv_4_0, r_inv_4_1, r_inv_4_2, r_inv_4_3, r_inv_4_4, r_K0, r_K1, r_inv_1_0, r_inv_1_1, r_inv_1_2, r_inv_1_3, r_inv_1_4, r_istore_3i, r_istore_3r, r_istore_3j, r_istore_4i, r_istore_4r, r_istore_4j, r_goto_w, r_iload_4, r_if_ne, r_iload_3, r_if_eq, r_goto, r_istore_5i, r_istore_5r, r_istore_5j, r_iload_5, r_icmp_ne, r_gf_660, r_gf_654, r_ial, r_ial30, r_ial32, r_pf_661, r_gf_674, r_iret, r_bret_0, r_bret_1, ↓reduceIte, not_true_eq_false, not_false_eq_true, Int.reduceEq, Int.reduceLE, Int.reduceLT, Int.reduceAdd, Int.reduceNeg, Int.reduceMul, Int.reduceSub, Int.reduceToNat]
      exact this
    have main : ∀ (n : Nat) (c : Int), (ρ.c - c).toNat = n → 0 ≤ c → c ≤ ρ.c →
        (c < ρ.c → ρ.K 0 c = x → ∀ (hh : Int), 0 ≤ hh → hh ≤ c → ρ.K 0 hh = x → ρ.K 4 hh ≠ 2 → (c = hh ∨ zLead ρ c = hh) → (∀ j, hh < j → j ≤ c → ρ.K 0 j = x → ρ.K 4 j = 2) → ∀ (t : Nat) (k u : Int) (ν : zN) (V : zV), k + t = ρ.K 3 c → 0 ≤ k → 0 ≤ u → u ≤ bu → zMS s V00 ρ L x mo bu ν V → zPos V L u c hh k false →
          zEnd d Q s X B V00 ρ L x mo bu (zFinG ρ ask x mo bu hh (if (zMk ρ ask c mo bu t u ν).1.2 = true then zMk ρ ask c mo bu t u ν else zGr ρ ask hh mo bu (ρ.c - (c + 1)).toNat (zMk ρ ask c mo bu t u ν).1.1 (zMk ρ ask c mo bu t u ν).2)) → zLp d Q s X B 1 V) ∧
        ((c < ρ.c → ρ.K 0 c = x ∧ ρ.K 4 c ≠ 2) → ∀ (u : Int) (ν : zN) (V : zV), 0 ≤ u → u ≤ bu → zMS s V00 ρ L x mo bu ν V → zPos V L u c c 0 false → zEnd d Q s X B V00 ρ L x mo bu (zHs ρ ask x mo bu (ρ.c - c).toNat u ν) → zLp d Q s X B 1 V) := by
      intro n
      induction n using Nat.strongRecOn with
      | ind n ihn =>
        intro c hn c0 c1
        have partB : c < ρ.c → ρ.K 0 c = x → ∀ (hh : Int), 0 ≤ hh → hh ≤ c → ρ.K 0 hh = x → ρ.K 4 hh ≠ 2 → (c = hh ∨ zLead ρ c = hh) → (∀ j, hh < j → j ≤ c → ρ.K 0 j = x → ρ.K 4 j = 2) → ∀ (t : Nat) (k u : Int) (ν : zN) (V : zV), k + t = ρ.K 3 c → 0 ≤ k → 0 ≤ u → u ≤ bu → zMS s V00 ρ L x mo bu ν V → zPos V L u c hh k false →
          zEnd d Q s X B V00 ρ L x mo bu (zFinG ρ ask x mo bu hh (if (zMk ρ ask c mo bu t u ν).1.2 = true then zMk ρ ask c mo bu t u ν else zGr ρ ask hh mo bu (ρ.c - (c + 1)).toNat (zMk ρ ask c mo bu t u ν).1.1 (zMk ρ ask c mo bu t u ν).2)) → zLp d Q s X B 1 V := by
          intro hc hcx hh hh0 hh1 hhx hh4 hmem hbet
          have wc := hW.2.2.1 c c0 hc
          -- next calls and heads behind c
          have nx : c < zNext ρ x c ∧ zNext ρ x c ≤ ρ.c ∧ (∀ i, c < i → i < zNext ρ x c → ρ.K 0 i ≠ x) ∧ (zNext ρ x c < ρ.c → ρ.K 0 (zNext ρ x c) = x) := by
            obtain ⟨a, b, c', e⟩ := zfst_is (fun i => decide (ρ.K 0 i = x)) (i := c + 1) (n := ρ.c) (by omega)
            unfold zNext
            exact ⟨by omega, b, fun i i0 i1 => by simpa using c' i (by omega) i1, fun q => by simpa using e q⟩
          obtain ⟨q1, q2, q3, q4⟩ := nx
          have nmem : ∀ j, c < j → j < ρ.c → ρ.K 0 j ≠ x → ¬ (j = hh ∨ zLead ρ j = hh) := by
            rintro j j0 j1 hj (z | z)
            · omega
            · unfold zLead at z
              by_cases z4 : ρ.K 4 j = 2
              · rw [if_pos z4] at z
                have hz := (zHd_is (ρ := ρ) (x := ρ.K 0 j) (j := j.toNat) (by omega)).1.1
                rw [z] at hz
                exact hj (by rw [← hz]; exact hhx)
              · rw [if_neg z4] at z; omega
          -- no tries are left, and it isn't won
          have zero : ∀ (u : Int) (ν : zN) (V : zV), 0 ≤ u → u ≤ bu → zMS s V00 ρ L x mo bu ν V → zPos V L u c hh (ρ.K 3 c) false → zEnd d Q s X B V00 ρ L x mo bu (zFinG ρ ask x mo bu hh (zGr ρ ask hh mo bu (ρ.c - (c + 1)).toNat u ν)) → zLp d Q s X B 1 V := by
            intro u ν V u0 u1 hms hpos hE
            refine stepA V (fun w5 => ?_) hms.1
            refine m_acts (by omega) hW hms l0 (by omega) x0 x1 hpos c0 c1 hh0 (fun _ => by omega) (by omega) (fun _ => Int.le_refl _) u0 u1 b1 (fun z => by omega) (fun _ z => by cases z) (fun _ _ _ z1 z2 V' g1 g2 => ?_) (fun _ _ _ z1 z2 V' g1 g2 g3 => ?_) (fun _ _ _ z1 z2 V' g1 g2 => ?_) (fun _ _ z => by omega) (fun _ _ z => by omega)
            · -- the next one of the group
              simp (disch := first | assumption | exact zk_217 | ((repeat (first | exact z1n | refine z1I ?_ | refine z1R ?_)); done) | exact rfl | omega | decide) only [r_aload_0, r_iconst, r_pf_662, r_pf_663, r_pf_664, r_pf_665, r_pf_666, r_pf_667, r_pf_660, r_iload_1, r_iload_2, r_inv_4_0, r_inv_4_1, r_inv_4_2, r_inv_4_3, r_inv_4_4, r_K0, r_K1, r_inv_1_0, r_inv_1_1, r_inv_1_2, r_inv_1_3, r_inv_1_4, r_istore_3i, r_istore_3r, r_istore_3j, r_istore_4i, r_istore_4r, r_istore_4j, r_goto_w, r_iload_4, r_if_ne, r_iload_3, r_if_eq, r_goto, r_istore_5i, r_istore_5r, r_istore_5j, r_iload_5, r_icmp_ne, r_gf_660, r_gf_654, r_ial, r_ial30, r_ial32, r_pf_661, r_gf_674, r_iret, r_bret_0, r_bret_1, ↓reduceIte, not_true_eq_false, not_false_eq_true, Int.reduceEq, Int.reduceLE, Int.reduceLT, Int.reduceAdd, Int.reduceNeg, Int.reduceMul, Int.reduceSub, Int.reduceToNat]
              refine k0 V' _ ?_
              have hx2 := q4 z1
              have hlead : zLead ρ (zNext ρ x c) = hh := by
                unfold zLead
                rw [if_pos z2, hx2]
                refine zHd_of hh0 ⟨hhx, hh4⟩ (by omega) (fun i i0 i1 z => ?_)
                by_cases z5 : i ≤ c
                · exact z.2 (hbet i i0 z5 z.1)
                · exact q3 i (by omega) (by omega) z.1
              refine (ihn (ρ.c - zNext ρ x c).toNat (by omega) (zNext ρ x c) rfl (by omega) q2).1 z1 hx2 hh hh0 (by omega) hhx hh4 (Or.inr hlead) (fun j j0 j1 hj => ?_) (ρ.K 3 (zNext ρ x c)).toNat 0 u ν V' ?_ (by omega) u0 u1 g1 g2 ?_
              · by_cases z5 : j ≤ c
                · exact hbet j j0 z5 hj
                · by_cases z6 : j = zNext ρ x c
                  · rw [z6]; exact z2
                  · exact absurd hj (q3 j (by omega) (by omega))
              · have := (hW.2.2.1 (zNext ρ x c) (by omega) z1).2.2.2.1
                omega
              · rw [← zGr_at (by omega) z1 (Or.inr hlead), ← zGr_skip _ (c + 1) (zNext ρ x c) u ν rfl (by omega) (by omega) q2 (fun j j0 j1 => nmem j (by omega) (by omega) (q3 j (by omega) j1))]
                exact hE
            · -- the group was needed: the service ends
              have hgr : zGr ρ ask hh mo bu (ρ.c - (c + 1)).toNat u ν = ((u, false), ν) := by
                rw [zGr_skip _ (c + 1) ρ.c u ν rfl (by omega) (by omega) (Int.le_refl _) (fun j j0 j1 => ?_)]
                · rw [show (ρ.c - ρ.c).toNat = 0 by omega]
                  rfl
                · by_cases z5 : ρ.K 0 j = x
                  · rintro (z | z)
                    · omega
                    · unfold zLead at z
                      by_cases z4 : ρ.K 4 j = 2
                      · rw [if_pos z4] at z
                        have hz := zHd_is (ρ := ρ) (x := ρ.K 0 j) (j := j.toNat) (by omega)
                        rw [z] at hz
                        have hjn : zNext ρ x c ≤ j := by
                          rcases Int.lt_or_le j (zNext ρ x c) with y | y
                          · exact absurd z5 (q3 j (by omega) y)
                          · exact y
                        have hn4 : ρ.K 4 (zNext ρ x c) ≠ 2 := fun y => z1 ⟨by omega, y⟩
                        by_cases y : zNext ρ x c = j
                        · rw [y] at hn4; exact hn4 z4
                        · exact hz.2 (zNext ρ x c) (by omega) (by omega) ⟨by rw [q4 (by omega), z5], hn4⟩
                      · rw [if_neg z4] at z; omega
                  · exact nmem j (by omega) j1 z5
              rw [hgr] at hE
              unfold zFinG at hE
              rw [if_neg (by simp), if_pos z2] at hE
              simp (disch := first | assumption | exact zk_217 | ((repeat (first | exact z1n | refine z1I ?_ | refine z1R ?_)); done) | exact rfl | omega | decide) only [r_aload_0, r_iconst, r_pf_662, r_pf_663, r_pf_664, r_pf_665, r_pf_666, r_pf_667, r_pf_660, r_iload_1, r_iload_2, r_inv_4_0, r_inv_4_1, r_inv_4_2, r_inv_4_3, r_inv_4_4, r_K0, r_K1, r_inv_1_0, r_inv_1_1, r_inv_1_2, r_inv_1_3, r_inv_1_4, r_istore_3i, r_istore_3r, r_istore_3j, r_istore_4i, r_istore_4r, r_istore_4j, r_goto_w, r_iload_4, r_if_ne, r_iload_3, r_if_eq, r_goto, r_istore_5i, r_istore_5r, r_istore_5j, r_iload_5, r_icmp_ne, r_gf_660, r_gf_654, r_ial, r_ial30, r_ial32, r_pf_661, r_gf_674, r_iret, r_bret_0, r_bret_1, ↓reduceIte, not_true_eq_false, not_false_eq_true, Int.reduceEq, Int.reduceLE, Int.reduceLT, Int.reduceAdd, Int.reduceNeg, Int.reduceMul, Int.reduceSub, Int.reduceToNat]
              exact k2 V' _ _ (hE V' g1 g2 g3)
            · -- the group was not needed
              have hgr : zGr ρ ask hh mo bu (ρ.c - (c + 1)).toNat u ν = ((u, false), ν) := by
                rw [zGr_skip _ (c + 1) ρ.c u ν rfl (by omega) (by omega) (Int.le_refl _) (fun j j0 j1 => ?_)]
                · rw [show (ρ.c - ρ.c).toNat = 0 by omega]
                  rfl
                · by_cases z5 : ρ.K 0 j = x
                  · rintro (z | z)
                    · omega
                    · unfold zLead at z
                      by_cases z4 : ρ.K 4 j = 2
                      · rw [if_pos z4] at z
                        have hz := zHd_is (ρ := ρ) (x := ρ.K 0 j) (j := j.toNat) (by omega)
                        rw [z] at hz
                        have hjn : zNext ρ x c ≤ j := by
                          rcases Int.lt_or_le j (zNext ρ x c) with y | y
                          · exact absurd z5 (q3 j (by omega) y)
                          · exact y
                        have hn4 : ρ.K 4 (zNext ρ x c) ≠ 2 := fun y => z1 ⟨by omega, y⟩
                        by_cases y : zNext ρ x c = j
                        · rw [y] at hn4; exact hn4 z4
                        · exact hz.2 (zNext ρ x c) (by omega) (by omega) ⟨by rw [q4 (by omega), z5], hn4⟩
                      · rw [if_neg z4] at z; omega
                  · exact nmem j (by omega) j1 z5
              rw [hgr] at hE
              unfold zFinG at hE
              rw [if_neg (by simp), if_neg z2] at hE
              simp (disch := first | assumption | exact zk_217 | ((repeat (first | exact z1n | refine z1I ?_ | refine z1R ?_)); done) | exact rfl | omega | decide) only [r_aload_0, r_iconst, r_pf_662, r_pf_663, r_pf_664, r_pf_665, r_pf_666, r_pf_667, r_pf_660, r_iload_1, r_iload_2, r_inv_4_0, r_inv_4_1, r_inv_4_2, r_inv_4_3, r_inv_4_4, r_K0, r_K1, r_inv_1_0, r_inv_1_1, r_inv_1_2, r_inv_1_3, r_inv_1_4, r_istore_3i, r_istore_3r, r_istore_3j, r_istore_4i, r_istore_4r, r_istore_4j, r_goto_w, r_iload_4, r_if_ne, r_iload_3, r_if_eq, r_goto, r_istore_5i, r_istore_5r, r_istore_5j, r_iload_5, r_icmp_ne, r_gf_660, r_gf_654, r_ial, r_ial30, r_ial32, r_pf_661, r_gf_674, r_iret, r_bret_0, r_bret_1, ↓reduceIte, not_true_eq_false, not_false_eq_true, Int.reduceEq, Int.reduceLE, Int.reduceLT, Int.reduceAdd, Int.reduceNeg, Int.reduceMul, Int.reduceSub, Int.reduceToNat]
              refine k0 V' _ ?_
              refine (ihn (ρ.c - zNext ρ x c).toNat (by omega) (zNext ρ x c) rfl (by omega) q2).2 (fun z => ⟨q4 z, fun y => z1 ⟨z, y⟩⟩) u (zNm ν) V' u0 u1 g1 g2 ?_
              rw [← zHs_skip _ (hh + 1) (zNext ρ x c) u (zNm ν) rfl (by omega) (by omega) q2 (fun j j0 j1 z => ?_)]
              · exact hE
              · by_cases z5 : j ≤ c
                · exact z.2 (hbet j (by omega) z5 z.1)
                · exact q3 j (by omega) j1 z.1
          intro t
          induction t with
          | zero =>
            intro k u ν V hk k0' u0 u1 hms hpos hE
            have ek : k = ρ.K 3 c := by omega
            rw [ek] at hpos
            exact zero u ν V u0 u1 hms hpos hE
          | succ t iht =>
            intro k u ν V hk k0' u0 u1 hms hpos hE
            refine stepA V (fun w5 => ?_) hms.1
            refine m_acts (by omega) hW hms l0 (by omega) x0 x1 hpos c0 c1 hh0 (fun _ => by omega) (by omega) (fun _ => by omega) u0 u1 b1 (fun z => by omega) (fun _ z => by cases z) (fun _ _ z => by omega) (fun _ _ z => by omega) (fun _ _ z => by omega) (fun _ _ z1 z2 V' g1 g2 => ?_) (fun _ _ z1 z2 => ?_)
            · -- no time is left
              rw [zMk_stop z2] at hE
              simp (disch := first | assumption | exact zk_217 | ((repeat (first | exact z1n | refine z1I ?_ | refine z1R ?_)); done) | exact rfl | omega | decide) only [r_aload_0, r_iconst, r_pf_662, r_pf_663, r_pf_664, r_pf_665, r_pf_666, r_pf_667, r_pf_660, r_iload_1, r_iload_2, r_inv_4_0, r_inv_4_1, r_inv_4_2, r_inv_4_3, r_inv_4_4, r_K0, r_K1, r_inv_1_0, r_inv_1_1, r_inv_1_2, r_inv_1_3, r_inv_1_4, r_istore_3i, r_istore_3r, r_istore_3j, r_istore_4i, r_istore_4r, r_istore_4j, r_goto_w, r_iload_4, r_if_ne, r_iload_3, r_if_eq, r_goto, r_istore_5i, r_istore_5r, r_istore_5j, r_iload_5, r_icmp_ne, r_gf_660, r_gf_654, r_ial, r_ial30, r_ial32, r_pf_661, r_gf_674, r_iret, r_bret_0, r_bret_1, ↓reduceIte, not_true_eq_false, not_false_eq_true, Int.reduceEq, Int.reduceLE, Int.reduceLT, Int.reduceAdd, Int.reduceNeg, Int.reduceMul, Int.reduceSub, Int.reduceToNat]
              refine k0 V' _ ?_
              refine zero u _ V' u0 u1 (by rw [hcx] at hE; exact g1) g2 ?_
              rw [hcx] at hE
              exact hE
            · -- a try
              rw [zMk_go (by omega) rfl] at hE
              have tM := hms.1.1
              have hed : zEd ρ x (ρ.K 1 c) := ⟨c, c0, hc, hcx, rfl⟩
              have hr2 := zRank_lt hW hed
              have hr3 := zpop_rng (v := zNeeds ρ (ρ.K 1 c))
              simp (disch := first | assumption | exact zk_217 | ((repeat (first | exact z1n | refine z1I ?_ | refine z1R ?_)); done) | exact rfl | omega | decide) only [zb_217_3, r_aload_0, r_iconst, r_pf_662, r_pf_663, r_pf_664, r_pf_665, r_pf_666, r_pf_667, r_pf_660, r_iload_1, r_iload_2, r_inv_4_0, r_inv_4_1, r_inv_4_2, r_inv_4_3, r_inv_4_4, r_K0, r_K1, r_inv_1_0, r_inv_1_1, r_inv_1_2, r_inv_1_3, r_inv_1_4, r_istore_3i, r_istore_3r, r_istore_3j, r_istore_4i, r_istore_4r, r_istore_4j, r_goto_w, r_iload_4, r_if_ne, r_iload_3, r_if_eq, r_goto, r_istore_5i, r_istore_5r, r_istore_5j, r_iload_5, r_icmp_ne, r_gf_660, r_gf_654, r_ial, r_ial30, r_ial32, r_pf_661, r_gf_674, r_iret, r_bret_0, r_bret_1, ↓reduceIte, not_true_eq_false, not_false_eq_true, Int.reduceEq, Int.reduceLE, Int.reduceLT, Int.reduceAdd, Int.reduceNeg, Int.reduceMul, Int.reduceSub, Int.reduceToNat]
              refine m_begunTry (by omega) hW hms l0 (by omega) hpos c0 hc u0 z2 b1 (fun V1 f1 g1 g2 g3 g4 => ?_)
              have hmr : 0 ≤ zMnI (ρ.K 2 c) (bu - u) ∧ zMnI (ρ.K 2 c) (bu - u) ≤ bu - u := by unfold zMnI; split <;> omega
              have ht := hTk c (mo + u) (zMnI (ρ.K 2 c) (bu - u)) ν c0 hc hmr.1
              have hak : ask c (mo + u) (zMnI (ρ.K 2 c) (bu - u)) ν = ((zSv ρ f (ρ.K 1 c) (mo + u) (zMnI (ρ.K 2 c) (bu - u)) (zNt ν c (mo + u) (zMnI (ρ.K 2 c) (bu - u)))).1, if (zSv ρ f (ρ.K 1 c) (mo + u) (zMnI (ρ.K 2 c) (bu - u)) (zNt ν c (mo + u) (zMnI (ρ.K 2 c) (bu - u)))).1.2 = true then zNg (zSv ρ f (ρ.K 1 c) (mo + u) (zMnI (ρ.K 2 c) (bu - u)) (zNt ν c (mo + u) (zMnI (ρ.K 2 c) (bu - u)))).2 (zNo ν) else (zSv ρ f (ρ.K 1 c) (mo + u) (zMnI (ρ.K 2 c) (bu - u)) (zNt ν c (mo + u) (zMnI (ρ.K 2 c) (bu - u)))).2) := by rw [← hask]; rfl
              generalize zMnI (ρ.K 2 c) (bu - u) = sh at *
              simp (disch := first | assumption | exact zk_217 | ((repeat (first | exact z1n | refine z1I ?_ | refine z1R ?_)); done) | exact rfl | omega | decide) only [r_aload_0, r_iconst, r_pf_662, r_pf_663, r_pf_664, r_pf_665, r_pf_666, r_pf_667, r_pf_660, r_iload_1, r_iload_2, r_inv_4_0, r_inv_4_1, r_inv_4_2, r_inv_4_3, r_inv_4_4, r_K0, r_K1, r_inv_1_0, r_inv_1_1, r_inv_1_2, r_inv_1_3, r_inv_1_4, r_istore_3i, r_istore_3r, r_istore_3j, r_istore_4i, r_istore_4r, r_istore_4j, r_goto_w, r_iload_4, r_if_ne, r_iload_3, r_if_eq, r_goto, r_istore_5i, r_istore_5r, r_istore_5j, r_iload_5, r_icmp_ne, r_gf_660, r_gf_654, r_ial, r_ial30, r_ial32, r_pf_661, r_gf_674, r_iret, r_bret_0, r_bret_1, ↓reduceIte, not_true_eq_false, not_false_eq_true, Int.reduceEq, Int.reduceLE, Int.reduceLT, Int.reduceAdd, Int.reduceNeg, Int.reduceMul, Int.reduceSub, Int.reduceToNat]
              refine ihf (L + 1) (ρ.K 1 c) (mo + u) sh (zNt ν c (mo + u) sh) V1 (by omega) (by omega) (by omega) wc.2.1.1 wc.2.1.2 hmr.1 (by omega) f1 g4 ?_ _ ?_
              · intro V2 e1 e2 e3 gg
                generalize hres : zSv ρ f (ρ.K 1 c) (mo + u) sh (zNt ν c (mo + u) sh) = res at *
                obtain ⟨y1, y2, y3, y4, ⟨y5, y6, y7, y8⟩, y9, y10⟩ := e1
                have tM2 := y1.1
                obtain ⟨pp1, pp2, pp3, pp4, pp5⟩ := hpos
                have low : ∀ r : Nat, 172 ≤ r → r ≤ 180 → ¬ r = 180 → V2 r L = V r L := fun r r0 r1 r2 => by rw [y4 r r0 r1 L (by omega) (by omega)]; exact g2 r r0 r1 L (by omega) (fun z => r2 z.1)
                have hno : -1 ≤ zNo ν ∧ zNo ν < 200 := by
                  have := hms.2.2.2.2.2.2.2.1
                  unfold zNo
                  split <;> omega
                have l1' : L + 1 ≠ 0 := by omega
                simp (disch := first | assumption | exact zk_217 | ((repeat (first | exact z1n | refine z1I ?_ | refine z1R ?_)); done) | exact rfl | omega | decide) only [zb_217_4, zb_217_5, r_aload_0, r_iconst, r_pf_662, r_pf_663, r_pf_664, r_pf_665, r_pf_666, r_pf_667, r_pf_660, r_iload_1, r_iload_2, r_inv_4_0, r_inv_4_1, r_inv_4_2, r_inv_4_3, r_inv_4_4, r_K0, r_K1, r_inv_1_0, r_inv_1_1, r_inv_1_2, r_inv_1_3, r_inv_1_4, r_istore_3i, r_istore_3r, r_istore_3j, r_istore_4i, r_istore_4r, r_istore_4j, r_goto_w, r_iload_4, r_if_ne, r_iload_3, r_if_eq, r_goto, r_istore_5i, r_istore_5r, r_istore_5j, r_iload_5, r_icmp_ne, r_gf_660, r_gf_654, r_ial, r_ial30, r_ial32, r_pf_661, r_gf_674, r_iret, r_bret_0, r_bret_1, y5, ↓reduceIte, not_true_eq_false, not_false_eq_true, Int.reduceEq, Int.reduceLE, Int.reduceLT, Int.reduceAdd, Int.reduceNeg, Int.reduceMul, Int.reduceSub, Int.reduceToNat]
                rw [if_pos l1']
                refine m_returns (by omega) y1 y9 y10 l0 (by omega) y5 e2 (by rw [low 175 (by omega) (by omega) (by omega)]; exact pp1) (by rw [low 178 (by omega) (by omega) (by omega)]; exact pp4) (by rw [y4 180 (by omega) (by omega) L (by omega) (by omega)]; exact g3) e3 hno.1 hno.2 (fun V3 z3 z4 z5 z6 z7 z8 z9 z10 => ?_)
                have hms3 : zMS s V00 ρ L x mo bu (if res.1.2 = true then zNg res.2 (zNo ν) else res.2) V3 := by
                  obtain ⟨b1', b2', b3', b4', ⟨b5', b6', b7', b8'⟩, -, -⟩ := hms
                  have F3 : zFm zLvF zLvK V1 V3 := y3.tr (z3.mono (by decide) (by decide))
                  have FV : zFm zLvF zLvK V V3 := g1.tr F3
                  have lowL : ∀ r : Nat, 172 ≤ r → r ≤ 174 → V3 r L = V r L := fun r r0 r1 => by
                    rw [z3.1 r (by omega) (by simp; omega)]
                    exact low r r0 (by omega) (by omega)
                  refine ⟨b1'.fm FV (by decide), b2'.fm FV (by decide), b3'.tr FV, fun r r0 r1 i i0 i1 => ?_, ⟨z4, ?_, ?_, ?_⟩, z9, z10⟩
                  · rw [z5 r r0 r1 i (by omega), y4 r r0 r1 i i0 (by omega), g2 r r0 r1 i (by omega) (by omega)]
                    exact b4' r r0 r1 i i0 i1
                  · rw [lowL 172 (by omega) (by omega)]; exact b6'
                  · rw [lowL 173 (by omega) (by omega)]; exact b7'
                  · rw [lowL 174 (by omega) (by omega)]; exact b8'
                have hpos3 : zPos V3 L (u + res.1.1) c hh (k + 1) res.1.2 := by
                  refine ⟨z6, ?_, ?_, z7, z8⟩
                  · rw [z3.1 176 (by omega) (by simp), low 176 (by omega) (by omega) (by omega)]; exact pp2
                  · rw [z3.1 177 (by omega) (by simp), low 177 (by omega) (by omega) (by omega)]; exact pp3
                rw [hak] at hE ht
                dsimp only at hE ht
                have goal : zLp d Q s X B 1 V3 := by
                  by_cases g : res.1.2 = true
                  · rw [if_pos g] at hms3
                    rw [g] at hpos3
                    simp only [g, ↓reduceIte] at hE
                    unfold zFinG at hE
                    simp only [↓reduceIte] at hE
                    refine stepA V3 (fun w5 => ?_) hms3.1
                    refine m_acts (by omega) hW hms3 l0 (by omega) x0 x1 hpos3 c0 c1 hh0 (fun _ => by omega) (by omega) (fun _ => by omega) (by omega) (by omega) b1 (fun z => by omega) (fun _ _ V' w1 w2 => ?_) (fun _ z => by cases z) (fun _ z => by cases z) (fun _ z => by cases z) (fun _ z => by cases z) (fun _ z => by cases z)
                    simp (disch := first | assumption | exact zk_217 | ((repeat (first | exact z1n | refine z1I ?_ | refine z1R ?_)); done) | exact rfl | omega | decide) only [r_aload_0, r_iconst, r_pf_662, r_pf_663, r_pf_664, r_pf_665, r_pf_666, r_pf_667, r_pf_660, r_iload_1, r_iload_2, r_inv_4_0, r_inv_4_1, r_inv_4_2, r_inv_4_3, r_inv_4_4, r_K0, r_K1, r_inv_1_0, r_inv_1_1, r_inv_1_2, r_inv_1_3, r_inv_1_4, r_istore_3i, r_istore_3r, r_istore_3j, r_istore_4i, r_istore_4r, r_istore_4j, r_goto_w, r_iload_4, r_if_ne, r_iload_3, r_if_eq, r_goto, r_istore_5i, r_istore_5r, r_istore_5j, r_iload_5, r_icmp_ne, r_gf_660, r_gf_654, r_ial, r_ial30, r_ial32, r_pf_661, r_gf_674, r_iret, r_bret_0, r_bret_1, ↓reduceIte, not_true_eq_false, not_false_eq_true, Int.reduceEq, Int.reduceLE, Int.reduceLT, Int.reduceAdd, Int.reduceNeg, Int.reduceMul, Int.reduceSub, Int.reduceToNat]
                    refine k0 V' _ ?_
                    obtain ⟨h1, h2, h3, h4⟩ := zfst_is (fun j => decide (ρ.K 0 j = x ∧ ρ.K 4 j ≠ 2)) (i := c + 1) (n := ρ.c) (by omega)
                    have h5 : zNH ρ x (c + 1) < ρ.c → ρ.K 0 (zNH ρ x (c + 1)) = x ∧ ρ.K 4 (zNH ρ x (c + 1)) ≠ 2 := fun z => of_decide_eq_true (h4 z)
                    refine (ihn (ρ.c - zNH ρ x (c + 1)).toNat (by unfold zNH; omega) (zNH ρ x (c + 1)) rfl (by unfold zNH; omega) h2).2 h5 (u + res.1.1) _ V' (by omega) (by omega) w1 w2 ?_
                    rw [← zHs_skip _ (hh + 1) (zNH ρ x (c + 1)) (u + res.1.1) _ rfl (by omega) (by unfold zNH; omega) h2 (fun j j0 j1 z => ?_)]
                    · exact hE
                    · by_cases z5 : j ≤ c
                      · exact z.2 (hbet j (by omega) z5 z.1)
                      · have := h3 j (by omega) j1
                        simp [z] at this
                  · rw [if_neg g] at hms3
                    have gf : res.1.2 = false := by simpa using g
                    simp only [gf, Bool.false_eq_true, ↓reduceIte] at hE
                    rw [gf] at hpos3
                    exact iht (k + 1) (u + res.1.1) res.2 V3 (by omega) (by omega) (by omega) (by omega) hms3 hpos3 hE
                have := goal (zi 2)
                simp (disch := first | assumption | exact zk_217 | ((repeat (first | exact z1n | refine z1I ?_ | refine z1R ?_)); done) | exact rfl | omega | decide) only [zb_217_6, r_aload_0, r_iconst, r_pf_662, r_pf_663, r_pf_664, r_pf_665, r_pf_666, r_pf_667, r_pf_660, r_iload_1, r_iload_2, r_inv_4_0, r_inv_4_1, r_inv_4_2, r_inv_4_3, r_inv_4_4, r_K0, r_K1, r_inv_1_0, r_inv_1_1, r_inv_1_2, r_inv_1_3, r_inv_1_4, r_istore_3i, r_istore_3r, r_istore_3j, r_istore_4i, r_istore_4r, r_istore_4j, r_goto_w, r_iload_4, r_if_ne, r_iload_3, r_if_eq, r_goto, r_istore_5i, r_istore_5r, r_istore_5j, r_iload_5, r_icmp_ne, r_gf_660, r_gf_654, r_ial, r_ial30, r_ial32, r_pf_661, r_gf_674, r_iret, r_bret_0, r_bret_1, ↓reduceIte, not_true_eq_false, not_false_eq_true, Int.reduceEq, Int.reduceLE, Int.reduceLT, Int.reduceAdd, Int.reduceNeg, Int.reduceMul, Int.reduceSub, Int.reduceToNat]
                exact this
              · intro g V2 hlp
                have := hlp (zi 1)
                simp (disch := first | assumption | exact zk_217 | ((repeat (first | exact z1n | refine z1I ?_ | refine z1R ?_)); done) | exact rfl | omega | decide) only [zb_217_6, r_aload_0, r_iconst, r_pf_662, r_pf_663, r_pf_664, r_pf_665, r_pf_666, r_pf_667, r_pf_660, r_iload_1, r_iload_2, r_inv_4_0, r_inv_4_1, r_inv_4_2, r_inv_4_3, r_inv_4_4, r_K0, r_K1, r_inv_1_0, r_inv_1_1, r_inv_1_2, r_inv_1_3, r_inv_1_4, r_istore_3i, r_istore_3r, r_istore_3j, r_istore_4i, r_istore_4r, r_istore_4j, r_goto_w, r_iload_4, r_if_ne, r_iload_3, r_if_eq, r_goto, r_istore_5i, r_istore_5r, r_istore_5j, r_iload_5, r_icmp_ne, r_gf_660, r_gf_654, r_ial, r_ial30, r_ial32, r_pf_661, r_gf_674, r_iret, r_bret_0, r_bret_1, ↓reduceIte, not_true_eq_false, not_false_eq_true, Int.reduceEq, Int.reduceLE, Int.reduceLT, Int.reduceAdd, Int.reduceNeg, Int.reduceMul, Int.reduceSub, Int.reduceToNat]
                exact this
        refine ⟨partB, fun hc u ν V u0 u1 hms hpos hE => ?_⟩
        by_cases ec : c = ρ.c
        · refine stepA V (fun w5 => ?_) hms.1
          refine m_acts (by omega) hW hms l0 (by omega) x0 x1 hpos c0 c1 c0 (fun z => by omega) (by omega) (fun z => by omega) u0 u1 b1 (fun _ V' g1 g2 g3 => ?_) (fun z => by omega) (fun z => by omega) (fun z => by omega) (fun z => by omega) (fun z => by omega) (fun z => by omega)
          rw [show (ρ.c - c).toNat = 0 by omega] at hE
          simp (disch := first | assumption | exact zk_217 | ((repeat (first | exact z1n | refine z1I ?_ | refine z1R ?_)); done) | exact rfl | omega | decide) only [r_aload_0, r_iconst, r_pf_662, r_pf_663, r_pf_664, r_pf_665, r_pf_666, r_pf_667, r_pf_660, r_iload_1, r_iload_2, r_inv_4_0, r_inv_4_1, r_inv_4_2, r_inv_4_3, r_inv_4_4, r_K0, r_K1, r_inv_1_0, r_inv_1_1, r_inv_1_2, r_inv_1_3, r_inv_1_4, r_istore_3i, r_istore_3r, r_istore_3j, r_istore_4i, r_istore_4r, r_istore_4j, r_goto_w, r_iload_4, r_if_ne, r_iload_3, r_if_eq, r_goto, r_istore_5i, r_istore_5r, r_istore_5j, r_iload_5, r_icmp_ne, r_gf_660, r_gf_654, r_ial, r_ial30, r_ial32, r_pf_661, r_gf_674, r_iret, r_bret_0, r_bret_1, ↓reduceIte, not_true_eq_false, not_false_eq_true, Int.reduceEq, Int.reduceLE, Int.reduceLT, Int.reduceAdd, Int.reduceNeg, Int.reduceMul, Int.reduceSub, Int.reduceToNat]
          exact k2 V' _ _ (hE V' g1 g2 g3)
        · have hc' : c < ρ.c := by omega
          have hcc := hc hc'
          have w3 := (hW.2.2.1 c c0 hc').2.2.2.1
          refine partB hc' hcc.1 c c0 (Int.le_refl _) hcc.1 hcc.2 (Or.inl rfl) (fun j j0 j1 => by omega) (ρ.K 3 c).toNat 0 u ν V (by omega) (by omega) u0 u1 hms hpos ?_
          rw [← zGr_at c0 hc' (Or.inl rfl), ← zHs_at c0 hc' hcc]
          exact hE
    have ended : ∀ V', zEn4 d Q s X B V' → zLp d Q s X B 0 V' := by
      intro V' h w5
      have := h 0
      simp (disch := first | assumption | exact zk_217 | ((repeat (first | exact z1n | refine z1I ?_ | refine z1R ?_)); done) | exact rfl | omega | decide) only [zb_217_1, zb_217_2, zb_217_3, r_aload_0, r_iconst, r_pf_662, r_pf_663, r_pf_664, r_pf_665, r_pf_666, r_pf_667, r_pf_660, r_iload_1, r_iload_2, r_inv_4_0, r_inv_4_1, r_inv_4_2, r_inv_4_3, r_inv_4_4, r_K0, r_K1, r_inv_1_0, r_inv_1_1, r_inv_1_2, r_inv_1_3, r_inv_1_4, r_istore_3i, r_istore_3r, r_istore_3j, r_istore_4i, r_istore_4r, r_istore_4j, r_goto_w, r_iload_4, r_if_ne, r_iload_3, r_if_eq, r_goto, r_istore_5i, r_istore_5r, r_istore_5j, r_iload_5, r_icmp_ne, r_gf_660, r_gf_654, r_ial, r_ial30, r_ial32, r_pf_661, r_gf_674, r_iret, r_bret_0, r_bret_1, ↓reduceIte, not_true_eq_false, not_false_eq_true, Int.reduceEq, Int.reduceLE, Int.reduceLT, Int.reduceAdd, Int.reduceNeg, Int.reduceMul, Int.reduceSub, Int.reduceToNat]
      exact this
    unfold zSvB at hE
    have hor := zOwn_rng hW x0 x1
    refine m_begins (by omega) hW hms0 l0 (by omega) x0 x1 eu0 b0 b1 (fun z V' g1 g2 g3 => ?_) (fun z1 z2 V' g1 g2 g3 => ?_) (fun z1 z2 V' g1 g2 => ?_)
    · rw [if_pos z] at hE
      exact hK 0 V' (ended V' (hE V' g1 g2 g3))
    · rw [if_neg (fun c => c z1), if_pos z2] at hE
      exact hK 0 V' (ended V' (hE V' g1 g2 g3))
    · rw [if_neg (fun c => c z1), if_neg (by omega)] at hE
      refine hK 1 V' ?_
      obtain ⟨h1, h2, h3, h4⟩ := zfst_is (fun j => decide (ρ.K 0 j = x)) (i := -1 + 1) (n := ρ.c) (by omega)
      have n0' : 0 ≤ zNext ρ x (-1) ∧ zNext ρ x (-1) ≤ ρ.c := by unfold zNext; omega
      have hfst : ∀ j, 0 ≤ j → j < zNext ρ x (-1) → ρ.K 0 j ≠ x := fun j j0 j1 => of_decide_eq_false (h3 j (by omega) j1)
      have hnx : zNext ρ x (-1) < ρ.c → ρ.K 0 (zNext ρ x (-1)) = x := fun z => of_decide_eq_true (h4 z)
      refine (main _ (zNext ρ x (-1)) rfl n0'.1 n0'.2).2 (fun z => ⟨hnx z, fun e => ?_⟩) (zOwn ρ x) ν V' (by omega) z2 g1 g2 ?_
      · have hz := hW.2.2.2.2 _ n0'.1 z e
        obtain ⟨r1, r2⟩ := zHd_is hz
        have rr := zHd_rng ρ (ρ.K 0 (zNext ρ x (-1))) (zNext ρ x (-1)).toNat
        exact hfst _ hz (by omega) (r1.1.trans (hnx z))
      · rw [← zHs_skip _ 0 (zNext ρ x (-1)) (zOwn ρ x) ν rfl (by omega) n0'.1 n0'.2 (fun j j0 j1 z => hfst j j0 j1 z.1), Int.sub_zero]
        exact hE
set_option maxRecDepth 20000 in
theorem m_serves (hd : 9 ≤ d) (hW : zWF ρ) {V : zV} (hM : zMP s V) (hC : zMC ρ V) (i1 : zInts V 181 240) (i2 : zInts V 182 800) {x bu : Int} (x0 : 0 ≤ x) (x1 : x < ρ.n) (b0 : 0 ≤ bu) (b1 : bu ≤ 1000)
    (hQ : ∀ V', zFm zLvF (zLvK ++ [21]) V V' → zMN (zSv ρ 12 x 0 bu zN0).2 V' → zNok2 (zSv ρ 12 x 0 bu zN0).2 → V' 164 21 = zi (zSv ρ 12 x 0 bu zN0).1.1 → Q (.inl (some (zi (zb1 (zSv ρ 12 x 0 bu zN0).1.2)))) (s, V')) : zcall d 217 [.ref 164, zi x, zi bu] (s, V) Q := by
  have tM := hM.1
  have hrk := zRank_n hW x0 x1
  obtain ⟨d, rfl⟩ : ∃ e, d = e + 1 := ⟨d - 1, by omega⟩
  simp (disch := first | assumption | omega) only [zc_217]
  generalize hV1 : zput (zput (zput (zput (zput (zput (zput V 164 22 (zi 0)) 164 23 (zi 0)) 164 24 (zi 0)) 164 25 (zi (-1))) 164 26 (zi (-1))) 164 27 (zi 0)) 164 20 (zi 0) = V1
  have F1 : zFm zLvF zLvK V V1 := by
    rw [← hV1]
    repeat (first | exact zFm.rf | refine zFm.pf ?_ (by decide))
  have hM1 := hM.fm F1 (by decide)
  have e20 : V1 164 20 = zi 0 := by rw [← hV1]; exact zput_at
  have e27 : V1 164 27 = zi 0 := by rw [← hV1]; simp (disch := omega) only [zput_k, zput_at]
  simp (disch := first | assumption | exact zk_217 | ((repeat (first | exact z1n | refine z1I ?_ | refine z1R ?_)); done) | exact rfl | omega | decide) only [zb_217_0, r_aload_0, r_iconst, r_pf_662, r_pf_663, r_pf_664, r_pf_665, r_pf_666, r_pf_667, r_pf_660, r_iload_1, r_iload_2, r_inv_4_0, r_inv_4_1, r_inv_4_2, r_inv_4_3, r_inv_4_4, r_K0, r_K1, r_inv_1_0, r_inv_1_1, r_inv_1_2, r_inv_1_3, r_inv_1_4, r_istore_3i, r_istore_3r, r_istore_3j, r_istore_4i, r_istore_4r, r_istore_4j, r_goto_w, r_iload_4, r_if_ne, r_iload_3, r_if_eq, r_goto, r_istore_5i, r_istore_5r, r_istore_5j, r_iload_5, r_icmp_ne, r_gf_660, r_gf_654, r_ial, r_ial30, r_ial32, r_pf_661, r_gf_674, r_iret, r_bret_0, r_bret_1, ↓reduceIte, not_true_eq_false, not_false_eq_true, Int.reduceEq, Int.reduceLE, Int.reduceLT, Int.reduceAdd, Int.reduceNeg, Int.reduceMul, Int.reduceSub, Int.reduceToNat]
  rw [hV1, m_enters (d := d) (L := 0) (by omega) hM1 (by omega) (by omega) e20 e27]
  generalize hV2 : zput (zput (zput (zput (zput V1 172 0 (zi x)) 173 0 (zi 0)) 174 0 (zi bu)) 175 0 (zi 0)) 164 27 (zi (0 + 1)) = V2
  have F2 : zFm zLvF zLvK V V2 := by
    rw [← hV2]
    exact ((((F1.pr (by decide) (by omega)).pr (by decide) (by omega)).pr (by decide) (by omega)).pr (by decide) (by omega)).pf (by decide)
  have hM2 := hM.fm F2 (by decide)
  have tM2 := hM2.1
  have r181 : V2 181 = V 181 := by rw [← hV2, ← hV1]; simp (disch := omega) only [zput_row]
  have r182 : V2 182 = V 182 := by rw [← hV2, ← hV1]; simp (disch := omega) only [zput_row]
  have hN2 : zMN zN0 V2 := by
    refine ⟨⟨?_, ?_, ?_, ?_, ?_, ?_⟩, fun w k w0 w1 k0 k1 => ?_, fun w k w0 w1 k0 k1 => ?_, ?_, ?_⟩
    · rw [← hV2, ← hV1]; simp (disch := omega) only [zput_r, zput_k, zput_at]; rfl
    · rw [← hV2]; exact zput_at
    · rw [← hV2, ← hV1]; simp (disch := omega) only [zput_r, zput_k, zput_at]; rfl
    · rw [← hV2, ← hV1]; simp (disch := omega) only [zput_r, zput_k, zput_at]; rfl
    · rw [← hV2, ← hV1]; simp (disch := omega) only [zput_r, zput_k, zput_at]; rfl
    · rw [← hV2, ← hV1]; simp (disch := omega) only [zput_r, zput_k, zput_at]; rfl
    · have k1 : k < 0 := k1
      omega
    · have k1 : k < 0 := k1
      omega
    · unfold zInts; rw [r181]; exact i1
    · unfold zInts; rw [r182]; exact i2
  have hok : zNok2 zN0 := ⟨⟨by decide, by decide⟩, ⟨by decide, by decide⟩, ⟨by decide, by decide⟩, by decide, by decide⟩
  have hms : zMS s V2 ρ 0 x 0 bu zN0 V2 := by
    refine ⟨hM2, hC.fm F2 (by decide), zFm.rf, fun _ _ _ _ _ _ => rfl, ⟨?_, ?_, ?_, ?_⟩, hN2, hok⟩
    · rw [← hV2]; simp (disch := omega) only [zput_r, zput_k]; exact e20
    · rw [← hV2]; simp (disch := omega) only [zput_r, zput_at]
    · rw [← hV2]; simp (disch := omega) only [zput_r, zput_at]
    · rw [← hV2]; simp (disch := omega) only [zput_r, zput_at]
  have e175 : V2 175 0 = zi 0 := by rw [← hV2]; simp (disch := omega) only [zput_r, zput_at]
  simp (disch := first | assumption | exact zk_217 | ((repeat (first | exact z1n | refine z1I ?_ | refine z1R ?_)); done) | exact rfl | omega | decide) only [r_aload_0, r_iconst, r_pf_662, r_pf_663, r_pf_664, r_pf_665, r_pf_666, r_pf_667, r_pf_660, r_iload_1, r_iload_2, r_inv_4_0, r_inv_4_1, r_inv_4_2, r_inv_4_3, r_inv_4_4, r_K0, r_K1, r_inv_1_0, r_inv_1_1, r_inv_1_2, r_inv_1_3, r_inv_1_4, r_istore_3i, r_istore_3r, r_istore_3j, r_istore_4i, r_istore_4r, r_istore_4j, r_goto_w, r_iload_4, r_if_ne, r_iload_3, r_if_eq, r_goto, r_istore_5i, r_istore_5r, r_istore_5j, r_iload_5, r_icmp_ne, r_gf_660, r_gf_654, r_ial, r_ial30, r_ial32, r_pf_661, r_gf_674, r_iret, r_bret_0, r_bret_1, ↓reduceIte, not_true_eq_false, not_false_eq_true, Int.reduceEq, Int.reduceLE, Int.reduceLT, Int.reduceAdd, Int.reduceNeg, Int.reduceMul, Int.reduceSub, Int.reduceToNat]
  refine m_level (Q := Q) (X := x) (B := bu) (by omega) hW 12 0 x 0 bu zN0 V2 (by omega) (by omega) (by omega) x0 x1 b0 b1 hms e175 ?_ _ ?_
  · intro V3 y1 y2 y3 g
    generalize zSv ρ 12 x 0 bu zN0 = res at *
    obtain ⟨z1, z2, z3, z4, ⟨z5, z6, z7, z8⟩, z9, z10⟩ := y1
    have tM3 := z1.1
    have v14 : V3 164 14 = .ref 175 := (z1.2 10 (by decide)).1
    have t175 : s.tg 175 = 20 := (z1.2 10 (by decide)).2.1
    have l175 : s.ln 175 = 13 := (z1.2 10 (by decide)).2.2
    have hb1 : zb1 res.1.2 = 0 ∨ zb1 res.1.2 = 1 := by unfold zb1; split <;> omega
    have := hQ (zput V3 164 21 (zi res.1.1)) (((F2.tr z3).mono (fun _ h => h) (fun k hk => List.mem_append_left _ hk)).pf (by simp)) (z9.of (fun k hk => zput_k (by omega)) (zput_row (by omega)) (zput_row (by omega))) z10 zput_at
    simp (disch := first | assumption | exact zk_217 | ((repeat (first | exact z1n | refine z1I ?_ | refine z1R ?_)); done) | exact rfl | omega | decide) only [zb_217_4, zb_217_6, zb_217_1, zb_217_7, r_aload_0, r_iconst, r_pf_662, r_pf_663, r_pf_664, r_pf_665, r_pf_666, r_pf_667, r_pf_660, r_iload_1, r_iload_2, r_inv_4_0, r_inv_4_1, r_inv_4_2, r_inv_4_3, r_inv_4_4, r_K0, r_K1, r_inv_1_0, r_inv_1_1, r_inv_1_2, r_inv_1_3, r_inv_1_4, r_istore_3i, r_istore_3r, r_istore_3j, r_istore_4i, r_istore_4r, r_istore_4j, r_goto_w, r_iload_4, r_if_ne, r_iload_3, r_if_eq, r_goto, r_istore_5i, r_istore_5r, r_istore_5j, r_iload_5, r_icmp_ne, r_gf_660, r_gf_654, r_ial, r_ial30, r_ial32, r_pf_661, r_gf_674, r_iret, r_bret_0, r_bret_1, z5, v14, y2, y3, zput_k, r_bret, ↓reduceIte, not_true_eq_false, not_false_eq_true, Int.reduceEq, Int.reduceLE, Int.reduceLT, Int.reduceAdd, Int.reduceNeg, Int.reduceMul, Int.reduceSub, Int.reduceToNat]
    exact this
  · intro g V3 hlp
    have := hlp zJ
    simp (disch := first | assumption | exact zk_217 | ((repeat (first | exact z1n | refine z1I ?_ | refine z1R ?_)); done) | exact rfl | omega | decide) only [r_aload_0, r_iconst, r_pf_662, r_pf_663, r_pf_664, r_pf_665, r_pf_666, r_pf_667, r_pf_660, r_iload_1, r_iload_2, r_inv_4_0, r_inv_4_1, r_inv_4_2, r_inv_4_3, r_inv_4_4, r_K0, r_K1, r_inv_1_0, r_inv_1_1, r_inv_1_2, r_inv_1_3, r_inv_1_4, r_istore_3i, r_istore_3r, r_istore_3j, r_istore_4i, r_istore_4r, r_istore_4j, r_goto_w, r_iload_4, r_if_ne, r_iload_3, r_if_eq, r_goto, r_istore_5i, r_istore_5r, r_istore_5j, r_iload_5, r_icmp_ne, r_gf_660, r_gf_654, r_ial, r_ial30, r_ial32, r_pf_661, r_gf_674, r_iret, r_bret_0, r_bret_1, ↓reduceIte, not_true_eq_false, not_false_eq_true, Int.reduceEq, Int.reduceLE, Int.reduceLT, Int.reduceAdd, Int.reduceNeg, Int.reduceMul, Int.reduceSub, Int.reduceToNat]
    exact this
end
