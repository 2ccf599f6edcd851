/-! REQUEST, 2: asking and serving, by rank -/
theorem zRank_lt {ρ : zR} (hW : zWF ρ) {x y : Int} (hed : zEd ρ x y) : zpop (zNeeds ρ y) < zpop (zNeeds ρ x) := by
  have hd : zDep ρ x y := Relation.TransGen.single hed
  obtain ⟨⟨x0, x1⟩, y0, y1⟩ := zDep_rng hW hd
  have hn := hW.1
  exact zct_lt (fun z z0 z1 hz => (zNeeds_iff hW x0 x1 z0).mpr (hd.trans ((zNeeds_iff hW y0 y1 z0).mp hz))) y0 (by omega) (by
    cases c : zin (zNeeds ρ y) y
    · rfl
    · exact absurd ((zNeeds_iff hW y0 y1 y0).mp c) (hW.2.2.2.1 y)) ((zNeeds_iff hW x0 x1 y0).mpr hd)
theorem zRank_n {ρ : zR} (hW : zWF ρ) {x : Int} (x0 : 0 ≤ x) (x1 : x < ρ.n) : 0 ≤ zpop (zNeeds ρ x) ∧ zpop (zNeeds ρ x) ≤ 11 := by
  have hn := hW.1
  refine ⟨zpop_rng.1, ?_⟩
  have e : zpop (zNeeds ρ x) = zct (zin (zNeeds ρ x)) ρ.n := zct_cut hn.1 hn.2.1 (fun z a b => by
    cases q : zin (zNeeds ρ x) z
    · rfl
    · have := (zDep_rng hW ((zNeeds_iff hW x0 x1 (by omega)).mp q)).2; omega)
  have h1 := zct_lt (p := zin (zNeeds ρ x)) (q := fun _ => true) (k := ρ.n) (fun _ _ _ _ => rfl) x0 x1 (by
    cases c : zin (zNeeds ρ x) x
    · rfl
    · exact absurd ((zNeeds_iff hW x0 x1 x0).mp c) (hW.2.2.2.1 x)) rfl
  have h2 := zct_rng (p := fun _ => true) hn.1
  omega
def zRq (s : zS) (V0 : zV) : zN → zV → Prop := fun ν V => zFrg 121 132 V0 V ∧ zRqP s V ∧ zRqN ν V ∧ zNok2 ν ∧ ∀ k, k = 0 ∨ k = 1 → V 121 k = V0 121 k
theorem zSv_tok {ρ : zR} (hW : zWF ρ) : ∀ (f : Nat) (x mo bu : Int) (ν : zN), 0 ≤ x → x < ρ.n → 0 ≤ bu → 0 ≤ (zSv ρ f x mo bu ν).1.1 ∧ (zSv ρ f x mo bu ν).1.1 ≤ bu := by
  intro f
  induction f with
  | zero => intro x mo bu ν _ _ b0; exact ⟨Int.le_refl _, b0⟩
  | succ f ih =>
    intro x mo bu ν x0 x1 b0
    refine zSvB_t hW (fun cl mo bu ν c0 c1 b0 => ?_) x0 x1 b0 ν
    have w := hW.2.2.1 cl c0 c1
    exact ih _ mo bu _ w.2.1.1 w.2.1.2 b0
theorem zAk_tok {ρ : zR} (hW : zWF ρ) (f : Nat) : zTok ρ (zAk ρ (zSv ρ f)) := fun cl mo bu ν c0 c1 b0 => by
  have w := hW.2.2.1 cl c0 c1
  exact zSv_tok hW f _ mo bu _ w.2.1.1 w.2.1.2 b0
section
variable {s : zS} {V0 : zV} {a : Nat} {ρ : zR}
set_option maxRecDepth 20000 in
theorem c_req (hW : zWF ρ) (hP0 : zStP s V0 a) (hC0 : zStC ρ V0 a) (ha : a + 18 ≤ 121) : ∀ (f : Nat) (x dep mo bu : Int) (ν : zN) (V : zV) (e : Nat) (Q : zO → zH → Prop), zpop (zNeeds ρ x) < f → dep + zpop (zNeeds ρ x) ≤ 12 → 1 ≤ dep → 10 + 5 * f ≤ e → 0 ≤ x → x < ρ.n → 0 ≤ mo → mo + bu ≤ 100000 → 0 ≤ bu → bu ≤ 1000 → zRq s V0 ν V → (∀ V', zRq s V0 (zSv ρ f x mo bu ν).2 V' → Q (.inl (some (zi (zOc (zSv ρ f x mo bu ν).1)))) (s, V')) → zcall e 306 [.ref 121, .ref a, zi x, zi mo, zi bu, zi dep] (s, V) Q := by
  obtain ⟨n0, n1, cc0, cc1⟩ := hW.1
  intro f
  induction f with
  | zero =>
    intro x dep mo bu ν V e Q hr
    have := zpop_rng (v := zNeeds ρ x)
    omega
  | succ f ih =>
    intro x dep mo bu ν V e Q hr hdep dep1 he x0 x1 m0 m1 b0 b1 hν hQ
    have hS : ∀ ν V, zRq s V0 ν V → zStP s V a ∧ zStC ρ V a := fun ν V h => ⟨hP0.frg h.1 (by omega), hC0.frg h.1 (by omega)⟩
    refine c_serve5 (R := zRq s V0) (nA := 48) (nF := 50) (nM := 51) (d := 11 + 5 * f) (bm := 1000) (ask := zAk ρ (zSv ρ f)) (ν := ν) ⟨Or.inl ⟨hν.2.1.1, rfl⟩, Or.inl ⟨hν.2.1.1, rfl⟩, Or.inl ⟨hν.2.1.1, rfl⟩, zAk_tok hW f, hS, ?_, ?_, ?_⟩ hν.2.1.1 hW (by omega) (by omega) hν x0 x1 m0 m1 b0 b1 (by omega) hQ
    · intro e cl mo bu ν V K hde hν c0 c1 hcx m0 m1 b0 b1 _ hK
      obtain ⟨hP, hC⟩ := hS ν V hν
      obtain ⟨g1, g2, g3, g4, g5⟩ := hν
      have w := hW.2.2.1 cl c0 c1
      have hed : zEd ρ x (ρ.K 1 cl) := ⟨cl, c0, c1, hcx, rfl⟩
      have hrk := zRank_lt hW hed
      have hrn := zpop_rng (v := zNeeds ρ (ρ.K 1 cl))
      obtain ⟨e, rfl⟩ : ∃ q, e = q + 1 := ⟨e - 1, by omega⟩
      rw [zc_48 g2.1]
      have t5 := g2.1
      simp (disch := first | assumption | exact zk_48 | ((repeat (first | exact z1n | refine z1I ?_ | refine z1R ?_)); done) | exact rfl | omega | decide) only [zb_48_0, zb_48_1, r_iload_5, r_iconst, r_icmp_lt, r_inv_1_0, r_inv_1_1, r_inv_1_2, r_inv_1_3, r_inv_1_4, r_K0, r_K1, r_iret, r_bret_0, r_bret_1, r_aload_0, r_iload_2, r_iload_3, r_iload_4, r_inv_4_0, r_inv_4_1, r_inv_4_2, r_inv_4_3, r_inv_4_4, r_istore_6i, r_istore_6r, r_istore_6j, r_dup_i, r_dup_r, r_gf_323, r_iadd, r_pf_323, r_aload_1, r_gf_451, r_aaload, r_ial, r_ial30, r_ial32, r_inv_6_0, r_inv_6_1, r_inv_6_2, r_inv_6_3, r_inv_6_4, r_istore_7i, r_istore_7r, r_istore_7j, r_iload_6, r_icmp_eq, r_iload_7, r_if_eq, r_gf_329, r_iastore, r_goto_w, ↓reduceIte, not_true_eq_false, not_false_eq_true, Int.reduceEq, Int.reduceLE, Int.reduceLT, Int.reduceAdd, Int.reduceNeg, Int.reduceMul, Int.reduceSub, Int.reduceToNat]
      rw [if_pos (by omega)]
      refine c_noteTry (by omega) g2 g3 g4 (fun V1 f1 p1 k01 kk k7 kF kT => ?_)
      have hP1 := hP.frg f1 (by omega)
      have hC1 := hC.frg f1 (by omega)
      have v3 : V1 a 3 = .ref (a + 11) := hP1.2.2.2.2.1
      have v31 : V1 (a + 11) 1 = .ref (a + 13) := (hP1.2.2.2.2.2.2.2.2 1 (by omega)).1
      have t7 := hP1.1
      have tB := hP1.2.2.2.2.2.1
      have lB := hP1.2.2.2.2.2.2.1
      have t13 : s.tg (a + 13) = 20 := (hP1.2.2.2.2.2.2.2.2 1 (by omega)).2.1
      have l13 : s.ln (a + 13) = 24 := (hP1.2.2.2.2.2.2.2.2 1 (by omega)).2.2
      have vk : V1 (a + 13) cl = zi (ρ.K 1 cl) := hC1.2.2.2.1 1 (by omega) cl c0 c1
      have hsv : V1 121 3 = zi ν.sv := (kk 3 (by omega)).trans g3.1.2.1
      have n121 : (a + 11 ≠ 121 ∧ a + 13 ≠ 121) ∧ a ≠ 121 := by omega
      obtain ⟨⟨n1a, n1b⟩, n1c⟩ := n121
      simp (disch := first | assumption | exact zk_48 | ((repeat (first | exact z1n | refine z1I ?_ | refine z1R ?_)); done) | exact rfl | omega | decide) only [r_iload_5, r_iconst, r_icmp_lt, r_inv_1_0, r_inv_1_1, r_inv_1_2, r_inv_1_3, r_inv_1_4, r_K0, r_K1, r_iret, r_bret_0, r_bret_1, r_aload_0, r_iload_2, r_iload_3, r_iload_4, r_inv_4_0, r_inv_4_1, r_inv_4_2, r_inv_4_3, r_inv_4_4, r_istore_6i, r_istore_6r, r_istore_6j, r_dup_i, r_dup_r, r_gf_323, r_iadd, r_pf_323, r_aload_1, r_gf_451, r_aaload, r_ial, r_ial30, r_ial32, r_inv_6_0, r_inv_6_1, r_inv_6_2, r_inv_6_3, r_inv_6_4, r_istore_7i, r_istore_7r, r_istore_7j, r_iload_6, r_icmp_eq, r_iload_7, r_if_eq, r_gf_329, r_iastore, r_goto_w, hsv, v3, v31, vk, zput_r, ↓reduceIte, not_true_eq_false, not_false_eq_true, Int.reduceEq, Int.reduceLE, Int.reduceLT, Int.reduceAdd, Int.reduceNeg, Int.reduceMul, Int.reduceSub, Int.reduceToNat]
      have hν2 : zRq s V0 (zNt ν cl mo bu) (zput V1 121 3 (zi (ν.sv + 1))) := by
        refine ⟨(g1.tr f1).p (by omega) (by omega), p1.pf (by omega) (by omega), ⟨⟨?_, ?_, ?_, ?_, ?_, ?_⟩, fun w hw k k0 k1 => ?_, fun w hw k k0 k1 => ?_⟩, g4.nt, fun k hk => ?_⟩
        · rw [zput_k (by omega), kk 2 (by omega)]; exact g3.1.1
        · exact zput_at
        · rw [zput_k (by omega), kk 4 (by omega)]; exact g3.1.2.2.1
        · rw [zput_k (by omega), kk 5 (by omega)]; exact g3.1.2.2.2.1
        · rw [zput_k (by omega), kk 6 (by omega)]; exact g3.1.2.2.2.2.1
        · rw [zput_k (by omega)]; exact k7
        · rw [zput_r (by omega), kF w hw]; exact g3.2.1 w hw k k0 k1
        · rw [zput_r (by omega)]; exact kT w hw k k0 k1
        · rw [zput_k (by omega), k01 k hk]; exact g5 k hk
      refine ih (ρ.K 1 cl) (dep + 1) mo bu (zNt ν cl mo bu) _ e _ (by omega) (by omega) (by omega) (by omega) w.2.1.1 w.2.1.2 m0 m1 (by omega) (by omega) hν2 (fun V2 hν3 => ?_)
      have htm := zSv_tok hW f (ρ.K 1 cl) mo bu (zNt ν cl mo bu) w.2.1.1 w.2.1.2 (by omega)
      have hak : zAk ρ (zSv ρ f) cl mo bu ν = ((zSv ρ f (ρ.K 1 cl) mo bu (zNt ν cl mo bu)).1, if (zSv ρ f (ρ.K 1 cl) mo bu (zNt ν cl mo bu)).1.2 = true then zNg (zSv ρ f (ρ.K 1 cl) mo bu (zNt ν cl mo bu)).2 (zNo ν) else (zSv ρ f (ρ.K 1 cl) mo bu (zNt ν cl mo bu)).2) := rfl
      rw [hak] at hK
      generalize zSv ρ f (ρ.K 1 cl) mo bu (zNt ν cl mo bu) = res at *
      have hno : -1 ≤ zNo ν ∧ zNo ν < 200 := by
        have := g4.2.1
        unfold zNo
        split <;> omega
      generalize zNo ν = no at *
      obtain ⟨z1, z2, z3, z4, z5⟩ := hν3
      have t127 := z2.2.2.2.1.1
      have l127 := z2.2.2.2.1.2
      have v9 : V2 121 9 = .ref 127 := z2.2.1.2
      have v93 : V2 127 3 = .ref 131 := (z2.2.2.2.2.2 3 (by omega)).1
      have t131 : s.tg 131 = 20 := (z2.2.2.2.2.2 3 (by omega)).2.1
      have l131 : s.ln 131 = 200 := (z2.2.2.2.2.2 3 (by omega)).2.2
      by_cases g : res.1.2 = true
      · rw [if_pos g] at hK
        by_cases q : no = -1
        · have e1 : zNg res.2 no = res.2 := by
            unfold zNg
            rw [if_pos q]
            rfl
          have := hK V2 (by dsimp only; rw [e1]; exact ⟨z1, z2, z3, z4, z5⟩)
          simp (disch := first | assumption | exact zk_48 | ((repeat (first | exact z1n | refine z1I ?_ | refine z1R ?_)); done) | exact rfl | omega | decide) only [zb_48_2, r_iload_5, r_iconst, r_icmp_lt, r_inv_1_0, r_inv_1_1, r_inv_1_2, r_inv_1_3, r_inv_1_4, r_K0, r_K1, r_iret, r_bret_0, r_bret_1, r_aload_0, r_iload_2, r_iload_3, r_iload_4, r_inv_4_0, r_inv_4_1, r_inv_4_2, r_inv_4_3, r_inv_4_4, r_istore_6i, r_istore_6r, r_istore_6j, r_dup_i, r_dup_r, r_gf_323, r_iadd, r_pf_323, r_aload_1, r_gf_451, r_aaload, r_ial, r_ial30, r_ial32, r_inv_6_0, r_inv_6_1, r_inv_6_2, r_inv_6_3, r_inv_6_4, r_istore_7i, r_istore_7r, r_istore_7j, r_iload_6, r_icmp_eq, r_iload_7, r_if_eq, r_gf_329, r_iastore, r_goto_w, q, ↓reduceIte, not_true_eq_false, not_false_eq_true, Int.reduceEq, Int.reduceLE, Int.reduceLT, Int.reduceAdd, Int.reduceNeg, Int.reduceMul, Int.reduceSub, Int.reduceToNat]
          exact this
        · have := hK (zput V2 131 no (zi 1)) ?_
          · simp (disch := first | assumption | exact zk_48 | ((repeat (first | exact z1n | refine z1I ?_ | refine z1R ?_)); done) | exact rfl | omega | decide) only [zb_48_2, r_iload_5, r_iconst, r_icmp_lt, r_inv_1_0, r_inv_1_1, r_inv_1_2, r_inv_1_3, r_inv_1_4, r_K0, r_K1, r_iret, r_bret_0, r_bret_1, r_aload_0, r_iload_2, r_iload_3, r_iload_4, r_inv_4_0, r_inv_4_1, r_inv_4_2, r_inv_4_3, r_inv_4_4, r_istore_6i, r_istore_6r, r_istore_6j, r_dup_i, r_dup_r, r_gf_323, r_iadd, r_pf_323, r_aload_1, r_gf_451, r_aaload, r_ial, r_ial30, r_ial32, r_inv_6_0, r_inv_6_1, r_inv_6_2, r_inv_6_3, r_inv_6_4, r_istore_7i, r_istore_7r, r_istore_7j, r_iload_6, r_icmp_eq, r_iload_7, r_if_eq, r_gf_329, r_iastore, r_goto_w, q, c_isGood, g, v9, v93, ↓reduceIte, not_true_eq_false, not_false_eq_true, Int.reduceEq, Int.reduceLE, Int.reduceLT, Int.reduceAdd, Int.reduceNeg, Int.reduceMul, Int.reduceSub, Int.reduceToNat]
            exact this
          · refine ⟨z1.p (by omega) (by omega), z2.pr (by omega) (by omega) (by omega), ⟨⟨?_, ?_, ?_, ?_, ?_, ?_⟩, fun w hw k k0 k1 => ?_, fun w hw k k0 k1 => ?_⟩, z4.ng, fun k hk => ?_⟩
            · rw [zput_r (by omega)]; exact z3.1.1
            · rw [zput_r (by omega)]; exact z3.1.2.1
            · rw [zput_r (by omega)]; exact z3.1.2.2.1
            · rw [zput_r (by omega)]; exact z3.1.2.2.2.1
            · rw [zput_r (by omega)]; exact z3.1.2.2.2.2.1
            · rw [zput_r (by omega), z3.1.2.2.2.2.2]
              show _ = zi (if no = -1 then res.2.2.1 else (res.2.tc, fun w k => if w = 3 ∧ k = no then 1 else res.2.T w k)).1
              rw [if_neg q]
            · rw [zput_r (by omega)]; exact z3.2.1 w hw k k0 k1
            · have k1 : k < (if no = -1 then res.2.2.1 else (res.2.tc, fun w k => if w = 3 ∧ k = no then 1 else res.2.T w k)).1 := k1
              rw [if_neg q] at k1
              have eT : (zNg res.2 no).T w k = if (w : Int) = 3 ∧ k = no then 1 else res.2.T w k := by
                show (if no = -1 then res.2.2.1 else (res.2.tc, fun w k => if w = 3 ∧ k = no then 1 else res.2.T w k)).2 w k = _
                rw [if_neg q]
              dsimp only
              rw [eT]
              by_cases q2 : (w : Int) = 3 ∧ k = no
              · rw [if_pos q2, show w = 3 by omega, q2.2, zput_at]
              · rw [if_neg q2]
                by_cases q3 : w = 3
                · subst q3
                  rw [zput_i (fun c => q2 ⟨rfl, c⟩)]; exact z3.2.2 3 hw k k0 k1
                · rw [zput_r (by omega)]; exact z3.2.2 w hw k k0 k1
            · rw [zput_r (by omega)]; exact z5 k hk
      · rw [if_neg g] at hK
        have gf : res.1.2 = false := by simpa using g
        have := hK V2 ⟨z1, z2, z3, z4, z5⟩
        by_cases q : no = -1
        · simp (disch := first | assumption | exact zk_48 | ((repeat (first | exact z1n | refine z1I ?_ | refine z1R ?_)); done) | exact rfl | omega | decide) only [zb_48_2, r_iload_5, r_iconst, r_icmp_lt, r_inv_1_0, r_inv_1_1, r_inv_1_2, r_inv_1_3, r_inv_1_4, r_K0, r_K1, r_iret, r_bret_0, r_bret_1, r_aload_0, r_iload_2, r_iload_3, r_iload_4, r_inv_4_0, r_inv_4_1, r_inv_4_2, r_inv_4_3, r_inv_4_4, r_istore_6i, r_istore_6r, r_istore_6j, r_dup_i, r_dup_r, r_gf_323, r_iadd, r_pf_323, r_aload_1, r_gf_451, r_aaload, r_ial, r_ial30, r_ial32, r_inv_6_0, r_inv_6_1, r_inv_6_2, r_inv_6_3, r_inv_6_4, r_istore_7i, r_istore_7r, r_istore_7j, r_iload_6, r_icmp_eq, r_iload_7, r_if_eq, r_gf_329, r_iastore, r_goto_w, q, ↓reduceIte, not_true_eq_false, not_false_eq_true, Int.reduceEq, Int.reduceLE, Int.reduceLT, Int.reduceAdd, Int.reduceNeg, Int.reduceMul, Int.reduceSub, Int.reduceToNat]
          exact this
        · simp (disch := first | assumption | exact zk_48 | ((repeat (first | exact z1n | refine z1I ?_ | refine z1R ?_)); done) | exact rfl | omega | decide) only [zb_48_2, r_iload_5, r_iconst, r_icmp_lt, r_inv_1_0, r_inv_1_1, r_inv_1_2, r_inv_1_3, r_inv_1_4, r_K0, r_K1, r_iret, r_bret_0, r_bret_1, r_aload_0, r_iload_2, r_iload_3, r_iload_4, r_inv_4_0, r_inv_4_1, r_inv_4_2, r_inv_4_3, r_inv_4_4, r_istore_6i, r_istore_6r, r_istore_6j, r_dup_i, r_dup_r, r_gf_323, r_iadd, r_pf_323, r_aload_1, r_gf_451, r_aaload, r_ial, r_ial30, r_ial32, r_inv_6_0, r_inv_6_1, r_inv_6_2, r_inv_6_3, r_inv_6_4, r_istore_7i, r_istore_7r, r_istore_7j, r_iload_6, r_icmp_eq, r_iload_7, r_if_eq, r_gf_329, r_iastore, r_goto_w, q, c_isGood, gf, Bool.false_eq_true, ↓reduceIte, not_true_eq_false, not_false_eq_true, Int.reduceEq, Int.reduceLE, Int.reduceLT, Int.reduceAdd, Int.reduceNeg, Int.reduceMul, Int.reduceSub, Int.reduceToNat]
          exact this
    · intro e y kind mo bu ν V K hde hν y0 y1 k0 k1 hK
      obtain ⟨g1, g2, g3, g4, g5⟩ := hν
      refine c_noteFailure (by omega) g2 g3 g4 y0 (by omega) k0 k1 (fun V' f1 p1 k01 hN => hK V' ⟨g1.tr f1, p1, hN, g4.fl y0 (by omega), fun k hk => (k01 k hk).trans (g5 k hk)⟩)
    · intro e ν V K hde hν hK
      obtain ⟨g1, g2, g3, g4, g5⟩ := hν
      obtain ⟨e, rfl⟩ : ∃ q, e = q + 1 := ⟨e - 1, by omega⟩
      have t5 := g2.1
      rw [zc_51 t5]
      have u2 := g3.1.1
      have := hK (zput V 121 2 (zi (ν.mi + 1))) ⟨g1.p (by omega) (by omega), g2.pf (by omega) (by omega), ⟨⟨zput_at, (zput_k (by omega)).trans g3.1.2.1, (zput_k (by omega)).trans g3.1.2.2.1, (zput_k (by omega)).trans g3.1.2.2.2.1, (zput_k (by omega)).trans g3.1.2.2.2.2.1, (zput_k (by omega)).trans g3.1.2.2.2.2.2⟩, fun w hw k k0 k1 => (zput_r (by omega)).trans (g3.2.1 w hw k k0 k1), fun w hw k k0 k1 => (zput_r (by omega)).trans (g3.2.2 w hw k k0 k1)⟩, g4, fun k hk => (zput_k (by omega)).trans (g5 k hk)⟩
      simp (disch := first | assumption | exact zk_51 | ((repeat (first | exact z1n | refine z1I ?_ | refine z1R ?_)); done) | exact rfl | omega | decide) only [zb_51_0, r_aload_0, r_dup_i, r_dup_r, r_gf_322, r_iconst, r_iadd, r_pf_322, r_ret, u2, ↓reduceIte, not_true_eq_false, not_false_eq_true, Int.reduceEq, Int.reduceLE, Int.reduceLT, Int.reduceAdd, Int.reduceNeg, Int.reduceMul, Int.reduceSub, Int.reduceToNat]
      exact this
/-- the notes at the beginning -/
def zN0 : zN := ((0, fun _ _ => 0), (0, fun _ _ => 0), 0, 1, -1, -1)
set_option maxRecDepth 20000 in
theorem c_begin (hW : zWF ρ) (hP0 : zStP s V0 a) (hC0 : zStC ρ V0 a) (ha : a + 18 ≤ 121) (hP : zRqP s V0) {x bu : Int} (x0 : 0 ≤ x) (x1 : x < ρ.n) (b0 : 0 ≤ bu) (b1 : bu ≤ 1000) {e : Nat} (he : 71 ≤ e) {Q : zO → zH → Prop} (hQ : ∀ V', zFrg 121 132 V0 V' → zRqP s V' → zRqN (zSv ρ 12 x 0 bu zN0).2 V' → zNok2 (zSv ρ 12 x 0 bu zN0).2 → V' 121 0 = zi 1 → V' 121 1 = zi (zOc (zSv ρ 12 x 0 bu zN0).1) → Q (.inl (some (zi (zb1 (zSv ρ 12 x 0 bu zN0).1.2)))) (s, V')) : zcall e 47 [.ref 121, .ref a, zi x, zi bu] (s, V0) Q := by
  have t5 := hP.1
  obtain ⟨e, rfl⟩ : ∃ q, e = q + 1 := ⟨e - 1, by omega⟩
  rw [zc_47 t5]
  simp (disch := first | assumption | exact zk_47 | ((repeat (first | exact z1n | refine z1I ?_ | refine z1R ?_)); done) | exact rfl | omega | decide) only [zb_47_0, r_aload_0, r_iconst, r_pf_320_0, r_pf_320_1, r_pf_320, r_pf_322, r_pf_323, r_pf_324, r_pf_325, r_pf_326, r_pf_327, r_aload_1, r_iload_2, r_iload_3, r_inv_6_0, r_inv_6_1, r_inv_6_2, r_inv_6_3, r_inv_6_4, r_K0, r_K1, r_pf_321, r_gf_321, r_inv_1_0, r_inv_1_1, r_inv_1_2, r_inv_1_3, r_inv_1_4, r_iret, r_bret_0, r_bret_1, ↓reduceIte, not_true_eq_false, not_false_eq_true, Int.reduceEq, Int.reduceLE, Int.reduceLT, Int.reduceAdd, Int.reduceNeg, Int.reduceMul, Int.reduceSub, Int.reduceToNat]
  generalize hV1 : zput (zput (zput (zput (zput (zput (zput V0 121 0 (zi 1)) 121 2 (zi 0)) 121 3 (zi 1)) 121 4 (zi (-1))) 121 5 (zi (-1))) 121 6 (zi 0)) 121 7 (zi 0) = V1
  have F1 : zFrg 121 132 V0 V1 := by
    rw [← hV1]
    repeat (first | exact zFrg.rf | refine zFrg.p ?_ (by omega) (by omega))
  have P1 : zRqP s V1 := by
    rw [← hV1]
    repeat (first | exact hP | refine zRqP.pf ?_ (by omega) (by omega))
  have K0 : V1 121 0 = zi 1 := by rw [← hV1]; simp (disch := omega) only [zput_k, zput_at]
  have N1 : zRqN zN0 V1 := by
    refine ⟨⟨?_, ?_, ?_, ?_, ?_, ?_⟩, fun w hw k k0 k1 => ?_, fun w hw k k0 k1 => ?_⟩
    · rw [← hV1]; simp (disch := omega) only [zput_k, zput_at]; rfl
    · rw [← hV1]; simp (disch := omega) only [zput_k, zput_at]; rfl
    · rw [← hV1]; simp (disch := omega) only [zput_k, zput_at]; rfl
    · rw [← hV1]; simp (disch := omega) only [zput_k, zput_at]; rfl
    · rw [← hV1]; simp (disch := omega) only [zput_k, zput_at]; rfl
    · rw [← hV1]; simp (disch := omega) only [zput_k, zput_at]; rfl
    · have k1 : k < 0 := k1
      omega
    · have k1 : k < 0 := k1
      omega
  have hok : zNok2 zN0 := ⟨⟨by decide, by decide⟩, ⟨by decide, by decide⟩, ⟨by decide, by decide⟩, by decide, by decide⟩
  have hrk := zRank_n hW x0 x1
  refine c_req (V0 := V1) hW (hP0.frg F1 (by omega)) (hC0.frg F1 (by omega)) ha 12 x 1 0 bu zN0 V1 e _ (by omega) (by omega) (by omega) (by omega) x0 x1 (by omega) (by omega) b0 b1 ⟨zFrg.rf, P1, N1, hok, fun _ _ => rfl⟩ (fun V' hν => ?_)
  obtain ⟨g1, g2, g3, g4, g5⟩ := hν
  have htm := zSv_tok hW 12 x 0 bu zN0 x0 x1 b0
  generalize zSv ρ 12 x 0 bu zN0 = res at *
  have := hQ (zput V' 121 1 (zi (zOc res.1))) ((F1.tr g1).p (by omega) (by omega)) (g2.pf (by omega) (by omega)) ⟨⟨(zput_k (by omega)).trans g3.1.1, (zput_k (by omega)).trans g3.1.2.1, (zput_k (by omega)).trans g3.1.2.2.1, (zput_k (by omega)).trans g3.1.2.2.2.1, (zput_k (by omega)).trans g3.1.2.2.2.2.1, (zput_k (by omega)).trans g3.1.2.2.2.2.2⟩, fun w hw k k0 k1 => (zput_r (by omega)).trans (g3.2.1 w hw k k0 k1), fun w hw k k0 k1 => (zput_r (by omega)).trans (g3.2.2 w hw k k0 k1)⟩ g4 (by rw [zput_k (by omega), g5 0 (by omega)]; exact K0) zput_at
  by_cases g : res.1.2 = true
  · rw [g, show zb1 true = 1 from rfl] at this
    simp (disch := first | assumption | exact zk_47 | ((repeat (first | exact z1n | refine z1I ?_ | refine z1R ?_)); done) | exact rfl | omega | decide) only [r_aload_0, r_iconst, r_pf_320_0, r_pf_320_1, r_pf_320, r_pf_322, r_pf_323, r_pf_324, r_pf_325, r_pf_326, r_pf_327, r_aload_1, r_iload_2, r_iload_3, r_inv_6_0, r_inv_6_1, r_inv_6_2, r_inv_6_3, r_inv_6_4, r_K0, r_K1, r_pf_321, r_gf_321, r_inv_1_0, r_inv_1_1, r_inv_1_2, r_inv_1_3, r_inv_1_4, r_iret, r_bret_0, r_bret_1, zput_at, c_isGood, g, ↓reduceIte, not_true_eq_false, not_false_eq_true, Int.reduceEq, Int.reduceLE, Int.reduceLT, Int.reduceAdd, Int.reduceNeg, Int.reduceMul, Int.reduceSub, Int.reduceToNat]
    exact this
  · have gf : res.1.2 = false := by simpa using g
    rw [gf, show zb1 false = 0 from rfl] at this
    simp (disch := first | assumption | exact zk_47 | ((repeat (first | exact z1n | refine z1I ?_ | refine z1R ?_)); done) | exact rfl | omega | decide) only [r_aload_0, r_iconst, r_pf_320_0, r_pf_320_1, r_pf_320, r_pf_322, r_pf_323, r_pf_324, r_pf_325, r_pf_326, r_pf_327, r_aload_1, r_iload_2, r_iload_3, r_inv_6_0, r_inv_6_1, r_inv_6_2, r_inv_6_3, r_inv_6_4, r_K0, r_K1, r_pf_321, r_gf_321, r_inv_1_0, r_inv_1_1, r_inv_1_2, r_inv_1_3, r_inv_1_4, r_iret, r_bret_0, r_bret_1, zput_at, c_isGood, gf, Bool.false_eq_true, ↓reduceIte, not_true_eq_false, not_false_eq_true, Int.reduceEq, Int.reduceLE, Int.reduceLT, Int.reduceAdd, Int.reduceNeg, Int.reduceMul, Int.reduceSub, Int.reduceToNat]
    exact this
end
