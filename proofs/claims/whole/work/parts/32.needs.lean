/-! NEEDS, 2: the model's rows of needs -/
def zNds (ρ : zR) (x : Int) : Nat := if x < ρ.n then zNeeds ρ x else 0
def zTot (N : Int → Nat) : Int := zfo (fun x m => m + zpop (N x)) 0 12
theorem zTot_le (N : Int → Nat) : zTot N ≤ 144 := by
  have := zfo_inv (f := fun x m => m + zpop (N x)) (x := (0 : Int)) (k := 12) (fun k m => m ≤ 12 * k) (by omega) (fun j y h1 h2 hy => by have := zpop_rng (v := N j); omega) (by omega)
  unfold zTot
  omega
theorem zpop_mono {a b : Nat} (h : ∀ y, 0 ≤ y → y < 12 → zin a y = true → zin b y = true) : zpop a ≤ zpop b := zct_le (by omega) h
theorem zTot_lt {N M : Int → Nat} {y : Int} (y0 : 0 ≤ y) (y1 : y < 12) (h : ∀ x, 0 ≤ x → x < 12 → zpop (N x) ≤ zpop (M x)) (hy : zpop (N y) < zpop (M y)) : zTot N < zTot M := by
  have : ∀ n : Nat, (n : Int) ≤ 12 → zfo (fun x m => m + zpop (N x)) 0 (n : Int) ≤ zfo (fun x m => m + zpop (M x)) 0 (n : Int) ∧ (y < n → zfo (fun x m => m + zpop (N x)) 0 (n : Int) < zfo (fun x m => m + zpop (M x)) 0 (n : Int)) := by
    intro n
    induction n with
    | zero => intro _; exact ⟨Int.le_refl _, fun q => by omega⟩
    | succ n ih =>
      intro hn
      obtain ⟨i1, i2⟩ := ih (by omega)
      have := h n (by omega) (by omega)
      rw [show ((n + 1 : Nat) : Int) = (n : Int) + 1 from rfl, zfo_s (by omega), zfo_s (by omega)]
      refine ⟨by omega, fun q => ?_⟩
      by_cases e : y = n
      · subst e; omega
      · have := i2 (by omega); omega
  exact (this 12 (by omega)).2 (by omega)
section
variable {d : Nat} {s : zS} {V : zV} {Q : zO → zH → Prop} {ρ : zR} {h : zH}
def zNok (ρ : zR) (N : Int → Nat) : Prop := ∀ x, 0 ≤ x → x < 12 → N x < 4096 ∧ ∀ y, 0 ≤ y → zin (N x) y = true → zDep ρ x y
set_option maxRecDepth 20000 in
theorem m_laysNeeds (hd : 3 ≤ d) (hM : zMP s V) (hC : zMC ρ V) (hW : zWF ρ) (hQ : ∀ V', zFm [169] [] V V' → (∀ x, 0 ≤ x → x < 12 → V' 169 x = zi (zNds ρ x : Nat)) → Q (.inl none) (s, V')) : zcall d 180 [.ref 164] (s, V) Q := by
  obtain ⟨n0, n1, c0, c1⟩ := hW.1
  have tM := hM.1
  have vm_s : V 164 0 = .ref 165 := (hM.2 0 (by decide)).1
  have tm_s : s.tg 165 = 20 := (hM.2 0 (by decide)).2.1
  have lm_s : s.ln 165 = 230 := (hM.2 0 (by decide)).2.2
  have vm_needs : V 164 7 = .ref 169 := (hM.2 4 (by decide)).1
  have tm_needs : s.tg 169 = 20 := (hM.2 4 (by decide)).2.1
  have lm_needs : s.ln 169 = 12 := (hM.2 4 (by decide)).2.2
  obtain ⟨d, rfl⟩ : ∃ e, d = e + 1 := ⟨d - 1, by omega⟩
  simp (disch := first | assumption | omega) only [zc_180]
  simp (disch := first | assumption | exact zk_180 | ((repeat (first | exact z1n | refine z1I ?_ | refine z1R ?_)); done) | exact rfl | omega | decide) only [zb_180_0, r_iconst, r_istore_1i, r_istore_1r, r_istore_1j, r_goto_w, r_iload_1, r_icmp_ge, r_aload_0, r_gf_647, r_iastore, r_iinc_1i, r_iinc_1r, r_iinc_1j, r_goto, r_if_eq, r_istore_2i, r_istore_2r, r_istore_2j, r_iload_2, r_gf_640, r_ial, r_ial30, r_ial32, r_inv_2_0, r_inv_2_1, r_inv_2_2, r_inv_2_3, r_inv_2_4, r_K0, r_K1, r_ishl, r_ior, r_istore_3i, r_istore_3r, r_istore_3j, r_if_ne, r_iload_3, r_icmp_eq, r_iinc_2i, r_iinc_2r, r_iinc_2j, r_ret, vm_s, vm_needs, ↓reduceIte, not_true_eq_false, not_false_eq_true, Int.reduceEq, Int.reduceLE, Int.reduceLT, Int.reduceAdd, Int.reduceNeg, Int.reduceMul, Int.reduceSub, Int.reduceToNat]
  have hcl : ∀ V1, zFm [169] [] V V1 → zMP s V1 ∧ zMC ρ V1 := fun V1 f => ⟨hM.fm f (fun _ _ => by simp), hC.fm f (by decide)⟩
  have hx := z_iter (i := 0) (n := 12) (I := fun k (q : zV) => zFm [169] [] V q ∧ ∀ x, 0 ≤ x → x < k → q 169 x = zi 0) (P := fun k q => zwp (zcall d) 180 Q (zB 180 1) [.ref 164, zi k, zJ, zJ] [] (s, q)) (by omega)
  refine hx ?_ ?_ V ⟨zFm.rf, fun x a b => by omega⟩
  · rintro k V1 k0 k1 ⟨f1, e1⟩ ih
    have g7 : V1 164 7 = .ref 169 := (f1.2 7 (by simp)).trans vm_needs
    conv => rw [zb_180_1]
    simp (disch := first | assumption | exact zk_180 | ((repeat (first | exact z1n | refine z1I ?_ | refine z1R ?_)); done) | exact rfl | omega | decide) only [r_iconst, r_istore_1i, r_istore_1r, r_istore_1j, r_goto_w, r_iload_1, r_icmp_ge, r_aload_0, r_gf_647, r_iastore, r_iinc_1i, r_iinc_1r, r_iinc_1j, r_goto, r_if_eq, r_istore_2i, r_istore_2r, r_istore_2j, r_iload_2, r_gf_640, r_ial, r_ial30, r_ial32, r_inv_2_0, r_inv_2_1, r_inv_2_2, r_inv_2_3, r_inv_2_4, r_K0, r_K1, r_ishl, r_ior, r_istore_3i, r_istore_3r, r_istore_3j, r_if_ne, r_iload_3, r_icmp_eq, r_iinc_2i, r_iinc_2r, r_iinc_2j, r_ret, vm_s, vm_needs, g7, ↓reduceIte, not_true_eq_false, not_false_eq_true, Int.reduceEq, Int.reduceLE, Int.reduceLT, Int.reduceAdd, Int.reduceNeg, Int.reduceMul, Int.reduceSub, Int.reduceToNat]
    rw [if_neg (by omega)]
    refine ih _ ⟨f1.pr (by simp) (by omega), fun x a b => ?_⟩
    by_cases q : x = k
    · rw [q, zput_at]
    · rw [zput_i q]; exact e1 x a (by omega)
  rintro V1 ⟨f1, e1⟩
  simp (disch := first | assumption | exact zk_180 | ((repeat (first | exact z1n | refine z1I ?_ | refine z1R ?_)); done) | exact rfl | omega | decide) only [zb_180_1, zb_180_2, r_iconst, r_istore_1i, r_istore_1r, r_istore_1j, r_goto_w, r_iload_1, r_icmp_ge, r_aload_0, r_gf_647, r_iastore, r_iinc_1i, r_iinc_1r, r_iinc_1j, r_goto, r_if_eq, r_istore_2i, r_istore_2r, r_istore_2j, r_iload_2, r_gf_640, r_ial, r_ial30, r_ial32, r_inv_2_0, r_inv_2_1, r_inv_2_2, r_inv_2_3, r_inv_2_4, r_K0, r_K1, r_ishl, r_ior, r_istore_3i, r_istore_3r, r_istore_3j, r_if_ne, r_iload_3, r_icmp_eq, r_iinc_2i, r_iinc_2r, r_iinc_2j, r_ret, vm_s, vm_needs, ↓reduceIte, not_true_eq_false, not_false_eq_true, Int.reduceEq, Int.reduceLE, Int.reduceLT, Int.reduceAdd, Int.reduceNeg, Int.reduceMul, Int.reduceSub, Int.reduceToNat]
  have pass : ∀ (N : Int → Nat) (V1 : zV) (w2 w3 : Value), zFm [169] [] V V1 → (∀ x, 0 ≤ x → x < 12 → V1 169 x = zi (N x : Nat)) → zNok ρ N → (∀ (N' : Int → Nat) (V' : zV) (w2 w3 : Value), zFm [169] [] V V' → (∀ x, 0 ≤ x → x < 12 → V' 169 x = zi (N' x : Nat)) → zNok ρ N' → zTot N < zTot N' → zwp (zcall d) 180 Q (zB 180 3) [.ref 164, zi 1, w2, w3] [] (s, V')) → zwp (zcall d) 180 Q (zB 180 3) [.ref 164, zi 1, w2, w3] [] (s, V1) := by
    intro N V1 w2 w3 f1 e1 hN hK
    simp (disch := first | assumption | exact zk_180 | ((repeat (first | exact z1n | refine z1I ?_ | refine z1R ?_)); done) | exact rfl | omega | decide) only [zb_180_3, r_iconst, r_istore_1i, r_istore_1r, r_istore_1j, r_goto_w, r_iload_1, r_icmp_ge, r_aload_0, r_gf_647, r_iastore, r_iinc_1i, r_iinc_1r, r_iinc_1j, r_goto, r_if_eq, r_istore_2i, r_istore_2r, r_istore_2j, r_iload_2, r_gf_640, r_ial, r_ial30, r_ial32, r_inv_2_0, r_inv_2_1, r_inv_2_2, r_inv_2_3, r_inv_2_4, r_K0, r_K1, r_ishl, r_ior, r_istore_3i, r_istore_3r, r_istore_3j, r_if_ne, r_iload_3, r_icmp_eq, r_iinc_2i, r_iinc_2r, r_iinc_2j, r_ret, vm_s, vm_needs, ↓reduceIte, not_true_eq_false, not_false_eq_true, Int.reduceEq, Int.reduceLE, Int.reduceLT, Int.reduceAdd, Int.reduceNeg, Int.reduceMul, Int.reduceSub, Int.reduceToNat]
    have hp := z_iter (i := 0) (n := ρ.c) (I := fun k (q : zV × (Int → Nat) × Bool × Value) => zFm [169] [] V q.1 ∧ (∀ x, 0 ≤ x → x < 12 → q.1 169 x = zi (q.2.1 x : Nat)) ∧ zNok ρ q.2.1 ∧ (∀ x, 0 ≤ x → x < 12 → ∀ y, 0 ≤ y → zin (N x) y = true → zin (q.2.1 x) y = true) ∧ (q.2.2.1 = false → q.2.1 = N ∧ ∀ j, 0 ≤ j → j < k → zin (N (ρ.K 0 j)) (ρ.K 1 j) = true ∧ ∀ y, 0 ≤ y → zin (N (ρ.K 1 j)) y = true → zin (N (ρ.K 0 j)) y = true) ∧ (q.2.2.1 = true → zTot N < zTot q.2.1)) (P := fun k q => zwp (zcall d) 180 Q (zB 180 4) [.ref 164, zi (if q.2.2.1 = true then 1 else 0), zi k, q.2.2.2] [] (s, q.1)) c0
    refine hp ?_ ?_ (V1, N, false, w3) ⟨f1, e1, hN, fun _ _ _ _ _ h => h, fun _ => ⟨rfl, fun j a b => by omega⟩, fun h => by cases h⟩
    · rintro k ⟨V1, N1, mo, w3⟩ k0 k1 ⟨f1, e1, hN1, hmono, hfal, htru⟩ ih
      dsimp only at f1 e1 hN1 hmono hfal htru ih ⊢
      obtain ⟨hM, hC⟩ := hcl V1 f1
      have g7 : V1 164 7 = .ref 169 := (f1.2 7 (by simp)).trans vm_needs
      have g0 : V1 164 0 = .ref 165 := (f1.2 0 (by simp)).trans vm_s
      have gc : V1 165 1 = zi ρ.c := hC.2.1
      have w := hW.2.2.1 k k0 k1
      generalize ha : ρ.K 0 k = a at w
      generalize hb : ρ.K 1 k = b at w
      have ea := e1 a (by omega) (by omega)
      have eb := e1 b (by omega) (by omega)
      obtain ⟨la, sa⟩ := hN1 a (by omega) (by omega)
      obtain ⟨lb, sb⟩ := hN1 b (by omega) (by omega)
      have lo := zone_lt (x := b) (by omega)
      have lab := zor_lt la lo
      have lA := zor_lt lab lb
      generalize hA : N1 a ||| zone b ||| N1 b = A at lA
      have bA : ∀ y, 0 ≤ y → (zin A y = true ↔ (zin (N1 a) y = true ∨ b = y) ∨ zin (N1 b) y = true) := by
        intro y y0
        rw [← hA, zin_or, zin_or, Bool.or_eq_true, Bool.or_eq_true, zone_bit (by omega) y0, decide_eq_true_eq]
      have hed : zEd ρ a b := ⟨k, k0, k1, ha, hb⟩
      have hN2 : zNok ρ (fun x => if x = a then A else N1 x) := by
        intro x x0 x1
        dsimp only
        split
        · rename_i e
          subst e
          refine ⟨lA, fun y y0 hy => ?_⟩
          rcases (bA y y0).mp hy with (q | q) | q
          · exact sa y y0 q
          · subst q; exact Relation.TransGen.single hed
          · exact (Relation.TransGen.single hed : zDep ρ x b).trans (sb y y0 q)
        · exact hN1 x x0 x1
      have hm2 : ∀ x, 0 ≤ x → x < 12 → ∀ y, 0 ≤ y → zin (N1 x) y = true → zin (if x = a then A else N1 x) y = true := by
        intro x x0 x1 y y0 hy
        split
        · rename_i e
          subst e
          exact (bA y y0).mpr (Or.inl (Or.inl hy))
        · exact hy
      have hrow : ∀ x, 0 ≤ x → x < 12 → zput V1 169 a (zi (A : Nat)) 169 x = zi ((if x = a then A else N1 x : Nat) : Int) := by
        intro x x0 x1
        by_cases e : x = a
        · rw [e, zput_at, if_pos rfl]
        · rw [zput_i e, if_neg e]
          exact e1 x x0 x1
      have next : ∀ mo' : Bool, (mo' = false → (fun x => if x = a then A else N1 x) = N ∧ ∀ j, 0 ≤ j → j < k + 1 → zin (N (ρ.K 0 j)) (ρ.K 1 j) = true ∧ ∀ y, 0 ≤ y → zin (N (ρ.K 1 j)) y = true → zin (N (ρ.K 0 j)) y = true) → (mo' = true → zTot N < zTot (fun x => if x = a then A else N1 x)) → zwp (zcall d) 180 Q (zB 180 4) [.ref 164, zi (if mo' = true then 1 else 0), zi (k + 1), zi (A : Nat)] [] (s, zput V1 169 a (zi (A : Nat))) := fun mo' q1 q2 =>
        ih (zput V1 169 a (zi (A : Nat)), fun x => if x = a then A else N1 x, mo', zi (A : Nat)) ⟨f1.pr (by simp) (by omega), hrow, hN2, fun x x0 x1 y y0 hy => hm2 x x0 x1 y y0 (hmono x x0 x1 y y0 hy), q1, q2⟩
      have hgrow : zTot N1 ≤ zTot (fun x => if x = a then A else N1 x) ∧ (A ≠ N1 a → zTot N1 < zTot (fun x => if x = a then A else N1 x)) := by
        have hp1 : ∀ x, 0 ≤ x → x < 12 → zpop (N1 x) ≤ zpop (if x = a then A else N1 x) := fun x x0 x1 => zpop_mono (fun y y0 y1 hy => hm2 x x0 x1 y y0 hy)
        have hlt : A ≠ N1 a → zpop (N1 a) < zpop (if a = a then A else N1 a) := by
          intro hne
          rw [if_pos rfl]
          have : ∃ y : Int, 0 ≤ y ∧ y < 12 ∧ zin (N1 a) y = false ∧ zin A y = true := by
            refine Classical.byContradiction (fun q => hne (zset_ext lA la (fun y y0 y1 => ?_)))
            cases c1 : zin A y
            · cases c2 : zin (N1 a) y
              · rfl
              · rw [(bA y y0).mpr (Or.inl (Or.inl c2))] at c1; cases c1
            · cases c2 : zin (N1 a) y
              · exact absurd ⟨y, y0, y1, c2, c1⟩ q
              · rfl
          obtain ⟨y, y0, y1, y2, y3⟩ := this
          exact zct_lt (fun z z0 _ hz => (bA z z0).mpr (Or.inl (Or.inl hz))) y0 y1 y2 y3
        refine ⟨?_, fun hne => zTot_lt (y := a) (by omega) (by omega) hp1 (hlt hne)⟩
        by_cases hne : A = N1 a
        · have : (fun x => if x = a then A else N1 x) = N1 := by
            funext x
            split
            · rename_i e; rw [e, hne]
            · rfl
          rw [this]
          exact Int.le_refl _
        · exact Int.le_of_lt (zTot_lt (y := a) (by omega) (by omega) hp1 (hlt hne))
      conv => rw [zb_180_4]
      simp (disch := first | assumption | exact zk_180 | ((repeat (first | exact z1n | refine z1I ?_ | refine z1R ?_)); done) | exact rfl | omega | decide) only [zb_180_5, zb_180_6, zb_180_7, r_iconst, r_istore_1i, r_istore_1r, r_istore_1j, r_goto_w, r_iload_1, r_icmp_ge, r_aload_0, r_gf_647, r_iastore, r_iinc_1i, r_iinc_1r, r_iinc_1j, r_goto, r_if_eq, r_istore_2i, r_istore_2r, r_istore_2j, r_iload_2, r_gf_640, r_ial, r_ial30, r_ial32, r_inv_2_0, r_inv_2_1, r_inv_2_2, r_inv_2_3, r_inv_2_4, r_K0, r_K1, r_ishl, r_ior, r_istore_3i, r_istore_3r, r_istore_3j, r_if_ne, r_iload_3, r_icmp_eq, r_iinc_2i, r_iinc_2r, r_iinc_2j, r_ret, vm_s, vm_needs, g7, g0, gc, m_caller (hC := hC), m_callee (hC := hC), ha, hb, ea, eb, zshl_z, zor_n, hA, ↓reduceIte, not_true_eq_false, not_false_eq_true, Int.reduceEq, Int.reduceLE, Int.reduceLT, Int.reduceAdd, Int.reduceNeg, Int.reduceMul, Int.reduceSub, Int.reduceToNat]
      rw [if_neg (by omega : ¬ ρ.c ≤ k)]
      cases mo with
      | true =>
        have := next true (fun h => by cases h) (fun _ => by have := htru rfl; omega)
        simp (disch := first | assumption | exact zk_180 | ((repeat (first | exact z1n | refine z1I ?_ | refine z1R ?_)); done) | exact rfl | omega | decide) only [zb_180_5, zb_180_6, zb_180_7, r_iconst, r_istore_1i, r_istore_1r, r_istore_1j, r_goto_w, r_iload_1, r_icmp_ge, r_aload_0, r_gf_647, r_iastore, r_iinc_1i, r_iinc_1r, r_iinc_1j, r_goto, r_if_eq, r_istore_2i, r_istore_2r, r_istore_2j, r_iload_2, r_gf_640, r_ial, r_ial30, r_ial32, r_inv_2_0, r_inv_2_1, r_inv_2_2, r_inv_2_3, r_inv_2_4, r_K0, r_K1, r_ishl, r_ior, r_istore_3i, r_istore_3r, r_istore_3j, r_if_ne, r_iload_3, r_icmp_eq, r_iinc_2i, r_iinc_2r, r_iinc_2j, r_ret, vm_s, vm_needs, g7, g0, gc, m_caller (hC := hC), m_callee (hC := hC), ha, hb, ea, eb, ↓reduceIte, not_true_eq_false, not_false_eq_true, Int.reduceEq, Int.reduceLE, Int.reduceLT, Int.reduceAdd, Int.reduceNeg, Int.reduceMul, Int.reduceSub, Int.reduceToNat]
        exact this
      | false =>
        simp (disch := first | assumption | exact zk_180 | ((repeat (first | exact z1n | refine z1I ?_ | refine z1R ?_)); done) | exact rfl | omega | decide) only [zb_180_5, zb_180_6, zb_180_7, r_iconst, r_istore_1i, r_istore_1r, r_istore_1j, r_goto_w, r_iload_1, r_icmp_ge, r_aload_0, r_gf_647, r_iastore, r_iinc_1i, r_iinc_1r, r_iinc_1j, r_goto, r_if_eq, r_istore_2i, r_istore_2r, r_istore_2j, r_iload_2, r_gf_640, r_ial, r_ial30, r_ial32, r_inv_2_0, r_inv_2_1, r_inv_2_2, r_inv_2_3, r_inv_2_4, r_K0, r_K1, r_ishl, r_ior, r_istore_3i, r_istore_3r, r_istore_3j, r_if_ne, r_iload_3, r_icmp_eq, r_iinc_2i, r_iinc_2r, r_iinc_2j, r_ret, vm_s, vm_needs, g7, g0, gc, m_caller (hC := hC), m_callee (hC := hC), ha, hb, ea, eb, Bool.false_eq_true, ↓reduceIte, not_true_eq_false, not_false_eq_true, Int.reduceEq, Int.reduceLE, Int.reduceLT, Int.reduceAdd, Int.reduceNeg, Int.reduceMul, Int.reduceSub, Int.reduceToNat]
        obtain ⟨r1, r2⟩ := hfal rfl
        by_cases q : A = N1 a
        · have same : (fun x => if x = a then A else N1 x) = N := by
            rw [← r1]
            funext x
            split
            · rename_i e; rw [e, q]
            · rfl
          have := next false (fun _ => ⟨same, fun j j0 j1 => ?_⟩) (fun h => by cases h)
          · rw [if_pos (by omega)]
            exact this
          · by_cases e : j = k
            · subst e
              rw [ha, hb, ← r1]
              refine ⟨?_, fun y y0 hy => ?_⟩
              · rw [← q]; exact (bA b (by omega)).mpr (Or.inl (Or.inr rfl))
              · rw [← q]; exact (bA y y0).mpr (Or.inr hy)
            · exact r2 j j0 (by omega)
        · have := next true (fun h => by cases h) (fun _ => by rw [← r1]; exact hgrow.2 q)
          rw [if_neg (by omega)]
          exact this
    · rintro ⟨V1, N1, mo, w3⟩ ⟨f1, e1, hN1, hmono, hfal, htru⟩
      dsimp only at f1 e1 hN1 hmono hfal htru ⊢
      have g0 : V1 164 0 = .ref 165 := (f1.2 0 (by simp)).trans vm_s
      obtain ⟨hM, hC⟩ := hcl V1 f1
      have gc : V1 165 1 = zi ρ.c := hC.2.1
      cases mo with
      | true =>
        have := hK N1 V1 (zi ρ.c) w3 f1 e1 hN1 (htru rfl)
        simp (disch := first | assumption | exact zk_180 | ((repeat (first | exact z1n | refine z1I ?_ | refine z1R ?_)); done) | exact rfl | omega | decide) only [zb_180_4, zb_180_8, r_iconst, r_istore_1i, r_istore_1r, r_istore_1j, r_goto_w, r_iload_1, r_icmp_ge, r_aload_0, r_gf_647, r_iastore, r_iinc_1i, r_iinc_1r, r_iinc_1j, r_goto, r_if_eq, r_istore_2i, r_istore_2r, r_istore_2j, r_iload_2, r_gf_640, r_ial, r_ial30, r_ial32, r_inv_2_0, r_inv_2_1, r_inv_2_2, r_inv_2_3, r_inv_2_4, r_K0, r_K1, r_ishl, r_ior, r_istore_3i, r_istore_3r, r_istore_3j, r_if_ne, r_iload_3, r_icmp_eq, r_iinc_2i, r_iinc_2r, r_iinc_2j, r_ret, vm_s, vm_needs, g0, gc, Int.le_refl, ↓reduceIte, not_true_eq_false, not_false_eq_true, Int.reduceEq, Int.reduceLE, Int.reduceLT, Int.reduceAdd, Int.reduceNeg, Int.reduceMul, Int.reduceSub, Int.reduceToNat]
        exact this
      | false =>
        obtain ⟨r1, r2⟩ := hfal rfl
        simp (disch := first | assumption | exact zk_180 | ((repeat (first | exact z1n | refine z1I ?_ | refine z1R ?_)); done) | exact rfl | omega | decide) only [zb_180_4, zb_180_8, zb_180_3, zb_180_9, r_iconst, r_istore_1i, r_istore_1r, r_istore_1j, r_goto_w, r_iload_1, r_icmp_ge, r_aload_0, r_gf_647, r_iastore, r_iinc_1i, r_iinc_1r, r_iinc_1j, r_goto, r_if_eq, r_istore_2i, r_istore_2r, r_istore_2j, r_iload_2, r_gf_640, r_ial, r_ial30, r_ial32, r_inv_2_0, r_inv_2_1, r_inv_2_2, r_inv_2_3, r_inv_2_4, r_K0, r_K1, r_ishl, r_ior, r_istore_3i, r_istore_3r, r_istore_3j, r_if_ne, r_iload_3, r_icmp_eq, r_iinc_2i, r_iinc_2r, r_iinc_2j, r_ret, vm_s, vm_needs, g0, gc, Int.le_refl, Bool.false_eq_true, ↓reduceIte, not_true_eq_false, not_false_eq_true, Int.reduceEq, Int.reduceLE, Int.reduceLT, Int.reduceAdd, Int.reduceNeg, Int.reduceMul, Int.reduceSub, Int.reduceToNat]
        refine hQ V1 f1 (fun x x0 x1 => ?_)
        rw [e1 x x0 x1]
        obtain ⟨lx, sx⟩ := hN1 x x0 x1
        congr 2
        unfold zNds
        by_cases hxn : x < ρ.n
        · rw [if_pos hxn]
          refine zset_ext lx (zNeeds_lt hW x) (fun y y0 y1 => ?_)
          rw [Bool.eq_iff_iff, zNeeds_iff hW x0 hxn y0]
          refine ⟨sx y y0, fun hdep => ?_⟩
          rw [r1]
          have step : ∀ a' b', zEd ρ a' b' → 0 ≤ b' ∧ zin (N a') b' = true ∧ ∀ y, 0 ≤ y → zin (N b') y = true → zin (N a') y = true := by
            rintro a' b' ⟨j, j0, j1, rfl, rfl⟩
            exact ⟨(hW.2.2.1 j j0 j1).2.1.1, r2 j j0 j1⟩
          have cl : ∀ x' y', zDep ρ x' y' → 0 ≤ y' ∧ zin (N x') y' = true := by
            intro x' y' hd'
            have key : ∀ z, zDep ρ x' z → 0 ≤ z ∧ zin (N x') z = true ∧ ∀ y, 0 ≤ y → zin (N z) y = true → zin (N x') y = true := by
              intro z hz
              refine zDep_in (fun z => 0 ≤ z ∧ zin (N x') z = true ∧ ∀ y, 0 ≤ y → zin (N z) y = true → zin (N x') y = true) (fun z hz => step x' z hz) (fun a' z ha' hz => ?_) hz
              obtain ⟨s1, s2, s3⟩ := step a' z hz
              exact ⟨s1, ha'.2.2 z s1 s2, fun y y0 hy => ha'.2.2 y y0 (s3 y y0 hy)⟩
            exact ⟨(key y' hd').1, (key y' hd').2.1⟩
          exact (cl x y hdep).2
        · rw [if_neg hxn]
          refine zset_ext lx (by decide) (fun y y0 y1 => ?_)
          rw [zin_zero]
          cases c : zin (N1 x) y
          · rfl
          · have := zDep_rng hW (sx y y0 c); omega
  have outer : ∀ (fuel : Nat) (N : Int → Nat) (V1 : zV) (w2 w3 : Value), zFm [169] [] V V1 → (∀ x, 0 ≤ x → x < 12 → V1 169 x = zi (N x : Nat)) → zNok ρ N → 144 ≤ zTot N + fuel → zwp (zcall d) 180 Q (zB 180 3) [.ref 164, zi 1, w2, w3] [] (s, V1) := by
    intro fuel
    induction fuel with
    | zero =>
      intro N V1 w2 w3 f1 e1 hN hT
      refine pass N V1 w2 w3 f1 e1 hN (fun N' V' w2 w3 _ _ _ hlt => ?_)
      have := zTot_le N'
      omega
    | succ fuel ihF =>
      intro N V1 w2 w3 f1 e1 hN hT
      exact pass N V1 w2 w3 f1 e1 hN (fun N' V' w2 w3 y1 y2 y3 hlt => ihF N' V' w2 w3 y1 y2 y3 (by omega))
  have z0 : zTot (fun _ => 0) = 0 := by decide
  exact outer 144 (fun _ => 0) V1 zJ zJ f1 (fun x a b => e1 x a b) (fun x _ _ => ⟨by show (0 : Nat) < 4096; omega, fun y _ hy => by rw [zin_zero] at hy; cases hy⟩) (by omega)
set_option maxRecDepth 20000 in
theorem m_dependsOn (hd : 4 ≤ d) (hM : zMP s V) (hC : zMC ρ V) (hW : zWF ρ) {x y : Int} (x0 : 0 ≤ x) (x1 : x < ρ.n) (y0 : 0 ≤ y) (y1 : y < ρ.n) (hQ : ∀ V', zFm [169] [] V V' → Q (.inl (some (zi (if zin (zNeeds ρ x) y = true then 1 else 0)))) (s, V')) : zcall d 182 [.ref 164, zi x, zi y] (s, V) Q := by
  obtain ⟨n0, n1, c0, c1⟩ := hW.1
  have tM := hM.1
  have vm_needs : V 164 7 = .ref 169 := (hM.2 4 (by decide)).1
  have tm_needs : s.tg 169 = 20 := (hM.2 4 (by decide)).2.1
  have lm_needs : s.ln 169 = 12 := (hM.2 4 (by decide)).2.2
  obtain ⟨d, rfl⟩ : ∃ e, d = e + 1 := ⟨d - 1, by omega⟩
  simp (disch := first | assumption | omega) only [zc_182]
  simp (disch := first | assumption | exact zk_182 | ((repeat (first | exact z1n | refine z1I ?_ | refine z1R ?_)); done) | exact rfl | omega | decide) only [zb_182_0, r_aload_0, r_inv_1_0, r_inv_1_1, r_inv_1_2, r_inv_1_3, r_inv_1_4, r_K0, r_K1, r_gf_647, r_iload_1, r_ial, r_ial30, r_ial32, r_iload_2, r_ishr, r_iconst, r_iand, r_icmp_ne, r_goto, r_goto_w, r_iret, r_bret_0, r_bret_1, vm_needs, ↓reduceIte, not_true_eq_false, not_false_eq_true, Int.reduceEq, Int.reduceLE, Int.reduceLT, Int.reduceAdd, Int.reduceNeg, Int.reduceMul, Int.reduceSub, Int.reduceToNat]
  refine m_laysNeeds (by omega) hM hC hW (fun V1 f1 e1 => ?_)
  have g7 : V1 164 7 = .ref 169 := (f1.2 7 (by simp)).trans vm_needs
  have ex := e1 x x0 (by omega)
  have hl := zNeeds_lt hW x
  unfold zNds at ex
  rw [if_pos x1] at ex
  have hh := zhas (a := zNeeds ρ x) (x := y) (by omega) y0 (by omega)
  have := hQ V1 f1
  by_cases q : zin (zNeeds ρ x) y = true
  · rw [if_pos q] at hh this
    simp (disch := first | assumption | exact zk_182 | ((repeat (first | exact z1n | refine z1I ?_ | refine z1R ?_)); done) | exact rfl | omega | decide) only [zb_182_0, zb_182_1, zb_182_2, r_aload_0, r_inv_1_0, r_inv_1_1, r_inv_1_2, r_inv_1_3, r_inv_1_4, r_K0, r_K1, r_gf_647, r_iload_1, r_ial, r_ial30, r_ial32, r_iload_2, r_ishr, r_iconst, r_iand, r_icmp_ne, r_goto, r_goto_w, r_iret, r_bret_0, r_bret_1, vm_needs, g7, ex, hh, ↓reduceIte, not_true_eq_false, not_false_eq_true, Int.reduceEq, Int.reduceLE, Int.reduceLT, Int.reduceAdd, Int.reduceNeg, Int.reduceMul, Int.reduceSub, Int.reduceToNat]
    exact this
  · rw [if_neg q] at hh this
    simp (disch := first | assumption | exact zk_182 | ((repeat (first | exact z1n | refine z1I ?_ | refine z1R ?_)); done) | exact rfl | omega | decide) only [zb_182_0, zb_182_1, zb_182_2, r_aload_0, r_inv_1_0, r_inv_1_1, r_inv_1_2, r_inv_1_3, r_inv_1_4, r_K0, r_K1, r_gf_647, r_iload_1, r_ial, r_ial30, r_ial32, r_iload_2, r_ishr, r_iconst, r_iand, r_icmp_ne, r_goto, r_goto_w, r_iret, r_bret_0, r_bret_1, vm_needs, g7, ex, hh, ↓reduceIte, not_true_eq_false, not_false_eq_true, Int.reduceEq, Int.reduceLE, Int.reduceLT, Int.reduceAdd, Int.reduceNeg, Int.reduceMul, Int.reduceSub, Int.reduceToNat]
    exact this
end
