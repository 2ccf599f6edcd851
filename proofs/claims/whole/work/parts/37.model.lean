/-! MODEL, 2: chains, bounds, unsound calls -/
section
variable {d : Nat} {s : zS} {V : zV} {Q : zO → zH → Prop} {ρ : zR} {h : zH}
set_option maxRecDepth 20000 in
theorem m_laysLevels (hd : 5 ≤ d) (hM : zMP s V) (hC : zMC ρ V) (hW : zWF ρ) (hQ : ∀ V', zFm [169, 170, 171] [] V V' → (∀ y, 0 ≤ y → y < ρ.n → V' 171 y = zi (zChn ρ y)) → Q (.inl none) (s, V')) : zcall d 207 [.ref 164] (s, V) Q := by
  obtain ⟨n0, n1, c0, c1⟩ := hW.1
  have tM := hM.1
  have vm_s : V 164 0 = .ref 165 := (hM.2 0 (by decide)).1
  have tm_s : s.tg 165 = 20 := (hM.2 0 (by decide)).2.1
  have lm_s : s.ln 165 = 230 := (hM.2 0 (by decide)).2.2
  have vm_row : V 164 8 = .ref 170 := (hM.2 5 (by decide)).1
  have tm_row : s.tg 170 = 20 := (hM.2 5 (by decide)).2.1
  have lm_row : s.ln 170 = 12 := (hM.2 5 (by decide)).2.2
  have vm_chain : V 164 10 = .ref 171 := (hM.2 6 (by decide)).1
  have tm_chain : s.tg 171 = 20 := (hM.2 6 (by decide)).2.1
  have lm_chain : s.ln 171 = 12 := (hM.2 6 (by decide)).2.2
  obtain ⟨d, rfl⟩ : ∃ e, d = e + 1 := ⟨d - 1, by omega⟩
  simp (disch := first | assumption | omega) only [zc_207]
  simp (disch := first | assumption | exact zk_207 | ((repeat (first | exact z1n | refine z1I ?_ | refine z1R ?_)); done) | exact rfl | omega | decide) only [zb_207_0, r_aload_0, r_inv_1_0, r_inv_1_1, r_inv_1_2, r_inv_1_3, r_inv_1_4, r_K0, r_K1, r_iconst, r_istore_1i, r_istore_1r, r_istore_1j, r_goto_w, r_iload_1, r_gf_640, r_ial, r_ial30, r_ial32, r_icmp_ge, r_gf_648, r_istore_2i, r_istore_2r, r_istore_2j, r_gf_650, r_iload_2, r_iastore, r_istore_3i, r_istore_3r, r_istore_3j, r_iload_3, r_inv_2_0, r_inv_2_1, r_inv_2_2, r_inv_2_3, r_inv_2_4, r_icmp_ne, r_iadd, r_goto, r_istore_4i, r_istore_4r, r_istore_4j, r_iload_4, r_icmp_le, r_iinc_3i, r_iinc_3r, r_iinc_3j, r_iinc_1i, r_iinc_1r, r_iinc_1j, r_ret, vm_s, vm_row, vm_chain, ↓reduceIte, not_true_eq_false, not_false_eq_true, Int.reduceEq, Int.reduceLE, Int.reduceLT, Int.reduceAdd, Int.reduceNeg, Int.reduceMul, Int.reduceSub, Int.reduceToNat]
  refine m_laysOrder (by omega) hM hC hW (fun V1 f1 e1 o1 => ?_)
  simp (disch := first | assumption | exact zk_207 | ((repeat (first | exact z1n | refine z1I ?_ | refine z1R ?_)); done) | exact rfl | omega | decide) only [r_aload_0, r_inv_1_0, r_inv_1_1, r_inv_1_2, r_inv_1_3, r_inv_1_4, r_K0, r_K1, r_iconst, r_istore_1i, r_istore_1r, r_istore_1j, r_goto_w, r_iload_1, r_gf_640, r_ial, r_ial30, r_ial32, r_icmp_ge, r_gf_648, r_istore_2i, r_istore_2r, r_istore_2j, r_gf_650, r_iload_2, r_iastore, r_istore_3i, r_istore_3r, r_istore_3j, r_iload_3, r_inv_2_0, r_inv_2_1, r_inv_2_2, r_inv_2_3, r_inv_2_4, r_icmp_ne, r_iadd, r_goto, r_istore_4i, r_istore_4r, r_istore_4j, r_iload_4, r_icmp_le, r_iinc_3i, r_iinc_3r, r_iinc_3j, r_iinc_1i, r_iinc_1r, r_iinc_1j, r_ret, vm_s, vm_row, vm_chain, ↓reduceIte, not_true_eq_false, not_false_eq_true, Int.reduceEq, Int.reduceLE, Int.reduceLT, Int.reduceAdd, Int.reduceNeg, Int.reduceMul, Int.reduceSub, Int.reduceToNat]
  have f1' : zFm [169, 170, 171] [] V V1 := f1.mono (fun r hr => by simp at hr; simp; omega) (fun _ h => h)
  have hx := z_iter (i := 0) (n := ρ.n) (I := fun k (q : zV × Value × Value × Value) => zFm [169, 170, 171] [] V q.1 ∧ (∀ k, 0 ≤ k → k < ρ.n → q.1 170 k = zi (zPlc ρ k)) ∧ ∀ y, 0 ≤ y → zin (zDone ρ k.toNat) y = true → q.1 171 y = zi (zAlo ρ (zChO ρ) k.toNat y)) (P := fun k q => zwp (zcall d) 207 Q (zB 207 1) [.ref 164, zi k, q.2.1, q.2.2.1, q.2.2.2] [] (s, q.1)) n0
  refine hx ?_ ?_ (V1, zJ, zJ, zJ) ⟨f1', o1, fun y _ hy => by rw [show zDone ρ (0 : Int).toNat = 0 from rfl, zin_zero] at hy; cases hy⟩
  · rintro k ⟨V2, w2, w3, w4⟩ k0 k1 ⟨f2, o2, e2⟩ ih
    dsimp only at f2 o2 e2 ih ⊢
    obtain ⟨⟨x0, x1⟩, x2, x3, x4⟩ := zPlc_ok hW k0 k1
    have g0 : V2 164 0 = .ref 165 := (f2.2 0 (by simp)).trans vm_s
    have g8 : V2 164 8 = .ref 170 := (f2.2 8 (by simp)).trans vm_row
    have g10 : V2 164 10 = .ref 171 := (f2.2 10 (by simp)).trans vm_chain
    have gn : V2 165 0 = zi ρ.n := (hC.fm f2 (by decide)).1
    have gk := o2 k k0 k1
    have hA : ∀ y, 0 ≤ zAlo ρ (zChO ρ) k.toNat y ∧ zAlo ρ (zChO ρ) k.toNat y ≤ 1000 := fun y => by
      have := zChK_rng (ρ := ρ) k.toNat y
      have := this.2 c0
      omega
    generalize hAd : zAlo ρ (zChO ρ) k.toNat = A at hA e2
    have hcee : zCee ρ V2 171 A (zPlc ρ k) := zCee_plc hW k0 k1 e2
    have hself : ∀ j, 0 ≤ j → j < ρ.c → ρ.K 0 j = zPlc ρ k → ρ.K 1 j ≠ zPlc ρ k := fun j j0 j1 hj hj2 => hW.2.2.2.1 (zPlc ρ k) (Relation.TransGen.single ⟨j, j0, j1, hj, hj2⟩)
    generalize hxd : zPlc ρ k = x at x0 x1 x2 x3 x4 gk hcee hself
    conv => rw [zb_207_1]
    simp (disch := first | assumption | exact zk_207 | ((repeat (first | exact z1n | refine z1I ?_ | refine z1R ?_)); done) | exact rfl | omega | decide) only [r_aload_0, r_inv_1_0, r_inv_1_1, r_inv_1_2, r_inv_1_3, r_inv_1_4, r_K0, r_K1, r_iconst, r_istore_1i, r_istore_1r, r_istore_1j, r_goto_w, r_iload_1, r_gf_640, r_ial, r_ial30, r_ial32, r_icmp_ge, r_gf_648, r_istore_2i, r_istore_2r, r_istore_2j, r_gf_650, r_iload_2, r_iastore, r_istore_3i, r_istore_3r, r_istore_3j, r_iload_3, r_inv_2_0, r_inv_2_1, r_inv_2_2, r_inv_2_3, r_inv_2_4, r_icmp_ne, r_iadd, r_goto, r_istore_4i, r_istore_4r, r_istore_4j, r_iload_4, r_icmp_le, r_iinc_3i, r_iinc_3r, r_iinc_3j, r_iinc_1i, r_iinc_1r, r_iinc_1j, r_ret, vm_s, vm_row, vm_chain, g0, gn, g8, g10, gk, ↓reduceIte, not_true_eq_false, not_false_eq_true, Int.reduceEq, Int.reduceLE, Int.reduceLT, Int.reduceAdd, Int.reduceNeg, Int.reduceMul, Int.reduceSub, Int.reduceToNat]
    rw [if_neg (by omega : ¬ ρ.n ≤ k)]
    have hin := z_iter (i := 0) (n := ρ.c) (I := fun j (q : zV × Value) => zFm [171] [] V2 q.1 ∧ (∀ y, y ≠ x → q.1 171 y = V2 171 y) ∧ q.1 171 x = zi (zfo (fun c m => if ρ.K 0 c = x then (if m < A (ρ.K 1 c) + 1 then A (ρ.K 1 c) + 1 else m) else m) 0 j)) (P := fun j q => zwp (zcall d) 207 Q (zB 207 2) [.ref 164, zi k, zi x, zi j, q.2] [] (s, q.1)) c0
    refine hin ?_ ?_ (zput V2 171 x (zi 0), w4) ⟨zFm.rf.pr (by simp) (by omega), fun y hy => zput_i hy, zput_at⟩
    · rintro j ⟨V3, w4⟩ j0 j1 ⟨f3, o3, e3⟩ ih2
      dsimp only at f3 o3 e3 ih2 ⊢
      have hM3 : zMP s V3 := (hM.fm f2 (fun _ _ => by simp)).fm f3 (fun _ _ => by simp)
      have hC : zMC ρ V3 := (hC.fm f2 (by decide)).fm f3 (by decide)
      have g0 : V3 164 0 = .ref 165 := (f3.2 0 (by simp)).trans g0
      have g10 : V3 164 10 = .ref 171 := (f3.2 10 (by simp)).trans g10
      have gc : V3 165 1 = zi ρ.c := hC.2.1
      have w := hW.2.2.1 j j0 j1
      have ha := hA (ρ.K 1 j)
      have hr := zfo_inv (f := fun c m => if ρ.K 0 c = x then (if m < A (ρ.K 1 c) + 1 then A (ρ.K 1 c) + 1 else m) else m) (x := (0 : Int)) (k := j) (fun _ m => 0 ≤ m ∧ m ≤ 1001) ⟨by omega, by omega⟩ (fun j y h1 h2 hy => by have := hA (ρ.K 1 j); split; (split <;> omega); exact hy) j0
      have hs := zfo_s (f := fun c m => if ρ.K 0 c = x then (if m < A (ρ.K 1 c) + 1 then A (ρ.K 1 c) + 1 else m) else m) (x := (0 : Int)) j0
      generalize zfo (fun c m => if ρ.K 0 c = x then (if m < A (ρ.K 1 c) + 1 then A (ρ.K 1 c) + 1 else m) else m) 0 j = m at hr hs e3
      have fin : ∀ (its : Int) (v : Int), (if ρ.K 0 j = x then (if m < A (ρ.K 1 j) + 1 then A (ρ.K 1 j) + 1 else m) else m) = v → zwp (zcall d) 207 Q (zB 207 2) [.ref 164, zi k, zi x, zi (j + 1), zi its] [] (s, zput V3 171 x (zi v)) := fun its v hv => ih2 (zput V3 171 x (zi v), zi its) ⟨f3.pr (by simp) (by omega), fun y hy => (zput_i hy).trans (o3 y hy), by rw [hs, hv]; exact zput_at⟩
      conv => rw [zb_207_2]
      by_cases q : ρ.K 0 j = x
      · have hk : V3 171 (ρ.K 1 j) = zi (A (ρ.K 1 j)) := by rw [o3 _ (hself j j0 j1 q)]; exact hcee j j0 j1 q
        have := fin (A (ρ.K 1 j) + 1) _ rfl
        rw [if_pos q] at this
        simp (disch := first | assumption | exact zk_207 | ((repeat (first | exact z1n | refine z1I ?_ | refine z1R ?_)); done) | exact rfl | omega | decide) only [zb_207_3, zb_207_4, zb_207_5, zb_207_6, r_aload_0, r_inv_1_0, r_inv_1_1, r_inv_1_2, r_inv_1_3, r_inv_1_4, r_K0, r_K1, r_iconst, r_istore_1i, r_istore_1r, r_istore_1j, r_goto_w, r_iload_1, r_gf_640, r_ial, r_ial30, r_ial32, r_icmp_ge, r_gf_648, r_istore_2i, r_istore_2r, r_istore_2j, r_gf_650, r_iload_2, r_iastore, r_istore_3i, r_istore_3r, r_istore_3j, r_iload_3, r_inv_2_0, r_inv_2_1, r_inv_2_2, r_inv_2_3, r_inv_2_4, r_icmp_ne, r_iadd, r_goto, r_istore_4i, r_istore_4r, r_istore_4j, r_iload_4, r_icmp_le, r_iinc_3i, r_iinc_3r, r_iinc_3j, r_iinc_1i, r_iinc_1r, r_iinc_1j, r_ret, vm_s, vm_row, vm_chain, m_caller (hC := hC), m_callee (hC := hC), g0, g10, gc, q, hk, e3, ↓reduceIte, not_true_eq_false, not_false_eq_true, Int.reduceEq, Int.reduceLE, Int.reduceLT, Int.reduceAdd, Int.reduceNeg, Int.reduceMul, Int.reduceSub, Int.reduceToNat]
        rw [if_neg (by omega)]
        by_cases q2 : m < A (ρ.K 1 j) + 1
        · rw [if_neg (by omega)]
          rw [if_pos q2] at this
          exact this
        · rw [if_pos (by omega)]
          rw [if_neg q2] at this
          exact this
      · have := fin 0 _ rfl
        rw [if_neg q] at this
        simp (disch := first | assumption | exact zk_207 | ((repeat (first | exact z1n | refine z1I ?_ | refine z1R ?_)); done) | exact rfl | omega | decide) only [zb_207_3, zb_207_4, zb_207_5, zb_207_6, r_aload_0, r_inv_1_0, r_inv_1_1, r_inv_1_2, r_inv_1_3, r_inv_1_4, r_K0, r_K1, r_iconst, r_istore_1i, r_istore_1r, r_istore_1j, r_goto_w, r_iload_1, r_gf_640, r_ial, r_ial30, r_ial32, r_icmp_ge, r_gf_648, r_istore_2i, r_istore_2r, r_istore_2j, r_gf_650, r_iload_2, r_iastore, r_istore_3i, r_istore_3r, r_istore_3j, r_iload_3, r_inv_2_0, r_inv_2_1, r_inv_2_2, r_inv_2_3, r_inv_2_4, r_icmp_ne, r_iadd, r_goto, r_istore_4i, r_istore_4r, r_istore_4j, r_iload_4, r_icmp_le, r_iinc_3i, r_iinc_3r, r_iinc_3j, r_iinc_1i, r_iinc_1r, r_iinc_1j, r_ret, vm_s, vm_row, vm_chain, m_caller (hC := hC), m_callee (hC := hC), g0, g10, gc, q, e3, ↓reduceIte, not_true_eq_false, not_false_eq_true, Int.reduceEq, Int.reduceLE, Int.reduceLT, Int.reduceAdd, Int.reduceNeg, Int.reduceMul, Int.reduceSub, Int.reduceToNat]
        rw [if_neg (by omega), if_pos (by omega)]
        exact this
    · rintro ⟨V3, w4⟩ ⟨f3, o3, e3⟩
      dsimp only at f3 o3 e3 ⊢
      have hC : zMC ρ V3 := (hC.fm f2 (by decide)).fm f3 (by decide)
      have g0 : V3 164 0 = .ref 165 := (f3.2 0 (by simp)).trans g0
      have gc : V3 165 1 = zi ρ.c := hC.2.1
      simp (disch := first | assumption | exact zk_207 | ((repeat (first | exact z1n | refine z1I ?_ | refine z1R ?_)); done) | exact rfl | omega | decide) only [zb_207_2, zb_207_7, r_aload_0, r_inv_1_0, r_inv_1_1, r_inv_1_2, r_inv_1_3, r_inv_1_4, r_K0, r_K1, r_iconst, r_istore_1i, r_istore_1r, r_istore_1j, r_goto_w, r_iload_1, r_gf_640, r_ial, r_ial30, r_ial32, r_icmp_ge, r_gf_648, r_istore_2i, r_istore_2r, r_istore_2j, r_gf_650, r_iload_2, r_iastore, r_istore_3i, r_istore_3r, r_istore_3j, r_iload_3, r_inv_2_0, r_inv_2_1, r_inv_2_2, r_inv_2_3, r_inv_2_4, r_icmp_ne, r_iadd, r_goto, r_istore_4i, r_istore_4r, r_istore_4j, r_iload_4, r_icmp_le, r_iinc_3i, r_iinc_3r, r_iinc_3j, r_iinc_1i, r_iinc_1r, r_iinc_1j, r_ret, vm_s, vm_row, vm_chain, g0, gc, Int.le_refl, ↓reduceIte, not_true_eq_false, not_false_eq_true, Int.reduceEq, Int.reduceLE, Int.reduceLT, Int.reduceAdd, Int.reduceNeg, Int.reduceMul, Int.reduceSub, Int.reduceToNat]
      refine ih (V3, zi x, zi ρ.c, w4) ⟨f2.tr (f3.mono (fun r hr => by simp at hr; simp; omega) (fun _ h => h)), fun j j0 j1 => ?_, fun y y0 hy => ?_⟩
      · show V3 170 j = _
        rw [f3.1 170 (by omega) (by simp)]
        exact o2 j j0 j1
      · show V3 171 y = _
        rw [zAlo_done hW k0 k1 y0 hy, hAd, hxd]
        by_cases q : y = x
        · rw [if_pos q, q, e3]
          rfl
        · rw [if_neg q, o3 y q]
          exact e2 y y0 (zDone_s hW k0 k1 y0 hy (by rw [hxd]; exact q))
  · rintro ⟨V2, w2, w3, w4⟩ ⟨f2, o2, e2⟩
    dsimp only at f2 o2 e2 ⊢
    have g0 : V2 164 0 = .ref 165 := (f2.2 0 (by simp)).trans vm_s
    have gn : V2 165 0 = zi ρ.n := (hC.fm f2 (by decide)).1
    simp (disch := first | assumption | exact zk_207 | ((repeat (first | exact z1n | refine z1I ?_ | refine z1R ?_)); done) | exact rfl | omega | decide) only [zb_207_1, zb_207_8, r_aload_0, r_inv_1_0, r_inv_1_1, r_inv_1_2, r_inv_1_3, r_inv_1_4, r_K0, r_K1, r_iconst, r_istore_1i, r_istore_1r, r_istore_1j, r_goto_w, r_iload_1, r_gf_640, r_ial, r_ial30, r_ial32, r_icmp_ge, r_gf_648, r_istore_2i, r_istore_2r, r_istore_2j, r_gf_650, r_iload_2, r_iastore, r_istore_3i, r_istore_3r, r_istore_3j, r_iload_3, r_inv_2_0, r_inv_2_1, r_inv_2_2, r_inv_2_3, r_inv_2_4, r_icmp_ne, r_iadd, r_goto, r_istore_4i, r_istore_4r, r_istore_4j, r_iload_4, r_icmp_le, r_iinc_3i, r_iinc_3r, r_iinc_3j, r_iinc_1i, r_iinc_1r, r_iinc_1j, r_ret, vm_s, vm_row, vm_chain, g0, gn, Int.le_refl, ↓reduceIte, not_true_eq_false, not_false_eq_true, Int.reduceEq, Int.reduceLE, Int.reduceLT, Int.reduceAdd, Int.reduceNeg, Int.reduceMul, Int.reduceSub, Int.reduceToNat]
    exact hQ V2 f2 (fun y y0 y1 => e2 y y0 (zDone_all hW y0 y1))
set_option maxRecDepth 20000 in
theorem m_bounds (hd : 3 ≤ d) (hM : zMP s V) (hC : zMC ρ V) (hW : zWF ρ) {x : Int} (x0 : 0 ≤ x) (x1 : x < ρ.n) {A : Int → Int} (hA : ∀ y, 0 ≤ A y ∧ A y ≤ 100000) (hv : zCee ρ V 186 A x) : zcall d 223 [.ref 164, zi x] (s, V) Q = Q (.inl none) (s, zput V 186 x (zi (zBnO ρ A x))) := by
  obtain ⟨n0, n1, c0, c1⟩ := hW.1
  have tM := hM.1
  have vm_s : V 164 0 = .ref 165 := (hM.2 0 (by decide)).1
  have tm_s : s.tg 165 = 20 := (hM.2 0 (by decide)).2.1
  have lm_s : s.ln 165 = 230 := (hM.2 0 (by decide)).2.2
  have vm_bound : V 164 35 = .ref 186 := (hM.2 21 (by decide)).1
  have tm_bound : s.tg 186 = 20 := (hM.2 21 (by decide)).2.1
  have lm_bound : s.ln 186 = 12 := (hM.2 21 (by decide)).2.2
  have gc := hC.2.1
  obtain ⟨d, rfl⟩ : ∃ e, d = e + 1 := ⟨d - 1, by omega⟩
  simp (disch := first | assumption | omega) only [zc_223]
  have hown : zdiv (ρ.S 0 x * ρ.S 1 x + 99) 100 = zOwn ρ x := rfl
  simp (disch := first | assumption | exact zk_223 | ((repeat (first | exact z1n | refine z1I ?_ | refine z1R ?_)); done) | exact rfl | omega | decide) only [zb_223_0, r_aload_0, r_iload_1, r_inv_2_0, r_inv_2_1, r_inv_2_2, r_inv_2_3, r_inv_2_4, r_K0, r_K1, r_istore_2i, r_istore_2r, r_istore_2j, r_iconst, r_istore_3i, r_istore_3r, r_istore_3j, r_goto_w, r_iload_3, r_gf_640, r_ial, r_ial30, r_ial32, r_icmp_ge, r_icmp_ne, r_inv_3_0, r_inv_3_1, r_inv_3_2, r_inv_3_3, r_inv_3_4, r_istore_4i, r_istore_4r, r_istore_4j, r_iload_2, r_iload_4, r_gf_675, r_goto, r_imul, r_iadd, r_iinc_3i, r_iinc_3r, r_iinc_3j, r_iastore, r_ret, vm_s, vm_bound, m_own (hC := hC), hown, ↓reduceIte, not_true_eq_false, not_false_eq_true, Int.reduceEq, Int.reduceLE, Int.reduceLT, Int.reduceAdd, Int.reduceNeg, Int.reduceMul, Int.reduceSub, Int.reduceToNat]
  have hloop := z_iter (i := 0) (n := ρ.c) (I := fun _ (q : Value) => (q = zJ ∨ ∃ y, q = zi y)) (P := fun k q => zwp (zcall d) 223 Q (zB 223 1) [.ref 164, zi x, zi (zBnS ρ A x k), zi k, q] [] (s, V) = Q (.inl none) (s, zput V 186 x (zi (zBnO ρ A x)))) c0
  refine hloop ?_ ?_ zJ (Or.inl rfl)
  · rintro k w4 k0 k1 hw ih
    have w := hW.2.2.1 k k0 k1
    have ha := hA (ρ.K 1 k)
    have hs : zBnS ρ A x (k + 1) = if ρ.K 0 k = x then zBnS ρ A x k + ρ.K 3 k * (if ρ.K 2 k < A (ρ.K 1 k) then ρ.K 2 k else A (ρ.K 1 k)) else zBnS ρ A x k := zfo_s k0
    conv => lhs; rw [zb_223_1]
    by_cases q : ρ.K 0 k = x
    · have hk := hv k k0 k1 q
      simp (disch := first | assumption | exact zk_223 | ((repeat (first | exact z1n | refine z1I ?_ | refine z1R ?_)); done) | exact rfl | omega | decide) only [zb_223_2, zb_223_3, zb_223_4, r_aload_0, r_iload_1, r_inv_2_0, r_inv_2_1, r_inv_2_2, r_inv_2_3, r_inv_2_4, r_K0, r_K1, r_istore_2i, r_istore_2r, r_istore_2j, r_iconst, r_istore_3i, r_istore_3r, r_istore_3j, r_goto_w, r_iload_3, r_gf_640, r_ial, r_ial30, r_ial32, r_icmp_ge, r_icmp_ne, r_inv_3_0, r_inv_3_1, r_inv_3_2, r_inv_3_3, r_inv_3_4, r_istore_4i, r_istore_4r, r_istore_4j, r_iload_2, r_iload_4, r_gf_675, r_goto, r_imul, r_iadd, r_iinc_3i, r_iinc_3r, r_iinc_3j, r_iastore, r_ret, vm_s, vm_bound, m_caller (hC := hC), m_callee (hC := hC), m_callOf (hC := hC), gc, q, hk, ↓reduceIte, not_true_eq_false, not_false_eq_true, Int.reduceEq, Int.reduceLE, Int.reduceLT, Int.reduceAdd, Int.reduceNeg, Int.reduceMul, Int.reduceSub, Int.reduceToNat]
      rw [if_neg (by omega)]
      rw [if_pos q] at hs
      have := ih (zi (ρ.K 2 k)) (Or.inr ⟨_, rfl⟩)
      rw [hs] at this
      by_cases q2 : ρ.K 2 k < A (ρ.K 1 k)
      · rw [if_neg (by omega)]
        rw [if_pos q2] at this
        exact this
      · rw [if_pos (by omega)]
        rw [if_neg q2] at this
        exact this
    · simp (disch := first | assumption | exact zk_223 | ((repeat (first | exact z1n | refine z1I ?_ | refine z1R ?_)); done) | exact rfl | omega | decide) only [zb_223_2, zb_223_3, zb_223_4, r_aload_0, r_iload_1, r_inv_2_0, r_inv_2_1, r_inv_2_2, r_inv_2_3, r_inv_2_4, r_K0, r_K1, r_istore_2i, r_istore_2r, r_istore_2j, r_iconst, r_istore_3i, r_istore_3r, r_istore_3j, r_goto_w, r_iload_3, r_gf_640, r_ial, r_ial30, r_ial32, r_icmp_ge, r_icmp_ne, r_inv_3_0, r_inv_3_1, r_inv_3_2, r_inv_3_3, r_inv_3_4, r_istore_4i, r_istore_4r, r_istore_4j, r_iload_2, r_iload_4, r_gf_675, r_goto, r_imul, r_iadd, r_iinc_3i, r_iinc_3r, r_iinc_3j, r_iastore, r_ret, vm_s, vm_bound, m_caller (hC := hC), m_callee (hC := hC), m_callOf (hC := hC), gc, q, ↓reduceIte, not_true_eq_false, not_false_eq_true, Int.reduceEq, Int.reduceLE, Int.reduceLT, Int.reduceAdd, Int.reduceNeg, Int.reduceMul, Int.reduceSub, Int.reduceToNat]
      rw [if_neg (by omega)]
      rw [if_neg q] at hs
      have := ih w4 hw
      rw [hs] at this
      exact this
  · rintro w4 -
    have hr := zBnS_rng hW hA x0 x1 c0 (Int.le_refl _)
    unfold zBnO
    simp (disch := first | assumption | exact zk_223 | ((repeat (first | exact z1n | refine z1I ?_ | refine z1R ?_)); done) | exact rfl | omega | decide) only [zb_223_1, zb_223_5, zb_223_6, zb_223_7, r_aload_0, r_iload_1, r_inv_2_0, r_inv_2_1, r_inv_2_2, r_inv_2_3, r_inv_2_4, r_K0, r_K1, r_istore_2i, r_istore_2r, r_istore_2j, r_iconst, r_istore_3i, r_istore_3r, r_istore_3j, r_goto_w, r_iload_3, r_gf_640, r_ial, r_ial30, r_ial32, r_icmp_ge, r_icmp_ne, r_inv_3_0, r_inv_3_1, r_inv_3_2, r_inv_3_3, r_inv_3_4, r_istore_4i, r_istore_4r, r_istore_4j, r_iload_2, r_iload_4, r_gf_675, r_goto, r_imul, r_iadd, r_iinc_3i, r_iinc_3r, r_iinc_3j, r_iastore, r_ret, vm_s, vm_bound, gc, Int.le_refl, ↓reduceIte, not_true_eq_false, not_false_eq_true, Int.reduceEq, Int.reduceLE, Int.reduceLT, Int.reduceAdd, Int.reduceNeg, Int.reduceMul, Int.reduceSub, Int.reduceToNat]
    by_cases q : zBnS ρ A x ρ.c < 100000
    · rw [if_neg (by omega), if_pos q]
    · rw [if_pos (by omega), if_neg q]
set_option maxRecDepth 20000 in
theorem m_laysBounds (hd : 5 ≤ d) (hM : zMP s V) (hC : zMC ρ V) (hW : zWF ρ) (hQ : ∀ V', zFm [169, 170, 186] [] V V' → (∀ y, 0 ≤ y → y < ρ.n → V' 186 y = zi (zBnd ρ y)) → Q (.inl none) (s, V')) : zcall d 224 [.ref 164] (s, V) Q := by
  obtain ⟨n0, n1, c0, c1⟩ := hW.1
  have tM := hM.1
  have vm_s : V 164 0 = .ref 165 := (hM.2 0 (by decide)).1
  have tm_s : s.tg 165 = 20 := (hM.2 0 (by decide)).2.1
  have lm_s : s.ln 165 = 230 := (hM.2 0 (by decide)).2.2
  have vm_row : V 164 8 = .ref 170 := (hM.2 5 (by decide)).1
  have tm_row : s.tg 170 = 20 := (hM.2 5 (by decide)).2.1
  have lm_row : s.ln 170 = 12 := (hM.2 5 (by decide)).2.2
  have vm_bound : V 164 35 = .ref 186 := (hM.2 21 (by decide)).1
  have tm_bound : s.tg 186 = 20 := (hM.2 21 (by decide)).2.1
  have lm_bound : s.ln 186 = 12 := (hM.2 21 (by decide)).2.2
  obtain ⟨d, rfl⟩ : ∃ e, d = e + 1 := ⟨d - 1, by omega⟩
  simp (disch := first | assumption | omega) only [zc_224]
  simp (disch := first | assumption | exact zk_224 | ((repeat (first | exact z1n | refine z1I ?_ | refine z1R ?_)); done) | exact rfl | omega | decide) only [zb_224_0, r_aload_0, r_inv_1_0, r_inv_1_1, r_inv_1_2, r_inv_1_3, r_inv_1_4, r_K0, r_K1, r_iconst, r_istore_1i, r_istore_1r, r_istore_1j, r_goto_w, r_iload_1, r_gf_640, r_ial, r_ial30, r_ial32, r_icmp_ge, r_gf_648, r_inv_2_0, r_inv_2_1, r_inv_2_2, r_inv_2_3, r_inv_2_4, r_iinc_1i, r_iinc_1r, r_iinc_1j, r_goto, r_ret, vm_s, vm_row, vm_bound, ↓reduceIte, not_true_eq_false, not_false_eq_true, Int.reduceEq, Int.reduceLE, Int.reduceLT, Int.reduceAdd, Int.reduceNeg, Int.reduceMul, Int.reduceSub, Int.reduceToNat]
  refine m_laysOrder (by omega) hM hC hW (fun V1 f1 e1 o1 => ?_)
  simp (disch := first | assumption | exact zk_224 | ((repeat (first | exact z1n | refine z1I ?_ | refine z1R ?_)); done) | exact rfl | omega | decide) only [r_aload_0, r_inv_1_0, r_inv_1_1, r_inv_1_2, r_inv_1_3, r_inv_1_4, r_K0, r_K1, r_iconst, r_istore_1i, r_istore_1r, r_istore_1j, r_goto_w, r_iload_1, r_gf_640, r_ial, r_ial30, r_ial32, r_icmp_ge, r_gf_648, r_inv_2_0, r_inv_2_1, r_inv_2_2, r_inv_2_3, r_inv_2_4, r_iinc_1i, r_iinc_1r, r_iinc_1j, r_goto, r_ret, vm_s, vm_row, vm_bound, ↓reduceIte, not_true_eq_false, not_false_eq_true, Int.reduceEq, Int.reduceLE, Int.reduceLT, Int.reduceAdd, Int.reduceNeg, Int.reduceMul, Int.reduceSub, Int.reduceToNat]
  have f1' : zFm [169, 170, 186] [] V V1 := f1.mono (fun r hr => by simp at hr; simp; omega) (fun _ h => h)
  have hx := z_iter (i := 0) (n := ρ.n) (I := fun k (q : zV) => zFm [169, 170, 186] [] V q ∧ (∀ k, 0 ≤ k → k < ρ.n → q 170 k = zi (zPlc ρ k)) ∧ ∀ y, 0 ≤ y → zin (zDone ρ k.toNat) y = true → q 186 y = zi (zAlo ρ (zBnO ρ) k.toNat y)) (P := fun k q => zwp (zcall d) 224 Q (zB 224 1) [.ref 164, zi k] [] (s, q)) n0
  refine hx ?_ ?_ V1 ⟨f1', o1, fun y _ hy => by rw [show zDone ρ (0 : Int).toNat = 0 from rfl, zin_zero] at hy; cases hy⟩
  · rintro k V2 k0 k1 ⟨f2, o2, e2⟩ ih
    obtain ⟨⟨x0, x1⟩, x2, x3, x4⟩ := zPlc_ok hW k0 k1
    have hM2 := hM.fm f2 (fun _ _ => by simp)
    have hC2 := hC.fm f2 (by decide)
    have g0 : V2 164 0 = .ref 165 := (f2.2 0 (by simp)).trans vm_s
    have g8 : V2 164 8 = .ref 170 := (f2.2 8 (by simp)).trans vm_row
    have gn : V2 165 0 = zi ρ.n := hC2.1
    have gk := o2 k k0 k1
    have hA := zBnK_rng hW k.toNat (by omega)
    have hcee := zCee_plc hW k0 k1 e2
    conv => rw [zb_224_1]
    simp (disch := first | assumption | omega) only [r_iload_1, r_aload_0, r_gf_640, r_gf_648, r_iconst, g0, g8, gn, gk, r_ial, r_icmp_ge]
    rw [if_neg (by omega : ¬ ρ.n ≤ k), r_inv_2_0 (z1I (z1R z1n)), m_bounds (d := d) (by omega) hM2 hC2 hW x0 x1 hA hcee]
    simp (disch := first | assumption | exact zk_224 | ((repeat (first | exact z1n | refine z1I ?_ | refine z1R ?_)); done) | exact rfl | omega | decide) only [r_aload_0, r_inv_1_0, r_inv_1_1, r_inv_1_2, r_inv_1_3, r_inv_1_4, r_K0, r_K1, r_iconst, r_istore_1i, r_istore_1r, r_istore_1j, r_goto_w, r_iload_1, r_gf_640, r_ial, r_ial30, r_ial32, r_icmp_ge, r_gf_648, r_inv_2_0, r_inv_2_1, r_inv_2_2, r_inv_2_3, r_inv_2_4, r_iinc_1i, r_iinc_1r, r_iinc_1j, r_goto, r_ret, vm_s, vm_row, vm_bound, ↓reduceIte, not_true_eq_false, not_false_eq_true, Int.reduceEq, Int.reduceLE, Int.reduceLT, Int.reduceAdd, Int.reduceNeg, Int.reduceMul, Int.reduceSub, Int.reduceToNat]
    refine ih _ ⟨f2.pr (by simp) (by omega), fun j j0 j1 => (zput_r (by omega)).trans (o2 j j0 j1), fun y y0 hy => ?_⟩
    rw [zAlo_done hW k0 k1 y0 hy]
    by_cases q : y = zPlc ρ k
    · rw [if_pos q, q, zput_at]
    · rw [if_neg q, zput_i q]
      exact e2 y y0 (zDone_s hW k0 k1 y0 hy q)
  · rintro V2 ⟨f2, o2, e2⟩
    have g0 : V2 164 0 = .ref 165 := (f2.2 0 (by simp)).trans vm_s
    have gn : V2 165 0 = zi ρ.n := (hC.fm f2 (by decide)).1
    simp (disch := first | assumption | exact zk_224 | ((repeat (first | exact z1n | refine z1I ?_ | refine z1R ?_)); done) | exact rfl | omega | decide) only [zb_224_1, zb_224_2, r_aload_0, r_inv_1_0, r_inv_1_1, r_inv_1_2, r_inv_1_3, r_inv_1_4, r_K0, r_K1, r_iconst, r_istore_1i, r_istore_1r, r_istore_1j, r_goto_w, r_iload_1, r_gf_640, r_ial, r_ial30, r_ial32, r_icmp_ge, r_gf_648, r_inv_2_0, r_inv_2_1, r_inv_2_2, r_inv_2_3, r_inv_2_4, r_iinc_1i, r_iinc_1r, r_iinc_1j, r_goto, r_ret, vm_s, vm_row, vm_bound, g0, gn, Int.le_refl, ↓reduceIte, not_true_eq_false, not_false_eq_true, Int.reduceEq, Int.reduceLE, Int.reduceLT, Int.reduceAdd, Int.reduceNeg, Int.reduceMul, Int.reduceSub, Int.reduceToNat]
    exact hQ V2 f2 (fun y y0 y1 => e2 y y0 (zDone_all hW y0 y1))
set_option maxRecDepth 20000 in
theorem m_unsoundMany (hd : 6 ≤ d) (hM : zMP s V) (hC : zMC ρ V) (hW : zWF ρ) (hQ : ∀ V', zFm [169, 170, 186] [] V V' → (∀ y, 0 ≤ y → y < ρ.n → V' 186 y = zi (zBnd ρ y)) → Q (.inl (some (zi (zUns ρ)))) (s, V')) : zcall d 226 [.ref 164] (s, V) Q := by
  obtain ⟨n0, n1, c0, c1⟩ := hW.1
  have tM := hM.1
  have vm_s : V 164 0 = .ref 165 := (hM.2 0 (by decide)).1
  have tm_s : s.tg 165 = 20 := (hM.2 0 (by decide)).2.1
  have lm_s : s.ln 165 = 230 := (hM.2 0 (by decide)).2.2
  have vm_bound : V 164 35 = .ref 186 := (hM.2 21 (by decide)).1
  have tm_bound : s.tg 186 = 20 := (hM.2 21 (by decide)).2.1
  have lm_bound : s.ln 186 = 12 := (hM.2 21 (by decide)).2.2
  obtain ⟨d, rfl⟩ : ∃ e, d = e + 1 := ⟨d - 1, by omega⟩
  simp (disch := first | assumption | omega) only [zc_226]
  simp (disch := first | assumption | exact zk_226 | ((repeat (first | exact z1n | refine z1I ?_ | refine z1R ?_)); done) | exact rfl | omega | decide) only [zb_226_0, r_aload_0, r_inv_1_0, r_inv_1_1, r_inv_1_2, r_inv_1_3, r_inv_1_4, r_K0, r_K1, r_iconst, r_istore_1i, r_istore_1r, r_istore_1j, r_istore_2i, r_istore_2r, r_istore_2j, r_goto_w, r_iload_2, r_gf_640, r_ial, r_ial30, r_ial32, r_icmp_ge, r_iload_1, r_inv_3_0, r_inv_3_1, r_inv_3_2, r_inv_3_3, r_inv_3_4, r_gf_675, r_inv_2_0, r_inv_2_1, r_inv_2_2, r_inv_2_3, r_inv_2_4, r_goto, r_iadd, r_iinc_2i, r_iinc_2r, r_iinc_2j, r_iret, r_bret_0, r_bret_1, vm_s, vm_bound, ↓reduceIte, not_true_eq_false, not_false_eq_true, Int.reduceEq, Int.reduceLE, Int.reduceLT, Int.reduceAdd, Int.reduceNeg, Int.reduceMul, Int.reduceSub, Int.reduceToNat]
  refine m_laysBounds (by omega) hM hC hW (fun V1 f1 e1 => ?_)
  simp (disch := first | assumption | exact zk_226 | ((repeat (first | exact z1n | refine z1I ?_ | refine z1R ?_)); done) | exact rfl | omega | decide) only [r_aload_0, r_inv_1_0, r_inv_1_1, r_inv_1_2, r_inv_1_3, r_inv_1_4, r_K0, r_K1, r_iconst, r_istore_1i, r_istore_1r, r_istore_1j, r_istore_2i, r_istore_2r, r_istore_2j, r_goto_w, r_iload_2, r_gf_640, r_ial, r_ial30, r_ial32, r_icmp_ge, r_iload_1, r_inv_3_0, r_inv_3_1, r_inv_3_2, r_inv_3_3, r_inv_3_4, r_gf_675, r_inv_2_0, r_inv_2_1, r_inv_2_2, r_inv_2_3, r_inv_2_4, r_goto, r_iadd, r_iinc_2i, r_iinc_2r, r_iinc_2j, r_iret, r_bret_0, r_bret_1, vm_s, vm_bound, ↓reduceIte, not_true_eq_false, not_false_eq_true, Int.reduceEq, Int.reduceLE, Int.reduceLT, Int.reduceAdd, Int.reduceNeg, Int.reduceMul, Int.reduceSub, Int.reduceToNat]
  have hM1 := hM.fm f1 (fun _ _ => by simp)
  have hC := hC.fm f1 (by decide)
  have g0 : V1 164 0 = .ref 165 := (f1.2 0 (by simp)).trans vm_s
  have g35 : V1 164 35 = .ref 186 := (f1.2 35 (by simp)).trans vm_bound
  have gc := hC.2.1
  have hq := hQ V1 f1 e1
  unfold zUns at hq
  refine Eq.mpr (z_chainI (F := fun k => zwp (zcall d) 226 Q (zB 226 1) [.ref 164, zi (zfo (fun k m => if ρ.K 2 k < zBnd ρ (ρ.K 1 k) then m + 1 else m) 0 k), zi k] [] (s, V1)) c0 (fun k k0 k1 => ?_)) ?_
  · have w := hW.2.2.1 k k0 k1
    have hk := e1 (ρ.K 1 k) w.2.1.1 w.2.1.2
    have hr : 0 ≤ zBnd ρ (ρ.K 1 k) ∧ zBnd ρ (ρ.K 1 k) ≤ 100000 := zBnK_rng hW _ (by omega) _
    conv => lhs; rw [zb_226_1]
    rw [zfo_s k0]
    simp (disch := first | assumption | exact zk_226 | ((repeat (first | exact z1n | refine z1I ?_ | refine z1R ?_)); done) | exact rfl | omega | decide) only [zb_226_2, zb_226_3, r_aload_0, r_inv_1_0, r_inv_1_1, r_inv_1_2, r_inv_1_3, r_inv_1_4, r_K0, r_K1, r_iconst, r_istore_1i, r_istore_1r, r_istore_1j, r_istore_2i, r_istore_2r, r_istore_2j, r_goto_w, r_iload_2, r_gf_640, r_ial, r_ial30, r_ial32, r_icmp_ge, r_iload_1, r_inv_3_0, r_inv_3_1, r_inv_3_2, r_inv_3_3, r_inv_3_4, r_gf_675, r_inv_2_0, r_inv_2_1, r_inv_2_2, r_inv_2_3, r_inv_2_4, r_goto, r_iadd, r_iinc_2i, r_iinc_2r, r_iinc_2j, r_iret, r_bret_0, r_bret_1, vm_s, vm_bound, m_callOf (hC := hC), m_callee (hC := hC), g0, g35, gc, hk, ↓reduceIte, not_true_eq_false, not_false_eq_true, Int.reduceEq, Int.reduceLE, Int.reduceLT, Int.reduceAdd, Int.reduceNeg, Int.reduceMul, Int.reduceSub, Int.reduceToNat]
    rw [if_neg (by omega : ¬ ρ.c ≤ k)]
    split
    · rename_i q
      rw [if_neg (by omega), Int.add_zero]
    · rename_i q
      rw [if_pos (by omega)]
  · simp (disch := first | assumption | exact zk_226 | ((repeat (first | exact z1n | refine z1I ?_ | refine z1R ?_)); done) | exact rfl | omega | decide) only [zb_226_1, zb_226_4, r_aload_0, r_inv_1_0, r_inv_1_1, r_inv_1_2, r_inv_1_3, r_inv_1_4, r_K0, r_K1, r_iconst, r_istore_1i, r_istore_1r, r_istore_1j, r_istore_2i, r_istore_2r, r_istore_2j, r_goto_w, r_iload_2, r_gf_640, r_ial, r_ial30, r_ial32, r_icmp_ge, r_iload_1, r_inv_3_0, r_inv_3_1, r_inv_3_2, r_inv_3_3, r_inv_3_4, r_gf_675, r_inv_2_0, r_inv_2_1, r_inv_2_2, r_inv_2_3, r_inv_2_4, r_goto, r_iadd, r_iinc_2i, r_iinc_2r, r_iinc_2j, r_iret, r_bret_0, r_bret_1, vm_s, vm_bound, g0, gc, Int.le_refl, ↓reduceIte, not_true_eq_false, not_false_eq_true, Int.reduceEq, Int.reduceLE, Int.reduceLT, Int.reduceAdd, Int.reduceNeg, Int.reduceMul, Int.reduceSub, Int.reduceToNat]
    exact hq
end
