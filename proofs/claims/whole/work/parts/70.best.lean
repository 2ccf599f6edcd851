/-! BEST ORDER, 4: in the model -/
theorem zMf_s {g : Int → Int} {m0 k : Int} (h : 0 ≤ k) : zMf g m0 (k + 1) = if g k < zMf g m0 k then g k else zMf g m0 k := zfo_s h
theorem zMf_rng {g : Int → Int} {m0 k : Int} (hk : 0 ≤ k) (h0 : 0 ≤ m0) (hg : ∀ x, 0 ≤ x → x < k → 0 ≤ g x) : 0 ≤ zMf g m0 k ∧ zMf g m0 k ≤ m0 := by
  obtain ⟨a, b, c⟩ := zMf_is (g := g) (m0 := m0) hk
  refine ⟨?_, a⟩
  rcases c with c | ⟨x, x0, x1, hx⟩
  · omega
  · have := hg x x0 x1; omega
theorem zYq_all {ρ : zR} (hW : zWF ρ) {u : Nat} (hu : u < 4096) (hs : zSub u (zDown ρ)) {x : Int} (x0 : 0 ≤ x) (x1 : x < ρ.n) : 0 ≤ zYq ρ u x ∧ zYq ρ u x ≤ 100000000 := by
  by_cases h : zYc ρ u x = true
  · have := zYq_rng hW hu hs x0 x1 h; omega
  · have : zYq ρ u x = 100000000 := if_neg h
    omega
section
variable {d : Nat} {s : zS} {V : zV} {Q : zO → zH → Prop} {ρ : zR} {h : zH}
def zMn9 (ρ : zR) (V : zV) : Prop := ∀ x, 0 ≤ x → x < 12 → V 169 x = zi (zNds ρ x : Nat)
set_option maxRecDepth 20000 in
theorem m_timeOf (hd : 2 ≤ d) (hM : zMP s V) (hC : zMC ρ V) (hW : zWF ρ) {u : Nat} (hu : u < 4096) : zcall d 243 [.ref 164, zi (u : Nat)] (s, V) Q = Q (.inl (some (zi (zYt ρ u)))) (s, V) := by
  obtain ⟨n0, n1, cc0, cc1⟩ := hW.1
  have tM := hM.1
  have vm_s : V 164 0 = .ref 165 := (hM.2 0 (by decide)).1
  have tm_s : s.tg 165 = 20 := (hM.2 0 (by decide)).2.1
  have lm_s : s.ln 165 = 230 := (hM.2 0 (by decide)).2.2
  have e0 := hC.1
  obtain ⟨d, rfl⟩ : ∃ e, d = e + 1 := ⟨d - 1, by omega⟩
  simp (disch := first | assumption | omega) only [zc_243]
  simp (disch := first | assumption | exact zk_243 | ((repeat (first | exact z1n | refine z1I ?_ | refine z1R ?_)); done) | exact rfl | omega | decide) only [zb_243_0, r_iconst, r_istore_2i, r_istore_2r, r_istore_2j, r_istore_3i, r_istore_3r, r_istore_3j, r_goto_w, r_iload_3, r_aload_0, r_gf_640, r_ial, r_ial30, r_ial32, r_icmp_ge, r_iload_2, r_iload_1, r_ishr, r_iand, r_icmp_ne, r_inv_3_0, r_inv_3_1, r_inv_3_2, r_inv_3_3, r_inv_3_4, r_K0, r_K1, r_goto, r_iadd, r_iinc_3i, r_iinc_3r, r_iinc_3j, r_iret, r_bret_0, r_bret_1, vm_s, ↓reduceIte, not_true_eq_false, not_false_eq_true, Int.reduceEq, Int.reduceLE, Int.reduceLT, Int.reduceAdd, Int.reduceNeg, Int.reduceMul, Int.reduceSub, Int.reduceToNat]
  have hch := z_chainI (F := fun k => zwp (zcall d) 243 Q (zB 243 1) [.ref 164, zi (u : Nat), zi (zfo (fun x t => t + (if zin u x = true then ρ.S 3 x else 0)) 0 k), zi k] [] (s, V)) n0 (fun k k0 k1 => by
    have w := (hW.2.1 k k0 k1).2.2.2.1
    have hz := zhas (a := u) (x := k) (by omega) k0 (by omega)
    conv => lhs; rw [zb_243_1]
    rw [zfo_s k0]
    by_cases c : zin u k = true
    · rw [if_pos c] at hz ⊢
      simp (disch := first | assumption | exact zk_243 | ((repeat (first | exact z1n | refine z1I ?_ | refine z1R ?_)); done) | exact rfl | omega | decide) only [zb_243_2, zb_243_3, r_iconst, r_istore_2i, r_istore_2r, r_istore_2j, r_istore_3i, r_istore_3r, r_istore_3j, r_goto_w, r_iload_3, r_aload_0, r_gf_640, r_ial, r_ial30, r_ial32, r_icmp_ge, r_iload_2, r_iload_1, r_ishr, r_iand, r_icmp_ne, r_inv_3_0, r_inv_3_1, r_inv_3_2, r_inv_3_3, r_inv_3_4, r_K0, r_K1, r_goto, r_iadd, r_iinc_3i, r_iinc_3r, r_iinc_3j, r_iret, r_bret_0, r_bret_1, vm_s, e0, hz, m_of (hC := hC), ↓reduceIte, not_true_eq_false, not_false_eq_true, Int.reduceEq, Int.reduceLE, Int.reduceLT, Int.reduceAdd, Int.reduceNeg, Int.reduceMul, Int.reduceSub, Int.reduceToNat]
      rw [if_neg (by omega)]
    · rw [if_neg c] at hz ⊢
      simp (disch := first | assumption | exact zk_243 | ((repeat (first | exact z1n | refine z1I ?_ | refine z1R ?_)); done) | exact rfl | omega | decide) only [zb_243_2, zb_243_3, r_iconst, r_istore_2i, r_istore_2r, r_istore_2j, r_istore_3i, r_istore_3r, r_istore_3j, r_goto_w, r_iload_3, r_aload_0, r_gf_640, r_ial, r_ial30, r_ial32, r_icmp_ge, r_iload_2, r_iload_1, r_ishr, r_iand, r_icmp_ne, r_inv_3_0, r_inv_3_1, r_inv_3_2, r_inv_3_3, r_inv_3_4, r_K0, r_K1, r_goto, r_iadd, r_iinc_3i, r_iinc_3r, r_iinc_3j, r_iret, r_bret_0, r_bret_1, vm_s, e0, hz, ↓reduceIte, not_true_eq_false, not_false_eq_true, Int.reduceEq, Int.reduceLE, Int.reduceLT, Int.reduceAdd, Int.reduceNeg, Int.reduceMul, Int.reduceSub, Int.reduceToNat]
      rw [if_neg (by omega)])
  rw [zfo_0] at hch
  rw [hch]
  simp (disch := first | assumption | exact zk_243 | ((repeat (first | exact z1n | refine z1I ?_ | refine z1R ?_)); done) | exact rfl | omega | decide) only [zb_243_1, zb_243_4, r_iconst, r_istore_2i, r_istore_2r, r_istore_2j, r_istore_3i, r_istore_3r, r_istore_3j, r_goto_w, r_iload_3, r_aload_0, r_gf_640, r_ial, r_ial30, r_ial32, r_icmp_ge, r_iload_2, r_iload_1, r_ishr, r_iand, r_icmp_ne, r_inv_3_0, r_inv_3_1, r_inv_3_2, r_inv_3_3, r_inv_3_4, r_K0, r_K1, r_goto, r_iadd, r_iinc_3i, r_iinc_3r, r_iinc_3j, r_iret, r_bret_0, r_bret_1, vm_s, e0, Int.le_refl, ↓reduceIte, not_true_eq_false, not_false_eq_true, Int.reduceEq, Int.reduceLE, Int.reduceLT, Int.reduceAdd, Int.reduceNeg, Int.reduceMul, Int.reduceSub, Int.reduceToNat]
  rfl
set_option maxRecDepth 20000 in
theorem m_costWith (hd : 3 ≤ d) (hM : zMP s V) (hC : zMC ρ V) (hW : zWF ρ) (hN : zMn9 ρ V) {u : Nat} (hu : u < 4096) (hs : zSub u (zDown ρ)) {x : Int} (x0 : 0 ≤ x) (x1 : x < ρ.n) (hT : zYc ρ u x = true → V 188 ((u ||| zone x : Nat) : Int) = zi (zYr ρ (u ||| zone x))) : zcall d 244 [.ref 164, zi x, zi (zDown ρ : Nat), zi (u : Nat)] (s, V) Q = Q (.inl (some (zi (zYq ρ u x)))) (s, V) := by
  obtain ⟨n0, n1, cc0, cc1⟩ := hW.1
  have tM := hM.1
  have vm_needs : V 164 7 = .ref 169 := (hM.2 4 (by decide)).1
  have tm_needs : s.tg 169 = 20 := (hM.2 4 (by decide)).2.1
  have lm_needs : s.ln 169 = 12 := (hM.2 4 (by decide)).2.2
  have vm_rest : V 164 38 = .ref 188 := (hM.2 23 (by decide)).1
  have tm_rest : s.tg 188 = 20 := (hM.2 23 (by decide)).2.1
  have lm_rest : s.ln 188 = 4096 := (hM.2 23 (by decide)).2.2
  have hD := zDown_lt hW
  have hDf : zdf (zDown ρ) u < 4096 := zdf_lt hD
  have hn0 := zNeeds_lt hW x
  have hnl : zNeeds ρ x &&& zDown ρ < 4096 := zand_lt (zNeeds_lt hW x)
  have hzl : zdf (zNeeds ρ x &&& zDown ρ) u < 4096 := zdf_lt hnl
  have hn9 : V 169 x = zi (zNeeds ρ x : Nat) := by rw [hN x x0 (by omega)]; unfold zNds; rw [if_pos x1]
  have hup : u ||| zone x < 4096 := zor_lt hu (zone_lt (by omega))
  have hzo : zone x < 4096 := zone_lt (by omega)
  have hz := zhas (a := zdf (zDown ρ) u) (x := x) (by omega) x0 (by omega)
  obtain ⟨d, rfl⟩ : ∃ e, d = e + 1 := ⟨d - 1, by omega⟩
  simp (disch := first | assumption | omega) only [zc_244]
  by_cases c1 : zin (zdf (zDown ρ) u) x = true
  · rw [if_pos c1] at hz
    by_cases c2 : zdf (zNeeds ρ x &&& zDown ρ) u = 0
    · have hc : zYc ρ u x = true := by unfold zYc; rw [c1, decide_eq_true c2]; rfl
      have hqe : zYq ρ u x = ρ.S 4 x * (zYt ρ u + ρ.S 3 x) + zYr ρ (u ||| zone x) := zYk_can hc
      have c2' : ((zdf (zNeeds ρ x &&& zDown ρ) u : Nat) : Int) = 0 := by rw [c2]; rfl
      have hk := hT hc
      rw [hqe]
      simp (disch := first | assumption | exact zk_244 | ((repeat (first | exact z1n | refine z1I ?_ | refine z1R ?_)); done) | exact rfl | omega | decide) only [zb_244_0, zb_244_1, zb_244_2, zb_244_3, zb_244_4, r_iload_2, r_iload_3, r_iconst, r_ixor, r_iand, r_iload_1, r_ishr, r_icmp_ne, r_aload_0, r_gf_647, r_ial, r_ial30, r_ial32, r_if_ne, r_goto, r_goto_w, r_istore_4i, r_istore_4r, r_istore_4j, r_iload_4, r_if_eq, r_inv_3_0, r_inv_3_1, r_inv_3_2, r_inv_3_3, r_inv_3_4, r_K0, r_K1, r_inv_2_0, r_inv_2_1, r_inv_2_2, r_inv_2_3, r_inv_2_4, r_iadd, r_imul, r_gf_678, r_ishl, r_ior, r_iret, r_bret_0, r_bret_1, vm_needs, vm_rest, zandn_n, zand_n, hz, hn9, c2', m_of (hC := hC), m_timeOf (hC := hC), zshl_z, zor_n, hk, ↓reduceIte, not_true_eq_false, not_false_eq_true, Int.reduceEq, Int.reduceLE, Int.reduceLT, Int.reduceAdd, Int.reduceNeg, Int.reduceMul, Int.reduceSub, Int.reduceToNat]
    · have hc : ¬ zYc ρ u x = true := fun e => c2 (zYc_in e).2.2
      have c2' : ¬ ((zdf (zNeeds ρ x &&& zDown ρ) u : Nat) : Int) = 0 := by omega
      have hqe : zYq ρ u x = 100000000 := if_neg hc
      rw [hqe]
      simp (disch := first | assumption | exact zk_244 | ((repeat (first | exact z1n | refine z1I ?_ | refine z1R ?_)); done) | exact rfl | omega | decide) only [zb_244_0, zb_244_1, zb_244_2, zb_244_3, zb_244_4, r_iload_2, r_iload_3, r_iconst, r_ixor, r_iand, r_iload_1, r_ishr, r_icmp_ne, r_aload_0, r_gf_647, r_ial, r_ial30, r_ial32, r_if_ne, r_goto, r_goto_w, r_istore_4i, r_istore_4r, r_istore_4j, r_iload_4, r_if_eq, r_inv_3_0, r_inv_3_1, r_inv_3_2, r_inv_3_3, r_inv_3_4, r_K0, r_K1, r_inv_2_0, r_inv_2_1, r_inv_2_2, r_inv_2_3, r_inv_2_4, r_iadd, r_imul, r_gf_678, r_ishl, r_ior, r_iret, r_bret_0, r_bret_1, vm_needs, vm_rest, zandn_n, zand_n, hz, hn9, c2', ↓reduceIte, not_true_eq_false, not_false_eq_true, Int.reduceEq, Int.reduceLE, Int.reduceLT, Int.reduceAdd, Int.reduceNeg, Int.reduceMul, Int.reduceSub, Int.reduceToNat]
  · have hc : ¬ zYc ρ u x = true := fun e => c1 (by unfold zYc at e; rw [Bool.and_eq_true] at e; exact e.1)
    have hqe : zYq ρ u x = 100000000 := if_neg hc
    rw [if_neg c1] at hz
    rw [hqe]
    simp (disch := first | assumption | exact zk_244 | ((repeat (first | exact z1n | refine z1I ?_ | refine z1R ?_)); done) | exact rfl | omega | decide) only [zb_244_0, zb_244_1, zb_244_2, zb_244_3, zb_244_4, r_iload_2, r_iload_3, r_iconst, r_ixor, r_iand, r_iload_1, r_ishr, r_icmp_ne, r_aload_0, r_gf_647, r_ial, r_ial30, r_ial32, r_if_ne, r_goto, r_goto_w, r_istore_4i, r_istore_4r, r_istore_4j, r_iload_4, r_if_eq, r_inv_3_0, r_inv_3_1, r_inv_3_2, r_inv_3_3, r_inv_3_4, r_K0, r_K1, r_inv_2_0, r_inv_2_1, r_inv_2_2, r_inv_2_3, r_inv_2_4, r_iadd, r_imul, r_gf_678, r_ishl, r_ior, r_iret, r_bret_0, r_bret_1, vm_needs, vm_rest, zandn_n, zand_n, hz, ↓reduceIte, not_true_eq_false, not_false_eq_true, Int.reduceEq, Int.reduceLE, Int.reduceLT, Int.reduceAdd, Int.reduceNeg, Int.reduceMul, Int.reduceSub, Int.reduceToNat]
set_option maxRecDepth 20000 in
/-- the rows of needs and of the rest's costs are filled -/
theorem m_laysBest (hd : 4 ≤ d) (hM : zMP s V) (hC : zMC ρ V) (hW : zWF ρ) (hQ : ∀ V', zFm [169, 188] [] V V' → zMn9 ρ V' → (∀ t : Nat, t < 4096 → zSub t (zDown ρ) → V' 188 (t : Int) = zi (zYr ρ t)) → Q (.inl (some (zi (zYr ρ 0)))) (s, V')) : zcall d 245 [.ref 164] (s, V) Q := by
  obtain ⟨n0, n1, cc0, cc1⟩ := hW.1
  have tM := hM.1
  have hD := zDown_lt hW
  obtain ⟨d, rfl⟩ : ∃ e, d = e + 1 := ⟨d - 1, by omega⟩
  rw [zc_245 tM]
  simp (disch := first | assumption | exact zk_245 | ((repeat (first | exact z1n | refine z1I ?_ | refine z1R ?_)); done) | exact rfl | omega | decide) only [zb_245_0, r_aload_0, r_inv_1_0, r_inv_1_1, r_inv_1_2, r_inv_1_3, r_inv_1_4, r_K0, r_K1, r_istore_1i, r_istore_1r, r_istore_1j, r_iload_1, r_istore_2i, r_istore_2r, r_istore_2j, r_goto_w, r_iload_2, r_if_lt, r_iconst, r_ixor, r_iand, r_if_ne, r_icmp_ne, r_goto, r_istore_3i, r_istore_3r, r_istore_3j, r_istore_4i, r_istore_4r, r_istore_4j, r_iload_4, r_gf_640, r_ial, r_ial30, r_ial32, r_icmp_ge, r_inv_4_0, r_inv_4_1, r_inv_4_2, r_inv_4_3, r_inv_4_4, r_istore_5i, r_istore_5r, r_istore_5j, r_iload_5, r_iload_3, r_iinc_4i, r_iinc_4r, r_iinc_4j, r_gf_678, r_iastore, r_iinc_2i, r_iinc_2r, r_iinc_2j, r_iret, r_bret_0, r_bret_1, ↓reduceIte, not_true_eq_false, not_false_eq_true, Int.reduceEq, Int.reduceLE, Int.reduceLT, Int.reduceAdd, Int.reduceNeg, Int.reduceMul, Int.reduceSub, Int.reduceToNat]
  refine m_laysNeeds (by omega) hM hC hW (fun V1 f1 hN1 => ?_)
  have hM1 := hM.fm f1 (by decide)
  have hC1 := hC.fm f1 (by decide)
  simp (disch := first | assumption | exact zk_245 | ((repeat (first | exact z1n | refine z1I ?_ | refine z1R ?_)); done) | exact rfl | omega | decide) only [r_aload_0, r_inv_1_0, r_inv_1_1, r_inv_1_2, r_inv_1_3, r_inv_1_4, r_K0, r_K1, r_istore_1i, r_istore_1r, r_istore_1j, r_iload_1, r_istore_2i, r_istore_2r, r_istore_2j, r_goto_w, r_iload_2, r_if_lt, r_iconst, r_ixor, r_iand, r_if_ne, r_icmp_ne, r_goto, r_istore_3i, r_istore_3r, r_istore_3j, r_istore_4i, r_istore_4r, r_istore_4j, r_iload_4, r_gf_640, r_ial, r_ial30, r_ial32, r_icmp_ge, r_inv_4_0, r_inv_4_1, r_inv_4_2, r_inv_4_3, r_inv_4_4, r_istore_5i, r_istore_5r, r_istore_5j, r_iload_5, r_iload_3, r_iinc_4i, r_iinc_4r, r_iinc_4j, r_gf_678, r_iastore, r_iinc_2i, r_iinc_2r, r_iinc_2j, r_iret, r_bret_0, r_bret_1, m_downs (hC := hC1), ↓reduceIte, not_true_eq_false, not_false_eq_true, Int.reduceEq, Int.reduceLE, Int.reduceLT, Int.reduceAdd, Int.reduceNeg, Int.reduceMul, Int.reduceSub, Int.reduceToNat]
  have main : ∀ (m : Nat), m ≤ zDown ρ + 1 → ∀ (V2 : zV) (x3 x4 x5 : Value), zFm [188] [] V1 V2 → (∀ t : Nat, t < 4096 → m ≤ t → zSub t (zDown ρ) → V2 188 (t : Int) = zi (zYr ρ t)) → zwp (zcall d) 245 Q (zB 245 1) [.ref 164, zi (zDown ρ : Nat), zi ((m : Int) - 1), x3, x4, x5] [] (s, V2) := by
    intro m
    induction m with
    | zero =>
      intro _ V2 x3 x4 x5 f2 ht
      have hM2 := hM1.fm f2 (by decide)
      have w : V2 164 38 = .ref 188 := (hM2.2 23 (by decide)).1
      have tw : s.tg 188 = 20 := (hM2.2 23 (by decide)).2.1
      have lw : s.ln 188 = 4096 := (hM2.2 23 (by decide)).2.2
      have h0 : V2 188 0 = zi (zYr ρ 0) := ht 0 (by omega) (by omega) (fun x _ _ hx => by rw [zin_zero] at hx; cases hx)
      have := hQ V2 ((f1.mono (by decide) (fun _ h => h)).tr (f2.mono (by decide) (fun _ h => h))) (by unfold zMn9; rw [f2.1 169 (by decide) (by decide)]; exact hN1) (fun t t4 ts => ht t t4 (by omega) ts)
      have em : ((0 : Nat) : Int) - 1 = -1 := rfl
      rw [em]
      simp (disch := first | assumption | exact zk_245 | ((repeat (first | exact z1n | refine z1I ?_ | refine z1R ?_)); done) | exact rfl | omega | decide) only [zb_245_1, zb_245_9, r_aload_0, r_inv_1_0, r_inv_1_1, r_inv_1_2, r_inv_1_3, r_inv_1_4, r_K0, r_K1, r_istore_1i, r_istore_1r, r_istore_1j, r_iload_1, r_istore_2i, r_istore_2r, r_istore_2j, r_goto_w, r_iload_2, r_if_lt, r_iconst, r_ixor, r_iand, r_if_ne, r_icmp_ne, r_goto, r_istore_3i, r_istore_3r, r_istore_3j, r_istore_4i, r_istore_4r, r_istore_4j, r_iload_4, r_gf_640, r_ial, r_ial30, r_ial32, r_icmp_ge, r_inv_4_0, r_inv_4_1, r_inv_4_2, r_inv_4_3, r_inv_4_4, r_istore_5i, r_istore_5r, r_istore_5j, r_iload_5, r_iload_3, r_iinc_4i, r_iinc_4r, r_iinc_4j, r_gf_678, r_iastore, r_iinc_2i, r_iinc_2r, r_iinc_2j, r_iret, r_bret_0, r_bret_1, w, h0, ↓reduceIte, not_true_eq_false, not_false_eq_true, Int.reduceEq, Int.reduceLE, Int.reduceLT, Int.reduceAdd, Int.reduceNeg, Int.reduceMul, Int.reduceSub, Int.reduceToNat]
      exact this
    | succ u ih =>
      intro hm V2 x3 x4 x5 f2 ht
      have hM2 := hM1.fm f2 (by decide)
      have hC2 := hC1.fm f2 (by decide)
      have w : V2 164 38 = .ref 188 := (hM2.2 23 (by decide)).1
      have tw : s.tg 188 = 20 := (hM2.2 23 (by decide)).2.1
      have lw : s.ln 188 = 4096 := (hM2.2 23 (by decide)).2.2
      have v0 : V2 164 0 = .ref 165 := (hM2.2 0 (by decide)).1
      have t0 : s.tg 165 = 20 := (hM2.2 0 (by decide)).2.1
      have l0 : s.ln 165 = 230 := (hM2.2 0 (by decide)).2.2
      have e0 := hC2.1
      have hN2 : zMn9 ρ V2 := by unfold zMn9; rw [f2.1 169 (by decide) (by decide)]; exact hN1
      have hu : u < 4096 := by omega
      have hzl : zdf u (zDown ρ) < 4096 := zdf_lt hu
      rw [show ((u + 1 : Nat) : Int) - 1 = (u : Int) by omega]
      have e8 : ((u : Int) + -1) = (u : Int) - 1 := by omega
      by_cases hs : zSub u (zDown ρ)
      · have hz : zdf u (zDown ρ) = 0 := (zdf_zero hu).mpr hs
        have hz' : ((zdf u (zDown ρ) : Nat) : Int) = 0 := by rw [hz]; rfl
        have hgr : ∀ x, 0 ≤ x → x < ρ.n → 0 ≤ zYk ρ (zYr ρ) u x ∧ zYk ρ (zYr ρ) u x ≤ 100000000 := fun x x0 x1 => zYq_all hW hu hs x0 x1
        generalize hm0 : (if u = zDown ρ then (0 : Int) else 100000000) = m0
        have hm0r : 0 ≤ m0 ∧ m0 ≤ 100000000 := by rw [← hm0]; split <;> omega
        have inner : ∀ y4 y5 : Value, zwp (zcall d) 245 Q (zB 245 3) [.ref 164, zi (zDown ρ : Nat), zi (u : Nat), y4, x4, y5] [zi m0] (s, V2) := by
          intro y4 y5
          simp (disch := first | assumption | exact zk_245 | ((repeat (first | exact z1n | refine z1I ?_ | refine z1R ?_)); done) | exact rfl | omega | decide) only [zb_245_3, r_aload_0, r_inv_1_0, r_inv_1_1, r_inv_1_2, r_inv_1_3, r_inv_1_4, r_K0, r_K1, r_istore_1i, r_istore_1r, r_istore_1j, r_iload_1, r_istore_2i, r_istore_2r, r_istore_2j, r_goto_w, r_iload_2, r_if_lt, r_iconst, r_ixor, r_iand, r_if_ne, r_icmp_ne, r_goto, r_istore_3i, r_istore_3r, r_istore_3j, r_istore_4i, r_istore_4r, r_istore_4j, r_iload_4, r_gf_640, r_ial, r_ial30, r_ial32, r_icmp_ge, r_inv_4_0, r_inv_4_1, r_inv_4_2, r_inv_4_3, r_inv_4_4, r_istore_5i, r_istore_5r, r_istore_5j, r_iload_5, r_iload_3, r_iinc_4i, r_iinc_4r, r_iinc_4j, r_gf_678, r_iastore, r_iinc_2i, r_iinc_2r, r_iinc_2j, r_iret, r_bret_0, r_bret_1, ↓reduceIte, not_true_eq_false, not_false_eq_true, Int.reduceEq, Int.reduceLE, Int.reduceLT, Int.reduceAdd, Int.reduceNeg, Int.reduceMul, Int.reduceSub, Int.reduceToNat]
          have hlp := z_iter (i := 0) (n := ρ.n) (I := fun _ (_ : Value) => True) (P := fun k q => zwp (zcall d) 245 Q (zB 245 4) [.ref 164, zi (zDown ρ : Nat), zi (u : Nat), zi (zMf (zYk ρ (zYr ρ) u) m0 k), zi k, q] [] (s, V2)) n0
          refine hlp ?_ ?_ _ trivial
          · rintro k q k0 k1 - ih2
            have hg := hgr k k0 k1
            have hmr := zMf_rng (g := zYk ρ (zYr ρ) u) (m0 := m0) k0 hm0r.1 (fun x x0 x1 => (hgr x x0 (by omega)).1)
            have ck : ∀ K, zcall d 244 [.ref 164, zi k, zi (zDown ρ : Nat), zi (u : Nat)] (s, V2) K = K (.inl (some (zi (zYk ρ (zYr ρ) u k)))) (s, V2) := fun K => m_costWith (by omega) hM2 hC2 hW hN2 hu hs k0 k1 (fun hc => ht _ (zor_lt hu (zone_lt (by omega))) (by have := zup_lt k0 (zYc_in hc).2.1; omega) (zSub_up k0 hs hc))
            have i2 := ih2 (zi (zYk ρ (zYr ρ) u k)) trivial
            rw [zMf_s k0] at i2
            conv => rw [zb_245_4]
            generalize zYk ρ (zYr ρ) u k = co at *
            generalize zMf (zYk ρ (zYr ρ) u) m0 k = mm at *
            simp (disch := first | assumption | exact zk_245 | ((repeat (first | exact z1n | refine z1I ?_ | refine z1R ?_)); done) | exact rfl | omega | decide) only [zb_245_5, zb_245_6, r_aload_0, r_inv_1_0, r_inv_1_1, r_inv_1_2, r_inv_1_3, r_inv_1_4, r_K0, r_K1, r_istore_1i, r_istore_1r, r_istore_1j, r_iload_1, r_istore_2i, r_istore_2r, r_istore_2j, r_goto_w, r_iload_2, r_if_lt, r_iconst, r_ixor, r_iand, r_if_ne, r_icmp_ne, r_goto, r_istore_3i, r_istore_3r, r_istore_3j, r_istore_4i, r_istore_4r, r_istore_4j, r_iload_4, r_gf_640, r_ial, r_ial30, r_ial32, r_icmp_ge, r_inv_4_0, r_inv_4_1, r_inv_4_2, r_inv_4_3, r_inv_4_4, r_istore_5i, r_istore_5r, r_istore_5j, r_iload_5, r_iload_3, r_iinc_4i, r_iinc_4r, r_iinc_4j, r_gf_678, r_iastore, r_iinc_2i, r_iinc_2r, r_iinc_2j, r_iret, r_bret_0, r_bret_1, v0, e0, ck, ↓reduceIte, not_true_eq_false, not_false_eq_true, Int.reduceEq, Int.reduceLE, Int.reduceLT, Int.reduceAdd, Int.reduceNeg, Int.reduceMul, Int.reduceSub, Int.reduceToNat]
            rw [if_neg (by omega)]
            by_cases q2 : mm ≤ co
            · rw [if_pos q2]
              rw [if_neg (by omega)] at i2
              exact i2
            · rw [if_neg q2]
              rw [if_pos (by omega)] at i2
              exact i2
          · rintro q -
            have hyr : zMf (zYk ρ (zYr ρ) u) m0 ρ.n = zYr ρ u := by
              rw [zYr_eq ⟨n0, n1⟩ hu]
              unfold zYb
              rw [hm0]
            rw [hyr]
            have := ih (by omega) (zput V2 188 (u : Nat) (zi (zYr ρ u))) (zi (zYr ρ u)) (zi ρ.n) q (f2.pr (by simp) (by omega)) (fun t t4 tu ts => by
              by_cases e : t = u
              · rw [e, zput_at]
              · rw [zput_k (by omega)]; exact ht t t4 (by omega) ts)
            simp (disch := first | assumption | exact zk_245 | ((repeat (first | exact z1n | refine z1I ?_ | refine z1R ?_)); done) | exact rfl | omega | decide) only [zb_245_4, zb_245_7, zb_245_8, r_aload_0, r_inv_1_0, r_inv_1_1, r_inv_1_2, r_inv_1_3, r_inv_1_4, r_K0, r_K1, r_istore_1i, r_istore_1r, r_istore_1j, r_iload_1, r_istore_2i, r_istore_2r, r_istore_2j, r_goto_w, r_iload_2, r_if_lt, r_iconst, r_ixor, r_iand, r_if_ne, r_icmp_ne, r_goto, r_istore_3i, r_istore_3r, r_istore_3j, r_istore_4i, r_istore_4r, r_istore_4j, r_iload_4, r_gf_640, r_ial, r_ial30, r_ial32, r_icmp_ge, r_inv_4_0, r_inv_4_1, r_inv_4_2, r_inv_4_3, r_inv_4_4, r_istore_5i, r_istore_5r, r_istore_5j, r_iload_5, r_iload_3, r_iinc_4i, r_iinc_4r, r_iinc_4j, r_gf_678, r_iastore, r_iinc_2i, r_iinc_2r, r_iinc_2j, r_iret, r_bret_0, r_bret_1, v0, e0, w, Int.le_refl, e8, ↓reduceIte, not_true_eq_false, not_false_eq_true, Int.reduceEq, Int.reduceLE, Int.reduceLT, Int.reduceAdd, Int.reduceNeg, Int.reduceMul, Int.reduceSub, Int.reduceToNat]
            exact this
        by_cases hd2 : u = zDown ρ
        · rw [if_pos hd2] at hm0
          have hd3 : ((u : Nat) : Int) = ((zDown ρ : Nat) : Int) := by rw [hd2]
          rw [← hm0] at inner
          conv => rw [zb_245_1]
          simp (disch := first | assumption | exact zk_245 | ((repeat (first | exact z1n | refine z1I ?_ | refine z1R ?_)); done) | exact rfl | omega | decide) only [r_aload_0, r_inv_1_0, r_inv_1_1, r_inv_1_2, r_inv_1_3, r_inv_1_4, r_K0, r_K1, r_istore_1i, r_istore_1r, r_istore_1j, r_iload_1, r_istore_2i, r_istore_2r, r_istore_2j, r_goto_w, r_iload_2, r_if_lt, r_iconst, r_ixor, r_iand, r_if_ne, r_icmp_ne, r_goto, r_istore_3i, r_istore_3r, r_istore_3j, r_istore_4i, r_istore_4r, r_istore_4j, r_iload_4, r_gf_640, r_ial, r_ial30, r_ial32, r_icmp_ge, r_inv_4_0, r_inv_4_1, r_inv_4_2, r_inv_4_3, r_inv_4_4, r_istore_5i, r_istore_5r, r_istore_5j, r_iload_5, r_iload_3, r_iinc_4i, r_iinc_4r, r_iinc_4j, r_gf_678, r_iastore, r_iinc_2i, r_iinc_2r, r_iinc_2j, r_iret, r_bret_0, r_bret_1, zandn_n, hz', ↓reduceIte, not_true_eq_false, not_false_eq_true, Int.reduceEq, Int.reduceLE, Int.reduceLT, Int.reduceAdd, Int.reduceNeg, Int.reduceMul, Int.reduceSub, Int.reduceToNat]
          rw [if_neg (by omega), if_neg (by omega)]
          exact inner _ _
        · rw [if_neg hd2] at hm0
          have hd3 : ¬ ((u : Nat) : Int) = ((zDown ρ : Nat) : Int) := by omega
          rw [← hm0] at inner
          conv => rw [zb_245_1]
          simp (disch := first | assumption | exact zk_245 | ((repeat (first | exact z1n | refine z1I ?_ | refine z1R ?_)); done) | exact rfl | omega | decide) only [zb_245_2, r_aload_0, r_inv_1_0, r_inv_1_1, r_inv_1_2, r_inv_1_3, r_inv_1_4, r_K0, r_K1, r_istore_1i, r_istore_1r, r_istore_1j, r_iload_1, r_istore_2i, r_istore_2r, r_istore_2j, r_goto_w, r_iload_2, r_if_lt, r_iconst, r_ixor, r_iand, r_if_ne, r_icmp_ne, r_goto, r_istore_3i, r_istore_3r, r_istore_3j, r_istore_4i, r_istore_4r, r_istore_4j, r_iload_4, r_gf_640, r_ial, r_ial30, r_ial32, r_icmp_ge, r_inv_4_0, r_inv_4_1, r_inv_4_2, r_inv_4_3, r_inv_4_4, r_istore_5i, r_istore_5r, r_istore_5j, r_iload_5, r_iload_3, r_iinc_4i, r_iinc_4r, r_iinc_4j, r_gf_678, r_iastore, r_iinc_2i, r_iinc_2r, r_iinc_2j, r_iret, r_bret_0, r_bret_1, zandn_n, hz', ↓reduceIte, not_true_eq_false, not_false_eq_true, Int.reduceEq, Int.reduceLE, Int.reduceLT, Int.reduceAdd, Int.reduceNeg, Int.reduceMul, Int.reduceSub, Int.reduceToNat]
          rw [if_neg (by omega), if_pos (by omega)]
          exact inner _ _
      · have hz : ¬ zdf u (zDown ρ) = 0 := fun e => hs ((zdf_zero hu).mp e)
        have hz' : ¬ ((zdf u (zDown ρ) : Nat) : Int) = 0 := by omega
        have := ih (by omega) V2 x3 x4 x5 f2 (fun t t4 tu ts => ht t t4 (by
          rcases Nat.lt_or_ge u t with q | q
          · exact q
          · exact absurd ts (by rw [show t = u by omega]; exact hs)) ts)
        conv => rw [zb_245_1]
        simp (disch := first | assumption | exact zk_245 | ((repeat (first | exact z1n | refine z1I ?_ | refine z1R ?_)); done) | exact rfl | omega | decide) only [zb_245_8, r_aload_0, r_inv_1_0, r_inv_1_1, r_inv_1_2, r_inv_1_3, r_inv_1_4, r_K0, r_K1, r_istore_1i, r_istore_1r, r_istore_1j, r_iload_1, r_istore_2i, r_istore_2r, r_istore_2j, r_goto_w, r_iload_2, r_if_lt, r_iconst, r_ixor, r_iand, r_if_ne, r_icmp_ne, r_goto, r_istore_3i, r_istore_3r, r_istore_3j, r_istore_4i, r_istore_4r, r_istore_4j, r_iload_4, r_gf_640, r_ial, r_ial30, r_ial32, r_icmp_ge, r_inv_4_0, r_inv_4_1, r_inv_4_2, r_inv_4_3, r_inv_4_4, r_istore_5i, r_istore_5r, r_istore_5j, r_iload_5, r_iload_3, r_iinc_4i, r_iinc_4r, r_iinc_4j, r_gf_678, r_iastore, r_iinc_2i, r_iinc_2r, r_iinc_2j, r_iret, r_bret_0, r_bret_1, zandn_n, hz', e8, ↓reduceIte, not_true_eq_false, not_false_eq_true, Int.reduceEq, Int.reduceLE, Int.reduceLT, Int.reduceAdd, Int.reduceNeg, Int.reduceMul, Int.reduceSub, Int.reduceToNat]
        rw [if_neg (by omega)]
        exact this
  have e9 : zi ((zDown ρ : Nat) : Int) = zi (((zDown ρ + 1 : Nat) : Int) - 1) := by congr 1; omega
  have := main (zDown ρ + 1) (Nat.le_refl _) V1 zJ zJ zJ zFm.rf (fun t t4 tm ts => by
    have h1 : t ≤ zDown ρ := by
      have := (zsub_and t4).mp ts
      rw [← this]
      exact Nat.and_le_right
    omega)
  rw [← e9] at this
  exact this
end
