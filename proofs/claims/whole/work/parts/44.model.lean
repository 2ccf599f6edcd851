/-! MODEL, 5: calls that are new, dropped, limited -/
theorem zMC.fr {ρ : zR} {V V' : zV} (hC : zMC ρ V) (h : V' 165 = V 165) : zMC ρ V' := by
  unfold zMC
  rw [h]
  exact hC
theorem zMC.addK {ρ : zR} {V V' : zV} (hC : zMC ρ V) (hn : ρ.n ≤ 12) (hc0 : 0 ≤ ρ.c) (hc : ρ.c < 24) {x y l t k : Int} (hr : ∀ i : Int, i ≠ 1 → (i < 110 + 5 * ρ.c ∨ 110 + 5 * ρ.c + 5 ≤ i) → V' 165 i = V 165 i) (h1 : V' 165 1 = zi (ρ.c + 1)) (hw : V' 165 (110 + 5 * ρ.c + 0) = zi x ∧ V' 165 (110 + 5 * ρ.c + 1) = zi y ∧ V' 165 (110 + 5 * ρ.c + 2) = zi l ∧ V' 165 (110 + 5 * ρ.c + 3) = zi t ∧ V' 165 (110 + 5 * ρ.c + 4) = zi k) : zMC (ρ.addK x y l t k) V' := by
  obtain ⟨c1, c2, c3, c4⟩ := hC
  have hc1 : (ρ.addK x y l t k).c = ρ.c + 1 := rfl
  refine ⟨(hr 0 (by omega) (by omega)).trans c1, h1, fun w z a b c e => (hr _ (by omega) (by have : z < ρ.n := e; omega)).trans (c3 w z a b c e), fun w j a b c e => ?_⟩
  rw [zR.addK_K]
  rw [hc1] at e
  by_cases q : j = ρ.c
  · rw [if_pos q, q]
    rcases (by omega : w = 0 ∨ w = 1 ∨ w = 2 ∨ w = 3 ∨ w = 4) with rfl | rfl | rfl | rfl | rfl
    · exact hw.1
    · exact hw.2.1
    · exact hw.2.2.1
    · exact hw.2.2.2.1
    · exact hw.2.2.2.2
  · rw [if_neg q, hr _ (by omega) (by omega)]
    exact c4 w j a b c (by omega)
theorem zMC.sK {ρ : zR} {V : zV} (hC : zMC ρ V) (hn : ρ.n ≤ 12) {k v : Int} (k0 : 0 ≤ k) : zMC (ρ.sK 2 k v) (zput V 165 (110 + 5 * k + 2) (zi v)) := by
  obtain ⟨c1, c2, c3, c4⟩ := hC
  refine ⟨(zput_i (by omega)).trans c1, (zput_i (by omega)).trans c2, fun w z a b c e => (zput_i (by have : z < ρ.n := e; omega)).trans (c3 w z a b c e), fun w j a b c e => ?_⟩
  rw [zR.sK_K]
  by_cases q : w = 2 ∧ j = k
  · rw [if_pos q, q.1, q.2, zput_at]
  · rw [if_neg q, zput_i (by omega)]
    exact c4 w j a b c e
section
variable {d : Nat} {s : zS} {V : zV} {Q : zO → zH → Prop} {ρ : zR} {h : zH}
/-- why not a new call: both give the same reason -/
def zNk (ρ : zR) (x y k : Int) : Prop := ((x = y ∨ zin (zNeeds ρ y) x = true) ∨ k = 2 ∧ zHd ρ x ρ.c.toNat = -1) ∨ ρ.c = 24
set_option maxRecDepth 20000 in
theorem m_addsCall (hd : 5 ≤ d) (hM : zMP s V) (hC : zMC ρ V) (hI : zInts V 165 230) (hW : zWF ρ) {x y l t k : Int} (hx : zI32 x) (hy : zI32 y) (hl : zI32 l) (ht : zI32 t) (hk : zI32 k)
    (h1 : ¬ ((0 ≤ x ∧ x < ρ.n) ∧ 0 ≤ y ∧ y < ρ.n) → Q (.inl (some (zi 1))) (s, V))
    (h2 : (0 ≤ x ∧ x < ρ.n) ∧ 0 ≤ y ∧ y < ρ.n → ¬ (((1 ≤ l ∧ l ≤ 500) ∧ 1 ≤ t ∧ t ≤ 3) ∧ 0 ≤ k ∧ k ≤ 2) → Q (.inl (some (zi 2))) (s, V))
    (h3 : (0 ≤ x ∧ x < ρ.n) ∧ 0 ≤ y ∧ y < ρ.n → ((1 ≤ l ∧ l ≤ 500) ∧ 1 ≤ t ∧ t ≤ 3) ∧ 0 ≤ k ∧ k ≤ 2 → zNk ρ x y k → ∀ V', zFm [165, 169] [9] V V' → V' 165 = V 165 → Q (.inl (some (zi 3))) (s, V'))
    (h0 : (0 ≤ x ∧ x < ρ.n) ∧ 0 ≤ y ∧ y < ρ.n → ((1 ≤ l ∧ l ≤ 500) ∧ 1 ≤ t ∧ t ≤ 3) ∧ 0 ≤ k ∧ k ≤ 2 → ¬ zNk ρ x y k → zMto s V [165, 169] (ρ.addK x y l t k) ρ.c Q) : zcall d 184 [.ref 164, zi x, zi y, zi l, zi t, zi k] (s, V) Q := by
  obtain ⟨n0, n1, c0, c1⟩ := hW.1
  have i0 : zI32 0 := ⟨by omega, by omega⟩
  have i1 : zI32 1 := ⟨by omega, by omega⟩
  have i2 : zI32 500 := ⟨by omega, by omega⟩
  have i3 : zI32 3 := ⟨by omega, by omega⟩
  have i4 : zI32 2 := ⟨by omega, by omega⟩
  have j1 := hx.1
  have j2 := hx.2
  have j3 := hy.1
  have j4 := hy.2
  have j5 := hk.1
  have j6 := hk.2
  have tM := hM.1
  have vm_s : V 164 0 = .ref 165 := (hM.2 0 (by decide)).1
  have tm_s : s.tg 165 = 20 := (hM.2 0 (by decide)).2.1
  have lm_s : s.ln 165 = 230 := (hM.2 0 (by decide)).2.2
  have gc := hC.2.1
  obtain ⟨d, rfl⟩ : ∃ e, d = e + 1 := ⟨d - 1, by omega⟩
  simp (disch := first | assumption | omega) only [zc_184]
  by_cases e1 : (0 ≤ x ∧ x < ρ.n) ∧ 0 ≤ y ∧ y < ρ.n
  · by_cases e2 : ((1 ≤ l ∧ l ≤ 500) ∧ 1 ≤ t ∧ t ≤ 3) ∧ 0 ≤ k ∧ k ≤ 2
    · have h3' := h3 e1 e2
      have h0' := h0 e1 e2
      obtain ⟨⟨a1, a2⟩, a3, a4⟩ := e1
      obtain ⟨⟨⟨b1, b2⟩, b3, b4⟩, b5, b6⟩ := e2
      simp (disch := first | assumption | exact zk_184 | ((repeat (first | exact z1n | refine z1I ?_ | refine z1R ?_)); done) | exact rfl | omega | decide) only [zb_184_0, zb_184_2, r_aload_0, r_iload_1, r_inv_2_0, r_inv_2_1, r_inv_2_2, r_inv_2_3, r_inv_2_4, r_K0, r_K1, r_if_eq, r_iload_2, r_if_ne, r_goto_w, r_iconst, r_iret, r_bret_0, r_bret_1, r_iload_3, r_inv_3_0, r_inv_3_1, r_inv_3_2, r_inv_3_3, r_inv_3_4, r_iload_4, r_iload_5, r_icmp_eq, r_icmp_ne, r_gf_640, r_ial, r_ial30, r_ial32, r_imul, r_iadd, r_istore_6i, r_istore_6r, r_istore_6j, r_iload_6, r_iastore, r_pf_649, r_dup2, vm_s, m_isService (hC := hC), m_in, a1, a2, a3, a4, b1, b2, b3, b4, b5, b6, and_self, ↓reduceIte, not_true_eq_false, not_false_eq_true, Int.reduceEq, Int.reduceLE, Int.reduceLT, Int.reduceAdd, Int.reduceNeg, Int.reduceMul, Int.reduceSub, Int.reduceToNat]
      rw [zb_184_4]
      by_cases exy : x = y
      · simp (disch := first | assumption | exact zk_184 | ((repeat (first | exact z1n | refine z1I ?_ | refine z1R ?_)); done) | exact rfl | omega | decide) only [zb_184_6, r_aload_0, r_iload_1, r_inv_2_0, r_inv_2_1, r_inv_2_2, r_inv_2_3, r_inv_2_4, r_K0, r_K1, r_if_eq, r_iload_2, r_if_ne, r_goto_w, r_iconst, r_iret, r_bret_0, r_bret_1, r_iload_3, r_inv_3_0, r_inv_3_1, r_inv_3_2, r_inv_3_3, r_inv_3_4, r_iload_4, r_iload_5, r_icmp_eq, r_icmp_ne, r_gf_640, r_ial, r_ial30, r_ial32, r_imul, r_iadd, r_istore_6i, r_istore_6r, r_istore_6j, r_iload_6, r_iastore, r_pf_649, r_dup2, vm_s, exy, ↓reduceIte, not_true_eq_false, not_false_eq_true, Int.reduceEq, Int.reduceLE, Int.reduceLT, Int.reduceAdd, Int.reduceNeg, Int.reduceMul, Int.reduceSub, Int.reduceToNat]
        exact h3' (Or.inl (Or.inl (Or.inl exy))) V zFm.rf rfl
      · simp (disch := first | assumption | exact zk_184 | ((repeat (first | exact z1n | refine z1I ?_ | refine z1R ?_)); done) | exact rfl | omega | decide) only [r_aload_0, r_iload_1, r_inv_2_0, r_inv_2_1, r_inv_2_2, r_inv_2_3, r_inv_2_4, r_K0, r_K1, r_if_eq, r_iload_2, r_if_ne, r_goto_w, r_iconst, r_iret, r_bret_0, r_bret_1, r_iload_3, r_inv_3_0, r_inv_3_1, r_inv_3_2, r_inv_3_3, r_inv_3_4, r_iload_4, r_iload_5, r_icmp_eq, r_icmp_ne, r_gf_640, r_ial, r_ial30, r_ial32, r_imul, r_iadd, r_istore_6i, r_istore_6r, r_istore_6j, r_iload_6, r_iastore, r_pf_649, r_dup2, vm_s, exy, ↓reduceIte, not_true_eq_false, not_false_eq_true, Int.reduceEq, Int.reduceLE, Int.reduceLT, Int.reduceAdd, Int.reduceNeg, Int.reduceMul, Int.reduceSub, Int.reduceToNat]
        refine m_dependsOn (by omega) hM hC hW a3 a4 a1 a2 (fun V1 f1 => ?_)
        have f1' : zFm [165, 169] [9] V V1 := f1.mono (fun r hr => by simp at hr; simp [hr]) (fun _ h => by simp at h)
        have e165 : V1 165 = V 165 := f1.1 165 (by omega) (by simp)
        have hM1 : zMP s V1 := hM.fm f1 (by decide)
        have hC1 : zMC ρ V1 := hC.fm f1 (by decide)
        have g0 : V1 164 0 = .ref 165 := (f1.2 0 (by simp)).trans vm_s
        have gc1 := hC1.2.1
        have hC := hC1
        by_cases edp : zin (zNeeds ρ y) x = true
        · simp (disch := first | assumption | exact zk_184 | ((repeat (first | exact z1n | refine z1I ?_ | refine z1R ?_)); done) | exact rfl | omega | decide) only [zb_184_6, r_aload_0, r_iload_1, r_inv_2_0, r_inv_2_1, r_inv_2_2, r_inv_2_3, r_inv_2_4, r_K0, r_K1, r_if_eq, r_iload_2, r_if_ne, r_goto_w, r_iconst, r_iret, r_bret_0, r_bret_1, r_iload_3, r_inv_3_0, r_inv_3_1, r_inv_3_2, r_inv_3_3, r_inv_3_4, r_iload_4, r_iload_5, r_icmp_eq, r_icmp_ne, r_gf_640, r_ial, r_ial30, r_ial32, r_imul, r_iadd, r_istore_6i, r_istore_6r, r_istore_6j, r_iload_6, r_iastore, r_pf_649, r_dup2, vm_s, edp, ↓reduceIte, not_true_eq_false, not_false_eq_true, Int.reduceEq, Int.reduceLE, Int.reduceLT, Int.reduceAdd, Int.reduceNeg, Int.reduceMul, Int.reduceSub, Int.reduceToNat]
          exact h3' (Or.inl (Or.inl (Or.inr edp))) V1 f1' e165
        · have hcn := zHd_cnt hW (x := x)
          have hcr : 0 ≤ zCnt ρ x ∧ zCnt ρ x ≤ 24 := by
            have := zfo_inv (f := fun k m => if ρ.K 0 k = x then m + 1 else m) (x := (0 : Int)) (k := ρ.c) (fun k m => 0 ≤ m ∧ m ≤ k) ⟨by omega, by omega⟩ (fun j y h1 h2 hy => by split <;> omega) c0
            unfold zCnt
            omega
          have last : ¬ (k = 2 ∧ zHd ρ x ρ.c.toNat = -1) → zwp (zcall d) 184 Q (zB 184 5) [.ref 164, zi x, zi y, zi l, zi t, zi k, zJ] [] (s, V1) := by
            intro hnk
            by_cases ec : ρ.c = 24
            · simp (disch := first | assumption | exact zk_184 | ((repeat (first | exact z1n | refine z1I ?_ | refine z1R ?_)); done) | exact rfl | omega | decide) only [zb_184_5, zb_184_6, r_aload_0, r_iload_1, r_inv_2_0, r_inv_2_1, r_inv_2_2, r_inv_2_3, r_inv_2_4, r_K0, r_K1, r_if_eq, r_iload_2, r_if_ne, r_goto_w, r_iconst, r_iret, r_bret_0, r_bret_1, r_iload_3, r_inv_3_0, r_inv_3_1, r_inv_3_2, r_inv_3_3, r_inv_3_4, r_iload_4, r_iload_5, r_icmp_eq, r_icmp_ne, r_gf_640, r_ial, r_ial30, r_ial32, r_imul, r_iadd, r_istore_6i, r_istore_6r, r_istore_6j, r_iload_6, r_iastore, r_pf_649, r_dup2, vm_s, g0, gc1, ec, ↓reduceIte, not_true_eq_false, not_false_eq_true, Int.reduceEq, Int.reduceLE, Int.reduceLT, Int.reduceAdd, Int.reduceNeg, Int.reduceMul, Int.reduceSub, Int.reduceToNat]
              exact h3' (Or.inr ec) V1 f1' e165
            · simp (disch := first | assumption | exact zk_184 | ((repeat (first | exact z1n | refine z1I ?_ | refine z1R ?_)); done) | exact rfl | omega | decide) only [zb_184_5, zb_184_7, r_aload_0, r_iload_1, r_inv_2_0, r_inv_2_1, r_inv_2_2, r_inv_2_3, r_inv_2_4, r_K0, r_K1, r_if_eq, r_iload_2, r_if_ne, r_goto_w, r_iconst, r_iret, r_bret_0, r_bret_1, r_iload_3, r_inv_3_0, r_inv_3_1, r_inv_3_2, r_inv_3_3, r_inv_3_4, r_iload_4, r_iload_5, r_icmp_eq, r_icmp_ne, r_gf_640, r_ial, r_ial30, r_ial32, r_imul, r_iadd, r_istore_6i, r_istore_6r, r_istore_6j, r_iload_6, r_iastore, r_pf_649, r_dup2, vm_s, g0, gc1, ec, zput_i, zput_r, zput_at, zput_k, ↓reduceIte, not_true_eq_false, not_false_eq_true, Int.reduceEq, Int.reduceLE, Int.reduceLT, Int.reduceAdd, Int.reduceNeg, Int.reduceMul, Int.reduceSub, Int.reduceToNat]
              refine h0' (fun q => ?_) _ ?_ ?_ ?_ ?_
              · rcases q with ((q | q) | q) | q
                · exact exy q
                · exact edp q
                · exact hnk q
                · exact ec q
              · repeat (first | exact f1' | refine zFm.pf ?_ (by simp) | refine zFm.pr ?_ (by simp) (by omega))
              · refine zMC.addK hC1 n1 c0 (by omega) (fun i q1 q2 => ?_) ?_ ⟨?_, ?_, ?_, ?_, ?_⟩
                all_goals simp (disch := omega) only [zput_r, zput_i, zput_at, Int.add_zero]
              · intro i q0 q1
                have hI1 : zInts V1 165 230 := by unfold zInts; rw [e165]; exact hI
                exact ((((((((hI1.put).put).put).put).put).put).put)) i q0 q1
              · simp (disch := omega) only [zput_r, zput_at]
          by_cases ek : k = 2
          · by_cases ez : zCnt ρ x = 0
            · simp (disch := first | assumption | exact zk_184 | ((repeat (first | exact z1n | refine z1I ?_ | refine z1R ?_)); done) | exact rfl | omega | decide) only [zb_184_6, r_aload_0, r_iload_1, r_inv_2_0, r_inv_2_1, r_inv_2_2, r_inv_2_3, r_inv_2_4, r_K0, r_K1, r_if_eq, r_iload_2, r_if_ne, r_goto_w, r_iconst, r_iret, r_bret_0, r_bret_1, r_iload_3, r_inv_3_0, r_inv_3_1, r_inv_3_2, r_inv_3_3, r_inv_3_4, r_iload_4, r_iload_5, r_icmp_eq, r_icmp_ne, r_gf_640, r_ial, r_ial30, r_ial32, r_imul, r_iadd, r_istore_6i, r_istore_6r, r_istore_6j, r_iload_6, r_iastore, r_pf_649, r_dup2, vm_s, edp, ek, m_callsOf (hC := hC), ez, ↓reduceIte, not_true_eq_false, not_false_eq_true, Int.reduceEq, Int.reduceLE, Int.reduceLT, Int.reduceAdd, Int.reduceNeg, Int.reduceMul, Int.reduceSub, Int.reduceToNat]
              exact h3' (Or.inl (Or.inr ⟨ek, hcn.mpr ez⟩)) V1 f1' e165
            · have := last (fun q => ez (hcn.mp q.2))
              simp (disch := first | assumption | exact zk_184 | ((repeat (first | exact z1n | refine z1I ?_ | refine z1R ?_)); done) | exact rfl | omega | decide) only [r_aload_0, r_iload_1, r_inv_2_0, r_inv_2_1, r_inv_2_2, r_inv_2_3, r_inv_2_4, r_K0, r_K1, r_if_eq, r_iload_2, r_if_ne, r_goto_w, r_iconst, r_iret, r_bret_0, r_bret_1, r_iload_3, r_inv_3_0, r_inv_3_1, r_inv_3_2, r_inv_3_3, r_inv_3_4, r_iload_4, r_iload_5, r_icmp_eq, r_icmp_ne, r_gf_640, r_ial, r_ial30, r_ial32, r_imul, r_iadd, r_istore_6i, r_istore_6r, r_istore_6j, r_iload_6, r_iastore, r_pf_649, r_dup2, vm_s, edp, ek, m_callsOf (hC := hC), ez, ↓reduceIte, not_true_eq_false, not_false_eq_true, Int.reduceEq, Int.reduceLE, Int.reduceLT, Int.reduceAdd, Int.reduceNeg, Int.reduceMul, Int.reduceSub, Int.reduceToNat]
              rw [ek] at this
              exact this
          · have := last (fun q => ek q.1)
            simp (disch := first | assumption | exact zk_184 | ((repeat (first | exact z1n | refine z1I ?_ | refine z1R ?_)); done) | exact rfl | omega | decide) only [r_aload_0, r_iload_1, r_inv_2_0, r_inv_2_1, r_inv_2_2, r_inv_2_3, r_inv_2_4, r_K0, r_K1, r_if_eq, r_iload_2, r_if_ne, r_goto_w, r_iconst, r_iret, r_bret_0, r_bret_1, r_iload_3, r_inv_3_0, r_inv_3_1, r_inv_3_2, r_inv_3_3, r_inv_3_4, r_iload_4, r_iload_5, r_icmp_eq, r_icmp_ne, r_gf_640, r_ial, r_ial30, r_ial32, r_imul, r_iadd, r_istore_6i, r_istore_6r, r_istore_6j, r_iload_6, r_iastore, r_pf_649, r_dup2, vm_s, edp, ek, ↓reduceIte, not_true_eq_false, not_false_eq_true, Int.reduceEq, Int.reduceLE, Int.reduceLT, Int.reduceAdd, Int.reduceNeg, Int.reduceMul, Int.reduceSub, Int.reduceToNat]
            exact this
    · have h2' := h2 e1 e2
      obtain ⟨⟨a1, a2⟩, a3, a4⟩ := e1
      simp (disch := first | assumption | exact zk_184 | ((repeat (first | exact z1n | refine z1I ?_ | refine z1R ?_)); done) | exact rfl | omega | decide) only [zb_184_0, zb_184_2, zb_184_3, r_aload_0, r_iload_1, r_inv_2_0, r_inv_2_1, r_inv_2_2, r_inv_2_3, r_inv_2_4, r_K0, r_K1, r_if_eq, r_iload_2, r_if_ne, r_goto_w, r_iconst, r_iret, r_bret_0, r_bret_1, r_iload_3, r_inv_3_0, r_inv_3_1, r_inv_3_2, r_inv_3_3, r_inv_3_4, r_iload_4, r_iload_5, r_icmp_eq, r_icmp_ne, r_gf_640, r_ial, r_ial30, r_ial32, r_imul, r_iadd, r_istore_6i, r_istore_6r, r_istore_6j, r_iload_6, r_iastore, r_pf_649, r_dup2, vm_s, m_isService (hC := hC), m_in, a1, a2, a3, a4, and_self, ↓reduceIte, not_true_eq_false, not_false_eq_true, Int.reduceEq, Int.reduceLE, Int.reduceLT, Int.reduceAdd, Int.reduceNeg, Int.reduceMul, Int.reduceSub, Int.reduceToNat]
      (repeat' split) <;> first | exact h2' | (exfalso; omega)
  · have h1' := h1 e1
    simp (disch := first | assumption | exact zk_184 | ((repeat (first | exact z1n | refine z1I ?_ | refine z1R ?_)); done) | exact rfl | omega | decide) only [zb_184_0, zb_184_1, r_aload_0, r_iload_1, r_inv_2_0, r_inv_2_1, r_inv_2_2, r_inv_2_3, r_inv_2_4, r_K0, r_K1, r_if_eq, r_iload_2, r_if_ne, r_goto_w, r_iconst, r_iret, r_bret_0, r_bret_1, r_iload_3, r_inv_3_0, r_inv_3_1, r_inv_3_2, r_inv_3_3, r_inv_3_4, r_iload_4, r_iload_5, r_icmp_eq, r_icmp_ne, r_gf_640, r_ial, r_ial30, r_ial32, r_imul, r_iadd, r_istore_6i, r_istore_6r, r_istore_6j, r_iload_6, r_iastore, r_pf_649, r_dup2, vm_s, m_isService (hC := hC), ↓reduceIte, not_true_eq_false, not_false_eq_true, Int.reduceEq, Int.reduceLE, Int.reduceLT, Int.reduceAdd, Int.reduceNeg, Int.reduceMul, Int.reduceSub, Int.reduceToNat]
    (repeat' split) <;> first | exact h1' | (exfalso; omega)
end
