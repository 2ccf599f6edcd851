/-! CALLS OF THE MODEL, 6: request -/
section
variable {d : Nat} {s : zS} {V V' : zV} {Q K : zO → zH → Prop} {σ : zσ} {h : zH} {l : List Nat} {ks : List Int}
set_option maxRecDepth 20000 in
theorem u_request (hd : 20 ≤ d) (hm : zWm σ s V) (ho : zOK σ) {x b : Int} (hx : zI32 x) (hb : zI32 b) (e1 : ¬ (0 ≤ x ∧ x < σ.r.n) → zMth Q 1 σ s V) (e2 : 0 ≤ x ∧ x < σ.r.n → ¬ (0 ≤ b ∧ b ≤ 1000) → zMth Q 2 σ s V) (h0 : 0 ≤ x ∧ x < σ.r.n → 0 ≤ b ∧ b ≤ 1000 → zMrt Q (zb1 (zSv σ.r 12 x 0 b zN0).1.2) (σ.rq (zSv σ.r 12 x 0 b zN0)) s V) : zcall d 218 [.ref 164, zi x, zi b] (s, V) Q := by
  obtain ⟨hM, hC, hI, hPa, hX, ⟨hi1, hi2⟩, hR⟩ := id hm
  have hW := ho.1
  obtain ⟨n0, n1, c0, c1⟩ := hW.1
  obtain ⟨p0, p1⟩ := ho.2.1
  have tM := hM.1
  have hH : ∀ k : Nat, (k : Int) < σ.p → (σ.H k).n ≤ 12 ∧ (σ.H k).c ≤ 24 := fun k hk => by
    obtain ⟨b0, b1, b2, b3⟩ := (ho.2.2.1 k hk).1
    exact ⟨b1, b3⟩
  have i1 : zI32 0 := ⟨by omega, by omega⟩
  have i2 : zI32 1000 := ⟨by omega, by omega⟩
  obtain ⟨d, rfl⟩ : ∃ e, d = e + 1 := ⟨d - 1, by omega⟩
  simp (disch := first | assumption | omega) only [zc_218]
  by_cases q1 : 0 ≤ x ∧ x < σ.r.n
  · obtain ⟨q3, q4⟩ := id q1
    by_cases q2 : 0 ≤ b ∧ b ≤ 1000
    · have h0' := h0 q1 q2
      obtain ⟨q5, q6⟩ := id q2
      have hf6 : zFm [] [6] V (zput V 164 6 (zi 0)) := zFm.rf.pf (by simp)
      have hM1 := hM.fm hf6 (by decide)
      have hC1 := hC.fm hf6 (by decide)
      have j1 : zInts (zput V 164 6 (zi 0)) 181 240 := by unfold zInts; rw [hf6.1 181 (by omega) (by simp)]; exact hi1
      have j2 : zInts (zput V 164 6 (zi 0)) 182 800 := by unfold zInts; rw [hf6.1 182 (by omega) (by simp)]; exact hi2
      simp (disch := first | assumption | exact zk_218 | ((repeat (first | exact z1n | refine z1I ?_ | refine z1R ?_)); done) | exact rfl | omega | decide) only [zb_218_0, zb_218_3, zb_218_6, r_aload_0, r_iload_1, r_inv_2_0, r_inv_2_1, r_inv_2_2, r_inv_2_3, r_inv_2_4, r_K0, r_K1, r_if_ne, r_iconst, r_if_eq, r_goto, r_goto_w, r_iret, r_bret_0, r_bret_1, r_iload_2, r_inv_3_0, r_inv_3_1, r_inv_3_2, r_inv_3_3, r_inv_3_4, r_pf_646, r_istore_3i, r_istore_3r, r_istore_3j, r_gf_670, r_gf_661, r_iastore, r_gf_662, r_gf_663, r_gf_664, r_iload_3, r_gf_665, r_icmp_ne, r_gf_666, r_gf_667, r_istore_4i, r_istore_4r, r_istore_4j, r_iload_4, r_icmp_ge, r_gf_671, r_gf_668, r_ial, r_ial30, r_ial32, r_iinc_4i, r_iinc_4r, r_iinc_4j, r_gf_672, r_gf_669, r_pf_673_0, r_pf_673_1, r_pf_673, m_isService (hC := hC), q3, q4, q5, q6, and_self, m_in, ↓reduceIte, not_true_eq_false, not_false_eq_true, Int.reduceEq, Int.reduceLE, Int.reduceLT, Int.reduceAdd, Int.reduceNeg, Int.reduceMul, Int.reduceSub, Int.reduceToNat]
      refine m_serves (by omega) hW hM1 hC1 j1 j2 q3 q4 q5 q6 (fun V2 f2 hN2 hk2 v21 => ?_)
      have hM2 := hM1.fm f2 (by decide)
      have tM2 := hM2.1
      generalize zSv σ.r 12 x 0 b zN0 = Z at h0' hN2 hk2 v21
      obtain ⟨⟨o, g⟩, ν⟩ := Z
      dsimp only at h0' hN2 hk2 v21 ⊢
      obtain ⟨⟨a1, a2, a3, a4, a5, a6⟩, a7, a8, a9, a10⟩ := hN2
      have r3 : V2 164 30 = .ref 183 := (hM2.2 18 (by decide)).1
      have t3 : s.tg 183 = 20 := (hM2.2 18 (by decide)).2.1
      have l3 : s.ln 183 = 6 := (hM2.2 18 (by decide)).2.2
      have r4 : V2 164 31 = .ref 184 := (hM2.2 19 (by decide)).1
      have t4 : s.tg 184 = 20 := (hM2.2 19 (by decide)).2.1
      have l4 : s.ln 184 = 240 := (hM2.2 19 (by decide)).2.2
      have r5 : V2 164 32 = .ref 185 := (hM2.2 20 (by decide)).1
      have t5 : s.tg 185 = 20 := (hM2.2 20 (by decide)).2.1
      have l5 : s.ln 185 = 800 := (hM2.2 20 (by decide)).2.2
      have r1 : V2 164 28 = .ref 181 := (hM2.2 16 (by decide)).1
      have t1 : s.tg 181 = 20 := (hM2.2 16 (by decide)).2.1
      have l1 : s.ln 181 = 240 := (hM2.2 16 (by decide)).2.2
      have r2 : V2 164 29 = .ref 182 := (hM2.2 17 (by decide)).1
      have t2 : s.tg 182 = 20 := (hM2.2 17 (by decide)).2.1
      have l2 : s.ln 182 = 800 := (hM2.2 17 (by decide)).2.2
      have hbl : ∀ A, A = zBlm (o, g) ν → zwp (zcall d) 218 Q (zB 218 9) [.ref 164, zi x, zi b, zi (zb1 g), zJ] [zi A, zi 4, .ref 183] (s, zput (zput (zput (zput V2 183 0 (zi o)) 183 1 (zi ν.mi)) 183 2 (zi ν.fc)) 183 3 (zi ν.tc)) := by
        intro A hA
        generalize hV3 : zput (zput (zput (zput (zput (zput V2 183 0 (zi o)) 183 1 (zi ν.mi)) 183 2 (zi ν.fc)) 183 3 (zi ν.tc)) 183 4 (zi A)) 183 5 (zi ν.sv) = V3
        have F3 : zFm [183] [] V2 V3 := by
          rw [← hV3]
          exact (((((zFm.rf.pr (by simp) (by omega)).pr (by simp) (by omega)).pr (by simp) (by omega)).pr (by simp) (by omega)).pr (by simp) (by omega)).pr (by simp) (by omega)
        have s0 : V3 183 0 = zi o ∧ V3 183 1 = zi ν.mi ∧ V3 183 2 = zi ν.fc ∧ V3 183 3 = zi ν.tc ∧ V3 183 4 = zi A ∧ V3 183 5 = zi ν.sv := by
          rw [← hV3]
          refine ⟨?_, ?_, ?_, ?_, ?_, ?_⟩ <;> simp (disch := omega) only [zput_k, zput_at]
        have lo1 := z_iter (i := 0) (n := 240) (I := fun k (u : zV) => zFm [183, 184] [] V2 u ∧ u 183 = V3 183 ∧ ∀ i, 0 ≤ i → i < k → u 184 i = V2 181 i) (P := fun k u => zwp (zcall d) 218 Q (zB 218 10) [.ref 164, zi x, zi b, zi (zb1 g), zi k] [] (s, u)) (by omega)
        have key := lo1 ?_ ?_ V3 ⟨F3.mono (by simp) (fun _ h => h), rfl, fun i _ _ => by omega⟩
        · conv => rw [zb_218_9]
          simp (disch := first | assumption | exact zk_218 | ((repeat (first | exact z1n | refine z1I ?_ | refine z1R ?_)); done) | exact rfl | omega | decide) only [r_aload_0, r_iload_1, r_inv_2_0, r_inv_2_1, r_inv_2_2, r_inv_2_3, r_inv_2_4, r_K0, r_K1, r_if_ne, r_iconst, r_if_eq, r_goto, r_goto_w, r_iret, r_bret_0, r_bret_1, r_iload_2, r_inv_3_0, r_inv_3_1, r_inv_3_2, r_inv_3_3, r_inv_3_4, r_pf_646, r_istore_3i, r_istore_3r, r_istore_3j, r_gf_670, r_gf_661, r_iastore, r_gf_662, r_gf_663, r_gf_664, r_iload_3, r_gf_665, r_icmp_ne, r_gf_666, r_gf_667, r_istore_4i, r_istore_4r, r_istore_4j, r_iload_4, r_icmp_ge, r_gf_671, r_gf_668, r_ial, r_ial30, r_ial32, r_iinc_4i, r_iinc_4r, r_iinc_4j, r_gf_672, r_gf_669, r_pf_673_0, r_pf_673_1, r_pf_673, r3, a2, zput_r, hV3, ↓reduceIte, not_true_eq_false, not_false_eq_true, Int.reduceEq, Int.reduceLE, Int.reduceLT, Int.reduceAdd, Int.reduceNeg, Int.reduceMul, Int.reduceSub, Int.reduceToNat]
          exact key
        · rintro k U k0 k1 ⟨F, hU, hk⟩ ih
          obtain ⟨zv, hzv⟩ := a9 k k0 k1
          have u4 : U 164 31 = .ref 184 := (F.2 31 (by simp)).trans r4
          have u1 : U 164 28 = .ref 181 := (F.2 28 (by simp)).trans r1
          have ev : U 181 k = zi zv := by rw [F.1 181 (by omega) (by simp)]; exact hzv
          have := ih (zput U 184 k (zi zv)) ⟨F.pr (by simp) (by omega), by rw [zput_row (by omega)]; exact hU, fun i i0 i1 => by
            by_cases c : i = k
            · rw [c, zput_at, hzv]
            · rw [zput_i c]; exact hk i i0 (by omega)⟩
          conv => rw [zb_218_10]
          simp (disch := first | assumption | exact zk_218 | ((repeat (first | exact z1n | refine z1I ?_ | refine z1R ?_)); done) | exact rfl | omega | decide) only [r_aload_0, r_iload_1, r_inv_2_0, r_inv_2_1, r_inv_2_2, r_inv_2_3, r_inv_2_4, r_K0, r_K1, r_if_ne, r_iconst, r_if_eq, r_goto, r_goto_w, r_iret, r_bret_0, r_bret_1, r_iload_2, r_inv_3_0, r_inv_3_1, r_inv_3_2, r_inv_3_3, r_inv_3_4, r_pf_646, r_istore_3i, r_istore_3r, r_istore_3j, r_gf_670, r_gf_661, r_iastore, r_gf_662, r_gf_663, r_gf_664, r_iload_3, r_gf_665, r_icmp_ne, r_gf_666, r_gf_667, r_istore_4i, r_istore_4r, r_istore_4j, r_iload_4, r_icmp_ge, r_gf_671, r_gf_668, r_ial, r_ial30, r_ial32, r_iinc_4i, r_iinc_4r, r_iinc_4j, r_gf_672, r_gf_669, r_pf_673_0, r_pf_673_1, r_pf_673, u4, u1, ev, ↓reduceIte, not_true_eq_false, not_false_eq_true, Int.reduceEq, Int.reduceLE, Int.reduceLT, Int.reduceAdd, Int.reduceNeg, Int.reduceMul, Int.reduceSub, Int.reduceToNat]
          rw [if_neg (by omega)]
          exact this
        · rintro U ⟨F, hU, hk⟩
          have lo2 := z_iter (i := 0) (n := 800) (I := fun k (u : zV) => zFm [183, 184, 185] [] V2 u ∧ u 183 = V3 183 ∧ u 184 = U 184 ∧ ∀ i, 0 ≤ i → i < k → u 185 i = V2 182 i) (P := fun k u => zwp (zcall d) 218 Q (zB 218 12) [.ref 164, zi x, zi b, zi (zb1 g), zi k] [] (s, u)) (by omega)
          have key := lo2 ?_ ?_ U ⟨F.mono (by simp) (fun _ h => h), hU, rfl, fun i _ _ => by omega⟩
          · simp (disch := first | assumption | exact zk_218 | ((repeat (first | exact z1n | refine z1I ?_ | refine z1R ?_)); done) | exact rfl | omega | decide) only [zb_218_10, zb_218_11, r_aload_0, r_iload_1, r_inv_2_0, r_inv_2_1, r_inv_2_2, r_inv_2_3, r_inv_2_4, r_K0, r_K1, r_if_ne, r_iconst, r_if_eq, r_goto, r_goto_w, r_iret, r_bret_0, r_bret_1, r_iload_2, r_inv_3_0, r_inv_3_1, r_inv_3_2, r_inv_3_3, r_inv_3_4, r_pf_646, r_istore_3i, r_istore_3r, r_istore_3j, r_gf_670, r_gf_661, r_iastore, r_gf_662, r_gf_663, r_gf_664, r_iload_3, r_gf_665, r_icmp_ne, r_gf_666, r_gf_667, r_istore_4i, r_istore_4r, r_istore_4j, r_iload_4, r_icmp_ge, r_gf_671, r_gf_668, r_ial, r_ial30, r_ial32, r_iinc_4i, r_iinc_4r, r_iinc_4j, r_gf_672, r_gf_669, r_pf_673_0, r_pf_673_1, r_pf_673, ↓reduceIte, not_true_eq_false, not_false_eq_true, Int.reduceEq, Int.reduceLE, Int.reduceLT, Int.reduceAdd, Int.reduceNeg, Int.reduceMul, Int.reduceSub, Int.reduceToNat]
            exact key
          · rintro k W k0 k1 ⟨G, hW1, hW2, hkk⟩ ih
            obtain ⟨zv, hzv⟩ := a10 k k0 k1
            have u4 : W 164 32 = .ref 185 := (G.2 32 (by simp)).trans r5
            have u1 : W 164 29 = .ref 182 := (G.2 29 (by simp)).trans r2
            have ev : W 182 k = zi zv := by rw [G.1 182 (by omega) (by simp)]; exact hzv
            have := ih (zput W 185 k (zi zv)) ⟨G.pr (by simp) (by omega), by rw [zput_row (by omega)]; exact hW1, by rw [zput_row (by omega)]; exact hW2, fun i i0 i1 => by
              by_cases c : i = k
              · rw [c, zput_at, hzv]
              · rw [zput_i c]; exact hkk i i0 (by omega)⟩
            conv => rw [zb_218_12]
            simp (disch := first | assumption | exact zk_218 | ((repeat (first | exact z1n | refine z1I ?_ | refine z1R ?_)); done) | exact rfl | omega | decide) only [r_aload_0, r_iload_1, r_inv_2_0, r_inv_2_1, r_inv_2_2, r_inv_2_3, r_inv_2_4, r_K0, r_K1, r_if_ne, r_iconst, r_if_eq, r_goto, r_goto_w, r_iret, r_bret_0, r_bret_1, r_iload_2, r_inv_3_0, r_inv_3_1, r_inv_3_2, r_inv_3_3, r_inv_3_4, r_pf_646, r_istore_3i, r_istore_3r, r_istore_3j, r_gf_670, r_gf_661, r_iastore, r_gf_662, r_gf_663, r_gf_664, r_iload_3, r_gf_665, r_icmp_ne, r_gf_666, r_gf_667, r_istore_4i, r_istore_4r, r_istore_4j, r_iload_4, r_icmp_ge, r_gf_671, r_gf_668, r_ial, r_ial30, r_ial32, r_iinc_4i, r_iinc_4r, r_iinc_4j, r_gf_672, r_gf_669, r_pf_673_0, r_pf_673_1, r_pf_673, u4, u1, ev, ↓reduceIte, not_true_eq_false, not_false_eq_true, Int.reduceEq, Int.reduceLE, Int.reduceLT, Int.reduceAdd, Int.reduceNeg, Int.reduceMul, Int.reduceSub, Int.reduceToNat]
            rw [if_neg (by omega)]
            exact this
          · rintro W ⟨G, hW1, hW2, hkk⟩
            have G2 : zFm (zLvF ++ [183, 184, 185]) (zLvK ++ [21, 6, 33]) V (zput W 164 33 (zi 1)) := (((hf6.mono (by simp) (by decide)).tr (f2.mono (by decide) (by decide))).tr (G.mono (by decide) (by simp))).pf (by decide)
            have ee : ∀ r, r ≠ 164 → zput W 164 33 (zi 1) r = W r := fun r hr => zput_row hr
            have e81 : W 181 = V2 181 := G.1 181 (by omega) (by simp)
            have e82 : W 182 = V2 182 := G.1 182 (by omega) (by simp)
            have := h0' (zput W 164 33 (zi 1)) (G2.f9 (by decide)) ⟨hM.fm G2 (by decide), hC.fm G2 (by decide), (by unfold zInts; rw [G2.1 165 (by omega) (by decide)]; exact hI), hPa.fm2 G2 (by decide) (by decide), hX.fm G2 (by decide) (by decide), ⟨(by unfold zInts; rw [ee 181 (by omega), e81]; exact a9), (by unfold zInts; rw [ee 182 (by omega), e82]; exact a10)⟩, ⟨zput_at, fun _ => ⟨by
              rw [ee 183 (by omega), hW1]
              obtain ⟨c0, c1, c2, c3, c4, c5⟩ := s0
              rw [hA] at c4
              exact ⟨c0, c1, c2, c3, c4, c5⟩, fun w k w0 w1 k0 k1 => by
              rw [ee 184 (by omega), hW2, hk _ (by omega) (by have : k < ν.fc := k1; have := hk2.1; omega)]
              exact a7 w k w0 w1 k0 k1, fun w k w0 w1 k0 k1 => by
              rw [ee 185 (by omega), hkk _ (by omega) (by have : k < ν.tc := k1; have := hk2.2.1; omega)]
              exact a8 w k w0 w1 k0 k1⟩⟩⟩ (by
              rw [zput_k (by omega), G.2 6 (by simp), f2.2 6 (by decide)]
              exact zput_at)
            have tW := (hM2.fm G (by decide)).1
            cases g
            · rw [show zb1 false = 0 from rfl] at this ⊢
              simp (disch := first | assumption | exact zk_218 | ((repeat (first | exact z1n | refine z1I ?_ | refine z1R ?_)); done) | exact rfl | omega | decide) only [zb_218_12, zb_218_13, r_aload_0, r_iload_1, r_inv_2_0, r_inv_2_1, r_inv_2_2, r_inv_2_3, r_inv_2_4, r_K0, r_K1, r_if_ne, r_iconst, r_if_eq, r_goto, r_goto_w, r_iret, r_bret_0, r_bret_1, r_iload_2, r_inv_3_0, r_inv_3_1, r_inv_3_2, r_inv_3_3, r_inv_3_4, r_pf_646, r_istore_3i, r_istore_3r, r_istore_3j, r_gf_670, r_gf_661, r_iastore, r_gf_662, r_gf_663, r_gf_664, r_iload_3, r_gf_665, r_icmp_ne, r_gf_666, r_gf_667, r_istore_4i, r_istore_4r, r_istore_4j, r_iload_4, r_icmp_ge, r_gf_671, r_gf_668, r_ial, r_ial30, r_ial32, r_iinc_4i, r_iinc_4r, r_iinc_4j, r_gf_672, r_gf_669, r_pf_673_0, r_pf_673_1, r_pf_673, ↓reduceIte, not_true_eq_false, not_false_eq_true, Int.reduceEq, Int.reduceLE, Int.reduceLT, Int.reduceAdd, Int.reduceNeg, Int.reduceMul, Int.reduceSub, Int.reduceToNat]
              exact this
            · rw [show zb1 true = 1 from rfl] at this ⊢
              simp (disch := first | assumption | exact zk_218 | ((repeat (first | exact z1n | refine z1I ?_ | refine z1R ?_)); done) | exact rfl | omega | decide) only [zb_218_12, zb_218_13, r_aload_0, r_iload_1, r_inv_2_0, r_inv_2_1, r_inv_2_2, r_inv_2_3, r_inv_2_4, r_K0, r_K1, r_if_ne, r_iconst, r_if_eq, r_goto, r_goto_w, r_iret, r_bret_0, r_bret_1, r_iload_2, r_inv_3_0, r_inv_3_1, r_inv_3_2, r_inv_3_3, r_inv_3_4, r_pf_646, r_istore_3i, r_istore_3r, r_istore_3j, r_gf_670, r_gf_661, r_iastore, r_gf_662, r_gf_663, r_gf_664, r_iload_3, r_gf_665, r_icmp_ne, r_gf_666, r_gf_667, r_istore_4i, r_istore_4r, r_istore_4j, r_iload_4, r_icmp_ge, r_gf_671, r_gf_668, r_ial, r_ial30, r_ial32, r_iinc_4i, r_iinc_4r, r_iinc_4j, r_gf_672, r_gf_669, r_pf_673_0, r_pf_673_1, r_pf_673, ↓reduceIte, not_true_eq_false, not_false_eq_true, Int.reduceEq, Int.reduceLE, Int.reduceLT, Int.reduceAdd, Int.reduceNeg, Int.reduceMul, Int.reduceSub, Int.reduceToNat]
              exact this
      obtain ⟨kf, kt, kff, kfa⟩ := hk2
      cases g
      · rw [show zb1 false = 0 from rfl] at hbl ⊢
        by_cases c : ν.fa = -1
        · have := hbl ν.ff (by unfold zBlm; rw [if_neg (by simp), if_pos c])
          simp (disch := first | assumption | exact zk_218 | ((repeat (first | exact z1n | refine z1I ?_ | refine z1R ?_)); done) | exact rfl | omega | decide) only [zb_218_7, zb_218_8, r_aload_0, r_iload_1, r_inv_2_0, r_inv_2_1, r_inv_2_2, r_inv_2_3, r_inv_2_4, r_K0, r_K1, r_if_ne, r_iconst, r_if_eq, r_goto, r_goto_w, r_iret, r_bret_0, r_bret_1, r_iload_2, r_inv_3_0, r_inv_3_1, r_inv_3_2, r_inv_3_3, r_inv_3_4, r_pf_646, r_istore_3i, r_istore_3r, r_istore_3j, r_gf_670, r_gf_661, r_iastore, r_gf_662, r_gf_663, r_gf_664, r_iload_3, r_gf_665, r_icmp_ne, r_gf_666, r_gf_667, r_istore_4i, r_istore_4r, r_istore_4j, r_iload_4, r_icmp_ge, r_gf_671, r_gf_668, r_ial, r_ial30, r_ial32, r_iinc_4i, r_iinc_4r, r_iinc_4j, r_gf_672, r_gf_669, r_pf_673_0, r_pf_673_1, r_pf_673, r3, v21, a1, a5, a6, zput_r, a4, c, a3, ↓reduceIte, not_true_eq_false, not_false_eq_true, Int.reduceEq, Int.reduceLE, Int.reduceLT, Int.reduceAdd, Int.reduceNeg, Int.reduceMul, Int.reduceSub, Int.reduceToNat]
          exact this
        · have := hbl ν.fa (by unfold zBlm; rw [if_neg (by simp), if_neg c])
          simp (disch := first | assumption | exact zk_218 | ((repeat (first | exact z1n | refine z1I ?_ | refine z1R ?_)); done) | exact rfl | omega | decide) only [zb_218_7, zb_218_8, r_aload_0, r_iload_1, r_inv_2_0, r_inv_2_1, r_inv_2_2, r_inv_2_3, r_inv_2_4, r_K0, r_K1, r_if_ne, r_iconst, r_if_eq, r_goto, r_goto_w, r_iret, r_bret_0, r_bret_1, r_iload_2, r_inv_3_0, r_inv_3_1, r_inv_3_2, r_inv_3_3, r_inv_3_4, r_pf_646, r_istore_3i, r_istore_3r, r_istore_3j, r_gf_670, r_gf_661, r_iastore, r_gf_662, r_gf_663, r_gf_664, r_iload_3, r_gf_665, r_icmp_ne, r_gf_666, r_gf_667, r_istore_4i, r_istore_4r, r_istore_4j, r_iload_4, r_icmp_ge, r_gf_671, r_gf_668, r_ial, r_ial30, r_ial32, r_iinc_4i, r_iinc_4r, r_iinc_4j, r_gf_672, r_gf_669, r_pf_673_0, r_pf_673_1, r_pf_673, r3, v21, a1, a5, a6, zput_r, a4, c, a3, ↓reduceIte, not_true_eq_false, not_false_eq_true, Int.reduceEq, Int.reduceLE, Int.reduceLT, Int.reduceAdd, Int.reduceNeg, Int.reduceMul, Int.reduceSub, Int.reduceToNat]
          exact this
      · rw [show zb1 true = 1 from rfl] at hbl ⊢
        have := hbl (-1) (by unfold zBlm; rw [if_pos rfl])
        simp (disch := first | assumption | exact zk_218 | ((repeat (first | exact z1n | refine z1I ?_ | refine z1R ?_)); done) | exact rfl | omega | decide) only [r_aload_0, r_iload_1, r_inv_2_0, r_inv_2_1, r_inv_2_2, r_inv_2_3, r_inv_2_4, r_K0, r_K1, r_if_ne, r_iconst, r_if_eq, r_goto, r_goto_w, r_iret, r_bret_0, r_bret_1, r_iload_2, r_inv_3_0, r_inv_3_1, r_inv_3_2, r_inv_3_3, r_inv_3_4, r_pf_646, r_istore_3i, r_istore_3r, r_istore_3j, r_gf_670, r_gf_661, r_iastore, r_gf_662, r_gf_663, r_gf_664, r_iload_3, r_gf_665, r_icmp_ne, r_gf_666, r_gf_667, r_istore_4i, r_istore_4r, r_istore_4j, r_iload_4, r_icmp_ge, r_gf_671, r_gf_668, r_ial, r_ial30, r_ial32, r_iinc_4i, r_iinc_4r, r_iinc_4j, r_gf_672, r_gf_669, r_pf_673_0, r_pf_673_1, r_pf_673, r3, v21, a1, a5, a6, zput_r, ↓reduceIte, not_true_eq_false, not_false_eq_true, Int.reduceEq, Int.reduceLE, Int.reduceLT, Int.reduceAdd, Int.reduceNeg, Int.reduceMul, Int.reduceSub, Int.reduceToNat]
        exact this
    · have := (e2 q1 q2).go hm
      simp (disch := first | assumption | exact zk_218 | ((repeat (first | exact z1n | refine z1I ?_ | refine z1R ?_)); done) | exact rfl | omega | decide) only [zb_218_0, zb_218_3, zb_218_4, zb_218_5, r_aload_0, r_iload_1, r_inv_2_0, r_inv_2_1, r_inv_2_2, r_inv_2_3, r_inv_2_4, r_K0, r_K1, r_if_ne, r_iconst, r_if_eq, r_goto, r_goto_w, r_iret, r_bret_0, r_bret_1, r_iload_2, r_inv_3_0, r_inv_3_1, r_inv_3_2, r_inv_3_3, r_inv_3_4, r_pf_646, r_istore_3i, r_istore_3r, r_istore_3j, r_gf_670, r_gf_661, r_iastore, r_gf_662, r_gf_663, r_gf_664, r_iload_3, r_gf_665, r_icmp_ne, r_gf_666, r_gf_667, r_istore_4i, r_istore_4r, r_istore_4j, r_iload_4, r_icmp_ge, r_gf_671, r_gf_668, r_ial, r_ial30, r_ial32, r_iinc_4i, r_iinc_4r, r_iinc_4j, r_gf_672, r_gf_669, r_pf_673_0, r_pf_673_1, r_pf_673, m_isService (hC := hC), q3, q4, and_self, m_in, q2, m_fails, ↓reduceIte, not_true_eq_false, not_false_eq_true, Int.reduceEq, Int.reduceLE, Int.reduceLT, Int.reduceAdd, Int.reduceNeg, Int.reduceMul, Int.reduceSub, Int.reduceToNat]
      exact this
  · have := (e1 q1).go hm
    simp (disch := first | assumption | exact zk_218 | ((repeat (first | exact z1n | refine z1I ?_ | refine z1R ?_)); done) | exact rfl | omega | decide) only [zb_218_0, zb_218_1, zb_218_2, r_aload_0, r_iload_1, r_inv_2_0, r_inv_2_1, r_inv_2_2, r_inv_2_3, r_inv_2_4, r_K0, r_K1, r_if_ne, r_iconst, r_if_eq, r_goto, r_goto_w, r_iret, r_bret_0, r_bret_1, r_iload_2, r_inv_3_0, r_inv_3_1, r_inv_3_2, r_inv_3_3, r_inv_3_4, r_pf_646, r_istore_3i, r_istore_3r, r_istore_3j, r_gf_670, r_gf_661, r_iastore, r_gf_662, r_gf_663, r_gf_664, r_iload_3, r_gf_665, r_icmp_ne, r_gf_666, r_gf_667, r_istore_4i, r_istore_4r, r_istore_4j, r_iload_4, r_icmp_ge, r_gf_671, r_gf_668, r_ial, r_ial30, r_ial32, r_iinc_4i, r_iinc_4r, r_iinc_4j, r_gf_672, r_gf_669, r_pf_673_0, r_pf_673_1, r_pf_673, m_isService (hC := hC), q1, m_fails, ↓reduceIte, not_true_eq_false, not_false_eq_true, Int.reduceEq, Int.reduceLE, Int.reduceLT, Int.reduceAdd, Int.reduceNeg, Int.reduceMul, Int.reduceSub, Int.reduceToNat]
    exact this
end
