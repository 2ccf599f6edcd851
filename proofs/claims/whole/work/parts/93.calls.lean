/-! CALLS OF THE CLASS, 5: recoveryStart, digest -/
section
variable {d : Nat} {s : zS} {V : zV} {Q : zO → zH → Prop} {σ : zσ} {h : zH}
def zRst (ρ : zR) (c x : Int) : Int := if ρ.S 6 x = 1 then -1 else (zQR ρ c).2 x
set_option maxRecDepth 20000 in
theorem w_recoveryStart (hd : 20 ≤ d) (hw : zWc σ s V) (ho : zOK σ) {c x : Int} (hc : zI32 c) (hx : zI32 x) (hbn : ∀ y, 0 ≤ y → y < σ.r.n → ¬ σ.r.S 6 y = 1 → 1 ≤ c ∧ c ≤ 4 → (zQR σ.r c).2 y ≠ -1) (e1 : ¬ (1 ≤ c ∧ c ≤ 4) → zThr Q 2 σ s V) (e2 : 1 ≤ c ∧ c ≤ 4 → ¬ (0 ≤ x ∧ x < σ.r.n) → zThr Q 1 σ s V) (h0 : 1 ≤ c ∧ c ≤ 4 → 0 ≤ x ∧ x < σ.r.n → zRet Q (zRst σ.r c x) σ s V) : zcall d 143 [.ref 5, zi c, zi x] (s, V) Q := by
  have hw0 := hw
  obtain ⟨hA, ⟨hP, hC⟩, hB2, hHH, hD, hE, hF, hG, hI, hJ, hs, t1, l1⟩ := hw
  obtain ⟨κ, hHP, hHC⟩ := id hHH
  have hW := ho.1
  obtain ⟨n0, n1, c0, c1⟩ := hW.1
  obtain ⟨⟨s1, s2, s3, s4, s5, s6, s7, s8, s9, s10⟩, hSA, hSM⟩ := id hA
  have tO := hP.1
  have tH := hHP.1
  have tG := hD.1
  have z := zExt.rf (s := s) (n := 1) (k := 6012)
  have i1 : zI32 1 := ⟨by omega, by omega⟩
  have i2 : zI32 4 := ⟨by omega, by omega⟩
  have tR := hG.1.1
  obtain ⟨d, rfl⟩ : ∃ e, d = e + 1 := ⟨d - 1, by omega⟩
  simp (disch := first | assumption | omega) only [zc_143]
  by_cases q1 : 1 ≤ c ∧ c ≤ 4
  · by_cases q2 : 0 ≤ x ∧ x < σ.r.n
    · have h0' := h0 q1 q2
      have hb := hbn x q2.1 q2.2
      obtain ⟨q3, q4⟩ := q2
      unfold zRst at h0'
      by_cases q5 : σ.r.S 6 x = 1
      · rw [if_pos q5] at h0'
        have := h0' s V zSte.rf hw0
        simp (disch := first | assumption | exact zk_143 | ((repeat (first | exact z1n | refine z1I ?_ | refine z1R ?_)); done) | exact rfl | omega | decide) only [zb_143_0, zb_143_1, r_iload_1, r_iconst, r_inv_3_0, r_inv_3_1, r_inv_3_2, r_inv_3_3, r_inv_3_4, r_K0, r_K1, r_inv_1_0, r_inv_1_1, r_inv_1_2, r_inv_1_3, r_inv_1_4, r_aload_0, r_gf_576, r_iload_2, r_inv_2_0, r_inv_2_1, r_inv_2_2, r_inv_2_3, r_inv_2_4, r_if_eq, r_iret, r_bret_0, r_bret_1, r_gf_582, r_pop_i, r_pop_r, r_gf_257, r_ial, r_ial30, r_ial32, r_KX, s2, s8, c_within, q1, q3, q4, and_self, c_ref0, c_whyNoService (hC := hC), c_isUp (hC := hC), q5, ↓reduceIte, not_true_eq_false, not_false_eq_true, Int.reduceEq, Int.reduceLE, Int.reduceLT, Int.reduceAdd, Int.reduceNeg, Int.reduceMul, Int.reduceSub, Int.reduceToNat]
        exact this
      · rw [if_neg q5] at h0'
        have hb := hb q5 q1
        simp (disch := first | assumption | exact zk_143 | ((repeat (first | exact z1n | refine z1I ?_ | refine z1R ?_)); done) | exact rfl | omega | decide) only [zb_143_0, zb_143_1, r_iload_1, r_iconst, r_inv_3_0, r_inv_3_1, r_inv_3_2, r_inv_3_3, r_inv_3_4, r_K0, r_K1, r_inv_1_0, r_inv_1_1, r_inv_1_2, r_inv_1_3, r_inv_1_4, r_aload_0, r_gf_576, r_iload_2, r_inv_2_0, r_inv_2_1, r_inv_2_2, r_inv_2_3, r_inv_2_4, r_if_eq, r_iret, r_bret_0, r_bret_1, r_gf_582, r_pop_i, r_pop_r, r_gf_257, r_ial, r_ial30, r_ial32, r_KX, s2, s8, c_within, q1, q3, q4, and_self, c_ref0, c_whyNoService (hC := hC), c_isUp (hC := hC), q5, ↓reduceIte, not_true_eq_false, not_false_eq_true, Int.reduceEq, Int.reduceLE, Int.reduceLT, Int.reduceAdd, Int.reduceNeg, Int.reduceMul, Int.reduceSub, Int.reduceToNat]
        refine c_byCrews (by omega) hG.1 hP hC hW (by omega) q1.1 q1.2 (fun V1 f1 hb1 => ?_)
        obtain ⟨y1, y2⟩ := hw0.q2 ho (V' := V1) z (fun r r1 r2 r3 => f1 r (by omega) (by omega) (by omega)) (hD.cg z hs (f1 _ (by omega) (by omega) (by omega))) (hF.cg z hs (f1 _ (by omega) (by omega) (by omega))) (hG.cg z hs (f1 _ (by omega) (by omega) (by omega))) (hI.cg z hs (f1 _ (by omega) (by omega) (by omega)) (f1 _ (by omega) (by omega) (by omega)))
        have := h0' s V1 y1 y2
        have u8 : V1 5 6 = .ref 134 := by rw [f1 5 (by omega) (by omega) (by omega)]; exact s8
        obtain ⟨-, ⟨-, g1, -⟩, -, ⟨g2, g3⟩, -⟩ := hG.1
        have u1 : V1 134 1 = .ref 136 := by rw [f1 134 (by omega) (by omega) (by omega)]; exact g1
        have ev := hb1 x hb
        generalize (zQR σ.r c).2 x = A at this ev
        generalize (zQR σ.r c).1 = B
        simp (disch := first | assumption | exact zk_143 | ((repeat (first | exact z1n | refine z1I ?_ | refine z1R ?_)); done) | exact rfl | omega | decide) only [r_iload_1, r_iconst, r_inv_3_0, r_inv_3_1, r_inv_3_2, r_inv_3_3, r_inv_3_4, r_K0, r_K1, r_inv_1_0, r_inv_1_1, r_inv_1_2, r_inv_1_3, r_inv_1_4, r_aload_0, r_gf_576, r_iload_2, r_inv_2_0, r_inv_2_1, r_inv_2_2, r_inv_2_3, r_inv_2_4, r_if_eq, r_iret, r_bret_0, r_bret_1, r_gf_582, r_pop_i, r_pop_r, r_gf_257, r_ial, r_ial30, r_ial32, r_KX, u8, u1, ev, ↓reduceIte, not_true_eq_false, not_false_eq_true, Int.reduceEq, Int.reduceLE, Int.reduceLT, Int.reduceAdd, Int.reduceNeg, Int.reduceMul, Int.reduceSub, Int.reduceToNat]
        exact this
    · obtain ⟨y1, y2⟩ := hw0.thr ho (10 + (1 : Int).toNat) (fun _ => .null)
      have := e2 q1 q2 _ _ y1 y2
      simp (disch := first | assumption | exact zk_143 | ((repeat (first | exact z1n | refine z1I ?_ | refine z1R ?_)); done) | exact rfl | omega | decide) only [zb_143_0, zb_143_1, r_iload_1, r_iconst, r_inv_3_0, r_inv_3_1, r_inv_3_2, r_inv_3_3, r_inv_3_4, r_K0, r_K1, r_inv_1_0, r_inv_1_1, r_inv_1_2, r_inv_1_3, r_inv_1_4, r_aload_0, r_gf_576, r_iload_2, r_inv_2_0, r_inv_2_1, r_inv_2_2, r_inv_2_3, r_inv_2_4, r_if_eq, r_iret, r_bret_0, r_bret_1, r_gf_582, r_pop_i, r_pop_r, r_gf_257, r_ial, r_ial30, r_ial32, r_KX, s2, s8, c_within, q1, q2, and_self, c_ref0, c_whyNoService (hC := hC), c_refX, ↓reduceIte, not_true_eq_false, not_false_eq_true, Int.reduceEq, Int.reduceLE, Int.reduceLT, Int.reduceAdd, Int.reduceNeg, Int.reduceMul, Int.reduceSub, Int.reduceToNat]
      exact this
  · obtain ⟨y1, y2⟩ := hw0.thr ho (10 + (2 : Int).toNat) (fun _ => .null)
    have := e1 q1 _ _ y1 y2
    simp (disch := first | assumption | exact zk_143 | ((repeat (first | exact z1n | refine z1I ?_ | refine z1R ?_)); done) | exact rfl | omega | decide) only [zb_143_0, zb_143_1, r_iload_1, r_iconst, r_inv_3_0, r_inv_3_1, r_inv_3_2, r_inv_3_3, r_inv_3_4, r_K0, r_K1, r_inv_1_0, r_inv_1_1, r_inv_1_2, r_inv_1_3, r_inv_1_4, r_aload_0, r_gf_576, r_iload_2, r_inv_2_0, r_inv_2_1, r_inv_2_2, r_inv_2_3, r_inv_2_4, r_if_eq, r_iret, r_bret_0, r_bret_1, r_gf_582, r_pop_i, r_pop_r, r_gf_257, r_ial, r_ial30, r_ial32, r_KX, c_within, q1, c_refX, ↓reduceIte, not_true_eq_false, not_false_eq_true, Int.reduceEq, Int.reduceLE, Int.reduceLT, Int.reduceAdd, Int.reduceNeg, Int.reduceMul, Int.reduceSub, Int.reduceToNat]
    exact this
/-- the digest's steps -/
def zMix (h : Int64) (v : Int) : Int64 := 31 * h + (Int32.ofInt v).toInt64
end
