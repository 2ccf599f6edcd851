/-! MODEL, 6: a call is dropped; spreading in thought -/
section
variable {d : Nat} {s : zS} {V : zV} {Q : zO → zH → Prop} {a : Nat} {ρ : zR} {h : zH}
theorem zPaC.fm {p : Int} {H : Nat → zR} {l : List Nat} {ks : List Int} {V V' : zV} (hP : zPaC p H V) (hH : ∀ k : Nat, (k : Int) < p → (H k).n ≤ 12 ∧ (H k).c ≤ 24) (f : zFm l ks V V') (hl : 166 ∉ l) (hk : 3 ∉ ks) : zPaC p H V' := by
  obtain ⟨q1, q2, q3⟩ := hP
  refine ⟨(f.2 3 hk).trans q1, ?_, fun k hk => ?_⟩
  · unfold zInts; rw [f.1 166 (by omega) hl]; exact q2
  · exact (q3 k hk).of (hH k hk) (fun i _ _ => by rw [f.1 166 (by omega) hl])
set_option maxRecDepth 20000 in
theorem m_removeCall (hd : 4 ≤ d) (hM : zMP s V) (hC : zMC ρ V) (hI : zInts V 165 230) (hW : zWF ρ) {p : Int} {H : Nat → zR} (hPa : zPaC p H V) (p0 : 0 ≤ p) (p1 : p ≤ 4) (hH : ∀ k : Nat, (k : Int) < p → (H k).n ≤ 12 ∧ (H k).c ≤ 24) {k : Int} (hk : zI32 k)
    (h1 : ¬ (0 ≤ k ∧ k < ρ.c) → Q (.inl (some (zi 0))) (s, zput V 164 6 (zi 1))) (h2 : 0 ≤ k ∧ k < ρ.c → zany (fun j => decide (zLead ρ j = k)) 0 ρ.c = true → Q (.inl (some (zi 0))) (s, zput V 164 6 (zi 2)))
    (h0 : 0 ≤ k ∧ k < ρ.c → zany (fun j => decide (zLead ρ j = k)) 0 ρ.c = false → ∀ V', zFm [165, 166, 167] [3, 6] V V' → zMC (ρ.delK k) V' → zInts V' 165 230 → zPaC (zHiQ p + 1 : Nat) (zHiN p H ρ) V' → V' 164 6 = zi 0 → Q (.inl (some (zi (ρ.c - 1)))) (s, V')) : zcall d 196 [.ref 164, zi k] (s, V) Q := by
  obtain ⟨n0, n1, c0, c1⟩ := hW.1
  have tM := hM.1
  have vm_s : V 164 0 = .ref 165 := (hM.2 0 (by decide)).1
  have tm_s : s.tg 165 = 20 := (hM.2 0 (by decide)).2.1
  have lm_s : s.ln 165 = 230 := (hM.2 0 (by decide)).2.2
  have gc := hC.2.1
  obtain ⟨d, rfl⟩ : ∃ e, d = e + 1 := ⟨d - 1, by omega⟩
  simp (disch := first | assumption | omega) only [zc_196]
  by_cases e1 : 0 ≤ k ∧ k < ρ.c
  · have h2' := h2 e1
    have h0' := h0 e1
    obtain ⟨a1, a2⟩ := e1
    simp (disch := first | assumption | exact zk_196 | ((repeat (first | exact z1n | refine z1I ?_ | refine z1R ?_)); done) | exact rfl | omega | decide) only [zb_196_0, zb_196_1, r_aload_0, r_iload_1, r_inv_2_0, r_inv_2_1, r_inv_2_2, r_inv_2_3, r_inv_2_4, r_K0, r_K1, r_if_ne, r_iconst, r_iret, r_bret_0, r_bret_1, r_iadd, r_istore_2i, r_istore_2r, r_istore_2j, r_goto_w, r_iload_2, r_gf_640, r_ial, r_ial30, r_ial32, r_icmp_ge, r_icmp_ne, r_iinc_2i, r_iinc_2r, r_iinc_2j, r_goto, r_inv_1_0, r_inv_1_1, r_inv_1_2, r_inv_1_3, r_inv_1_4, r_dup2, r_isub, r_iastore, r_imul, vm_s, m_isCall (hC := hC), a1, a2, and_self, ↓reduceIte, not_true_eq_false, not_false_eq_true, Int.reduceEq, Int.reduceLE, Int.reduceLT, Int.reduceAdd, Int.reduceNeg, Int.reduceMul, Int.reduceSub, Int.reduceToNat]
    have hany : zany (fun j => decide (zLead ρ j = k)) 0 ρ.c = zany (fun j => decide (zLead ρ j = k)) (k + 1) ρ.c := by
      rw [Bool.eq_iff_iff, zany_iff, zany_iff]
      constructor
      · rintro ⟨j, j0, j1, j2⟩
        have := zLead_rng ρ j0
        have j3 : zLead ρ j = k := by simpa using j2
        exact ⟨j, by omega, j1, j2⟩
      · rintro ⟨j, j0, j1, j2⟩
        exact ⟨j, by omega, j1, j2⟩
    rw [hany] at h2' h0'
    refine Eq.mpr (z_searchB (F := fun j => zwp (zcall d) 196 Q (zB 196 2) [.ref 164, zi k, zi j] [] (s, V)) (p := fun j => decide (zLead ρ j = k)) (A := Q (.inl (some (zi 0))) (s, zput V 164 6 (zi 2))) (B := zwp (zcall d) 196 Q (zB 196 2) [.ref 164, zi k, zi ρ.c] [] (s, V)) (i := k + 1) (n := ρ.c) (by omega) (fun j j0 j1 => ?_) rfl) ?_
    · have hr := zLead_rng ρ (k := j) (by omega)
      conv => lhs; rw [zb_196_2]
      simp (disch := first | assumption | exact zk_196 | ((repeat (first | exact z1n | refine z1I ?_ | refine z1R ?_)); done) | exact rfl | omega | decide) only [zb_196_3, r_aload_0, r_iload_1, r_inv_2_0, r_inv_2_1, r_inv_2_2, r_inv_2_3, r_inv_2_4, r_K0, r_K1, r_if_ne, r_iconst, r_iret, r_bret_0, r_bret_1, r_iadd, r_istore_2i, r_istore_2r, r_istore_2j, r_goto_w, r_iload_2, r_gf_640, r_ial, r_ial30, r_ial32, r_icmp_ge, r_icmp_ne, r_iinc_2i, r_iinc_2r, r_iinc_2j, r_goto, r_inv_1_0, r_inv_1_1, r_inv_1_2, r_inv_1_3, r_inv_1_4, r_dup2, r_isub, r_iastore, r_imul, vm_s, gc, m_leader (hC := hC), m_fails, ↓reduceIte, not_true_eq_false, not_false_eq_true, Int.reduceEq, Int.reduceLE, Int.reduceLT, Int.reduceAdd, Int.reduceNeg, Int.reduceMul, Int.reduceSub, Int.reduceToNat]
      rw [if_neg (by omega)]
      by_cases q : zLead ρ j = k
      · rw [if_neg (by omega), if_pos (by simpa using q)]
      · rw [if_pos q, if_neg (by simpa using q)]
    · split
      · rename_i q
        exact h2' q
      · rename_i q
        have hno : zany (fun j => decide (zLead ρ j = k)) (k + 1) ρ.c = false := by simpa using q
        have h0'' := h0' hno
        simp (disch := first | assumption | exact zk_196 | ((repeat (first | exact z1n | refine z1I ?_ | refine z1R ?_)); done) | exact rfl | omega | decide) only [zb_196_2, zb_196_4, r_aload_0, r_iload_1, r_inv_2_0, r_inv_2_1, r_inv_2_2, r_inv_2_3, r_inv_2_4, r_K0, r_K1, r_if_ne, r_iconst, r_iret, r_bret_0, r_bret_1, r_iadd, r_istore_2i, r_istore_2r, r_istore_2j, r_goto_w, r_iload_2, r_gf_640, r_ial, r_ial30, r_ial32, r_icmp_ge, r_icmp_ne, r_iinc_2i, r_iinc_2r, r_iinc_2j, r_goto, r_inv_1_0, r_inv_1_1, r_inv_1_2, r_inv_1_3, r_inv_1_4, r_dup2, r_isub, r_iastore, r_imul, vm_s, gc, Int.le_refl, ↓reduceIte, not_true_eq_false, not_false_eq_true, Int.reduceEq, Int.reduceLE, Int.reduceLT, Int.reduceAdd, Int.reduceNeg, Int.reduceMul, Int.reduceSub, Int.reduceToNat]
        refine m_hold (by omega) hM hI (fun V1 f1 e1 => ?_)
        have g0 : V1 164 0 = .ref 165 := (f1.2 0 (by simp)).trans vm_s
        have e165 : V1 165 = V 165 := f1.1 165 (by omega) (by simp)
        have gc1 : V1 165 1 = zi ρ.c := by rw [e165]; exact gc
        simp (disch := first | assumption | exact zk_196 | ((repeat (first | exact z1n | refine z1I ?_ | refine z1R ?_)); done) | exact rfl | omega | decide) only [r_aload_0, r_iload_1, r_inv_2_0, r_inv_2_1, r_inv_2_2, r_inv_2_3, r_inv_2_4, r_K0, r_K1, r_if_ne, r_iconst, r_iret, r_bret_0, r_bret_1, r_iadd, r_istore_2i, r_istore_2r, r_istore_2j, r_goto_w, r_iload_2, r_gf_640, r_ial, r_ial30, r_ial32, r_icmp_ge, r_icmp_ne, r_iinc_2i, r_iinc_2r, r_iinc_2j, r_goto, r_inv_1_0, r_inv_1_1, r_inv_1_2, r_inv_1_3, r_inv_1_4, r_dup2, r_isub, r_iastore, r_imul, vm_s, g0, gc1, ↓reduceIte, not_true_eq_false, not_false_eq_true, Int.reduceEq, Int.reduceLE, Int.reduceLT, Int.reduceAdd, Int.reduceNeg, Int.reduceMul, Int.reduceSub, Int.reduceToNat]
        obtain ⟨m, hm⟩ := hI.fn
        have hx := z_iter (i := 110 + 5 * k) (n := 110 + 5 * (ρ.c - 1)) (I := fun i (q : zV) => zFm [165] [] V1 q ∧ q 165 1 = zi (ρ.c - 1) ∧ ∀ j : Int, 0 ≤ j → j < 230 → j ≠ 1 → q 165 j = if 110 + 5 * k ≤ j ∧ j < i then V 165 (j + 5) else V 165 j) (P := fun i q => zwp (zcall d) 196 Q (zB 196 5) [.ref 164, zi k, zi i] [] (s, q)) (by omega)
        refine hx ?_ ?_ _ ⟨zFm.rf.pr (by simp) (by omega), zput_at, fun j j0 j1 j2 => by rw [zput_i j2, if_neg (by omega), e165]⟩
        · rintro i V2 i0 i1 ⟨f2, u1, u2⟩ ih
          have g0 : V2 164 0 = .ref 165 := (f2.2 0 (by simp)).trans g0
          have u5 : V2 165 (i + 5) = zi (m (i + 5)) := by rw [u2 (i + 5) (by omega) (by omega) (by omega), if_neg (by omega)]; exact hm _ (by omega) (by omega)
          conv => rw [zb_196_5]
          simp (disch := first | assumption | exact zk_196 | ((repeat (first | exact z1n | refine z1I ?_ | refine z1R ?_)); done) | exact rfl | omega | decide) only [r_aload_0, r_iload_1, r_inv_2_0, r_inv_2_1, r_inv_2_2, r_inv_2_3, r_inv_2_4, r_K0, r_K1, r_if_ne, r_iconst, r_iret, r_bret_0, r_bret_1, r_iadd, r_istore_2i, r_istore_2r, r_istore_2j, r_goto_w, r_iload_2, r_gf_640, r_ial, r_ial30, r_ial32, r_icmp_ge, r_icmp_ne, r_iinc_2i, r_iinc_2r, r_iinc_2j, r_goto, r_inv_1_0, r_inv_1_1, r_inv_1_2, r_inv_1_3, r_inv_1_4, r_dup2, r_isub, r_iastore, r_imul, vm_s, g0, u1, u5, ↓reduceIte, not_true_eq_false, not_false_eq_true, Int.reduceEq, Int.reduceLE, Int.reduceLT, Int.reduceAdd, Int.reduceNeg, Int.reduceMul, Int.reduceSub, Int.reduceToNat]
          rw [if_neg (by omega)]
          refine ih _ ⟨f2.pr (by simp) (by omega), (zput_i (by omega)).trans u1, fun j j0 j1 j2 => ?_⟩
          by_cases q : j = i
          · rw [q, zput_at, if_pos (by omega), hm _ (by omega) (by omega)]
          · rw [zput_i q, u2 j j0 j1 j2]
            by_cases q2 : 110 + 5 * k ≤ j ∧ j < i
            · rw [if_pos q2, if_pos (by omega)]
            · rw [if_neg q2, if_neg (by omega)]
        · rintro V2 ⟨f2, u1, u2⟩
          have g0 : V2 164 0 = .ref 165 := (f2.2 0 (by simp)).trans g0
          simp (disch := first | assumption | exact zk_196 | ((repeat (first | exact z1n | refine z1I ?_ | refine z1R ?_)); done) | exact rfl | omega | decide) only [zb_196_5, zb_196_6, r_aload_0, r_iload_1, r_inv_2_0, r_inv_2_1, r_inv_2_2, r_inv_2_3, r_inv_2_4, r_K0, r_K1, r_if_ne, r_iconst, r_iret, r_bret_0, r_bret_1, r_iadd, r_istore_2i, r_istore_2r, r_istore_2j, r_goto_w, r_iload_2, r_gf_640, r_ial, r_ial30, r_ial32, r_icmp_ge, r_icmp_ne, r_iinc_2i, r_iinc_2r, r_iinc_2j, r_goto, r_inv_1_0, r_inv_1_1, r_inv_1_2, r_inv_1_3, r_inv_1_4, r_dup2, r_isub, r_iastore, r_imul, vm_s, g0, u1, Int.le_refl, ↓reduceIte, not_true_eq_false, not_false_eq_true, Int.reduceEq, Int.reduceLE, Int.reduceLT, Int.reduceAdd, Int.reduceNeg, Int.reduceMul, Int.reduceSub, Int.reduceToNat]
          have F2 : zFm [165, 167] [] V V2 := (f1.mono (fun r hr => by simp at hr; simp [hr]) (fun _ h => h)).tr (f2.mono (fun r hr => by simp at hr; simp [hr]) (fun _ h => h))
          have hM2 := hM.fm F2 (by decide)
          have hPa2 := hPa.fm hH F2 (by decide) (by decide)
          have a7 : ∀ i, 0 ≤ i → i < 230 → V2 167 i = V 165 i := fun i i0 i1 => by rw [f2.1 167 (by omega) (by simp)]; exact e1 i i0 i1
          have I2 : zInts V2 165 230 := fun j j0 j1 => by
            by_cases q : j = 1
            · rw [q]; exact ⟨_, u1⟩
            · rw [u2 j j0 j1 q]
              split
              · exact hI _ (by omega) (by omega)
              · exact hI _ (by omega) (by omega)
          have hCd : zMC (ρ.delK k) V2 := by
            obtain ⟨q1, q2, q3, q4⟩ := hC
            have hc1 : (ρ.delK k).c = ρ.c - 1 := rfl
            refine ⟨?_, u1, fun w x w0 w1 x0 x1 => ?_, fun w j w0 w1 j0 j1 => ?_⟩
            · rw [u2 0 (by omega) (by omega) (by omega), if_neg (by omega)]; exact q1
            · have x1 : x < ρ.n := x1
              rw [u2 _ (by omega) (by omega) (by omega), if_neg (by omega)]; exact q3 w x w0 w1 x0 x1
            · rw [hc1] at j1
              rw [u2 _ (by omega) (by omega) (by omega), zR.delK_K]
              by_cases e : j < k
              · rw [if_neg (by omega), if_pos e]; exact q4 w j w0 w1 j0 (by omega)
              · rw [if_pos (by omega), if_neg e]
                have := q4 w (j + 1) w0 w1 (by omega) (by omega)
                rw [show 110 + 5 * (j + 1) + w = 110 + 5 * j + w + 5 by omega] at this
                exact this
          refine m_ends (by omega) hM2 hPa2 p0 p1 (fun i i0 i1 => by rw [a7 i i0 i1]; exact hI i i0 i1) ((zMC_r.mp hC).of ⟨n1, c1⟩ (fun i i0 i1 => by rw [Int.zero_add]; exact a7 i i0 i1)) ⟨n1, c1⟩ hH (fun V5 f5 q5 t5 => ?_)
          simp (disch := first | assumption | exact zk_196 | ((repeat (first | exact z1n | refine z1I ?_ | refine z1R ?_)); done) | exact rfl | omega | decide) only [r_aload_0, r_iload_1, r_inv_2_0, r_inv_2_1, r_inv_2_2, r_inv_2_3, r_inv_2_4, r_K0, r_K1, r_if_ne, r_iconst, r_iret, r_bret_0, r_bret_1, r_iadd, r_istore_2i, r_istore_2r, r_istore_2j, r_goto_w, r_iload_2, r_gf_640, r_ial, r_ial30, r_ial32, r_icmp_ge, r_icmp_ne, r_iinc_2i, r_iinc_2r, r_iinc_2j, r_goto, r_inv_1_0, r_inv_1_1, r_inv_1_2, r_inv_1_3, r_inv_1_4, r_dup2, r_isub, r_iastore, r_imul, vm_s, ↓reduceIte, not_true_eq_false, not_false_eq_true, Int.reduceEq, Int.reduceLE, Int.reduceLT, Int.reduceAdd, Int.reduceNeg, Int.reduceMul, Int.reduceSub, Int.reduceToNat]
          refine h0'' V5 ((F2.mono (fun r hr => by simp at hr; simp; omega) (fun _ h => by simp at h)).tr (f5.mono (fun r hr => by simp at hr; simp [hr]) (fun _ h => h))) (hCd.fm f5 (by decide)) ?_ q5 t5
          unfold zInts; rw [f5.1 165 (by omega) (by simp)]; exact I2
  · have := h1 e1
    simp (disch := first | assumption | exact zk_196 | ((repeat (first | exact z1n | refine z1I ?_ | refine z1R ?_)); done) | exact rfl | omega | decide) only [zb_196_0, r_aload_0, r_iload_1, r_inv_2_0, r_inv_2_1, r_inv_2_2, r_inv_2_3, r_inv_2_4, r_K0, r_K1, r_if_ne, r_iconst, r_iret, r_bret_0, r_bret_1, r_iadd, r_istore_2i, r_istore_2r, r_istore_2j, r_goto_w, r_iload_2, r_gf_640, r_ial, r_ial30, r_ial32, r_icmp_ge, r_icmp_ne, r_iinc_2i, r_iinc_2r, r_iinc_2j, r_goto, r_inv_1_0, r_inv_1_1, r_inv_1_2, r_inv_1_3, r_inv_1_4, r_dup2, r_isub, r_iastore, r_imul, vm_s, m_isCall (hC := hC), e1, m_fails, ↓reduceIte, not_true_eq_false, not_false_eq_true, Int.reduceEq, Int.reduceLE, Int.reduceLT, Int.reduceAdd, Int.reduceNeg, Int.reduceMul, Int.reduceSub, Int.reduceToNat]
    exact this
end
