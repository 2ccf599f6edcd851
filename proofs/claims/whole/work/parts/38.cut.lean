/-! CUT OFF: the model's look at a service's groups -/
theorem zHd_is {ρ : zR} {x : Int} : ∀ {j : Nat}, 0 ≤ zHd ρ x j → (ρ.K 0 (zHd ρ x j) = x ∧ ρ.K 4 (zHd ρ x j) ≠ 2) ∧ ∀ i, zHd ρ x j < i → i < (j : Int) → ¬ (ρ.K 0 i = x ∧ ρ.K 4 i ≠ 2) := by
  intro j
  induction j with
  | zero => intro h; exact absurd h (by show ¬ (0 : Int) ≤ -1; omega)
  | succ j ih =>
    intro h
    rw [zHd_s] at h ⊢
    by_cases c : ρ.K 0 j = x ∧ ρ.K 4 j ≠ 2
    · rw [if_pos c] at h ⊢
      exact ⟨c, fun i i0 i1 => by omega⟩
    · rw [if_neg c] at h ⊢
      obtain ⟨h1, h2⟩ := ih h
      refine ⟨h1, fun i i0 i1 => ?_⟩
      by_cases e : i = j
      · rw [e]; exact c
      · exact h2 i i0 (by omega)
theorem zHd_of {ρ : zR} {x h : Int} (h0 : 0 ≤ h) (hx : ρ.K 0 h = x ∧ ρ.K 4 h ≠ 2) : ∀ {j : Nat}, h < (j : Int) → (∀ i, h < i → i < (j : Int) → ¬ (ρ.K 0 i = x ∧ ρ.K 4 i ≠ 2)) → zHd ρ x j = h := by
  intro j
  induction j with
  | zero => intro hj; omega
  | succ j ih =>
    intro hj hn
    rw [zHd_s]
    by_cases e : h = j
    · rw [← e, if_pos hx]
    · rw [if_neg (hn j (by omega) (by omega))]
      exact ih (by omega) (fun i i0 i1 => hn i i0 (by omega))
/-- the group of the head h ends where the next head stands -/
theorem zGrp_to {ρ : zR} {x h c1 : Int} {v : Nat} (h0 : 0 ≤ h) (hx : ρ.K 0 h = x ∧ ρ.K 4 h ≠ 2) (h1 : h < c1) (h2 : c1 ≤ ρ.c) (hb : ∀ k, h < k → k < c1 → ρ.K 0 k = x → ρ.K 4 k = 2) (he : c1 < ρ.c → ρ.K 0 c1 = x ∧ ρ.K 4 c1 ≠ 2) : zGrp ρ h v = true ↔ ∀ k, h ≤ k → k < c1 → ρ.K 0 k = x → zin v (ρ.K 1 k) = true := by
  have hnoh : ∀ k, h < k → k ≤ c1 → ∀ i, h < i → i < k → ¬ (ρ.K 0 i = x ∧ ρ.K 4 i ≠ 2) := fun k k0 k1 i i0 i1 q => q.2 (hb i i0 (by omega) q.1)
  unfold zGrp
  rw [Bool.not_eq_true', zany_f]
  constructor
  · intro g k k0 k1 hk
    have gk := g k k0 (by omega)
    by_cases e : k = h
    · rw [e] at gk ⊢
      simpa using gk
    · have hl : zLead ρ k = h := by
        unfold zLead
        rw [if_pos (hb k (by omega) k1 hk), hk]
        exact zHd_of h0 hx (by omega) (fun i i0 i1 => hnoh k (by omega) (by omega) i i0 (by omega))
      rw [hl] at gk
      simpa using gk
  · intro g k k0 k1
    rw [Bool.and_eq_false_iff]
    by_cases e : k = h
    · right
      rw [e, g h (Int.le_refl _) h1 hx.1]
      rfl
    · by_cases e2 : zLead ρ k = h
      · right
        unfold zLead at e2
        by_cases q : ρ.K 4 k = 2
        · rw [if_pos q] at e2
          have hz := zHd_is (ρ := ρ) (x := ρ.K 0 k) (j := k.toNat) (by rw [e2]; exact h0)
          rw [e2] at hz
          have hkx : ρ.K 0 k = x := by rw [← hz.1.1]; exact hx.1
          have hlt : k < c1 := by
            rcases Int.lt_or_le k c1 with c | c
            · exact c
            · obtain ⟨q1, q2⟩ := he (by omega)
              by_cases e3 : k = c1
              · rw [e3] at q; exact absurd q q2
              · exact absurd ⟨by rw [hkx]; exact q1, q2⟩ (hz.2 c1 h1 (by omega))
          rw [g k k0 hlt hkx]
          rfl
        · rw [if_neg q] at e2
          omega
      · left
        simp [e, e2]
section
variable {d : Nat} {s : zS} {V : zV} {Q : zO → zH → Prop} {ρ : zR} {h : zH}
def zb1 (b : Bool) : Int := if b = true then 1 else 0
set_option maxRecDepth 20000 in
theorem m_isCutOff (hd : 4 ≤ d) (hM : zMP s V) (hC : zMC ρ V) (hW : zWF ρ) {x : Int} (x0 : 0 ≤ x) (x1 : x < ρ.n) {v : Nat} (hv : v < 4096) : zcall d 230 [.ref 164, zi x, zi (v : Nat)] (s, V) Q = if zLack ρ x v = true then Q (.inl (some (zi 1))) (s, V) else Q (.inl (some (zi 0))) (s, V) := by
  obtain ⟨n0, n1, c0, c1⟩ := hW.1
  have tM := hM.1
  have vm_s : V 164 0 = .ref 165 := (hM.2 0 (by decide)).1
  have tm_s : s.tg 165 = 20 := (hM.2 0 (by decide)).2.1
  have lm_s : s.ln 165 = 230 := (hM.2 0 (by decide)).2.2
  have gc := hC.2.1
  obtain ⟨d, rfl⟩ : ∃ e, d = e + 1 := ⟨d - 1, by omega⟩
  simp (disch := first | assumption | omega) only [zc_230]
  have hnx : ∀ k, -1 ≤ k → k < ρ.c → (k < zNext ρ x k ∧ zNext ρ x k ≤ ρ.c) ∧ (∀ j, k < j → j < zNext ρ x k → ρ.K 0 j ≠ x) ∧ (zNext ρ x k < ρ.c → ρ.K 0 (zNext ρ x k) = x) := by
    intro k k0 k1
    obtain ⟨a, b, c, e⟩ := zfst_is (fun j => decide (ρ.K 0 j = x)) (i := k + 1) (n := ρ.c) (by omega)
    unfold zNext
    exact ⟨⟨by omega, b⟩, fun j j0 j1 => by simpa using c j (by omega) j1, fun q => by simpa using e q⟩
  have hb1 : ∀ b : Bool, -2147483648 ≤ zb1 b ∧ zb1 b < 2147483648 := fun b => by unfold zb1; split <;> omega
  have outer : ∀ (m : Nat) (c : Int) (fnd : Bool) (w5 w6 : Value), (ρ.c - c).toNat = m → 0 ≤ c → c ≤ ρ.c → (c < ρ.c → ρ.K 0 c = x ∧ ρ.K 4 c ≠ 2) → fnd = zany (fun h => decide (ρ.K 0 h = x ∧ ρ.K 4 h = 0) && zGrp ρ h v) 0 c →
      zwp (zcall d) 230 Q (zB 230 1) [.ref 164, zi x, zi (v : Nat), zi (zb1 fnd), zi c, w5, w6] [] (s, V) = Q (.inl (some (zi (zb1 (zLack ρ x v))))) (s, V) := by
    intro m
    induction m using Nat.strongRecOn with
    | ind m ih =>
      intro c fnd w5 w6 hm c0' c1' hc hf
      by_cases ec : c = ρ.c
      · subst ec
        simp (disch := first | assumption | exact zk_230 | ((repeat (first | exact z1n | refine z1I ?_ | refine z1R ?_)); done) | exact rfl | omega | decide) only [zb_230_1, zb_230_13, r_iconst, r_istore_3i, r_istore_3r, r_istore_3j, r_aload_0, r_iload_1, r_inv_3_0, r_inv_3_1, r_inv_3_2, r_inv_3_3, r_inv_3_4, r_K0, r_K1, r_istore_4i, r_istore_4r, r_istore_4j, r_goto_w, r_iload_4, r_gf_640, r_ial, r_ial30, r_ial32, r_icmp_ge, r_iload_2, r_inv_2_0, r_inv_2_1, r_inv_2_2, r_inv_2_3, r_inv_2_4, r_ishr, r_iand, r_icmp_ne, r_goto, r_istore_5i, r_istore_5r, r_istore_5j, r_if_ne, r_istore_6i, r_istore_6r, r_istore_6j, r_if_eq, r_iload_5, r_iload_3, r_iload_6, r_iret, r_bret_0, r_bret_1, vm_s, gc, Int.le_refl, r_bret, ↓reduceIte, not_true_eq_false, not_false_eq_true, Int.reduceEq, Int.reduceLE, Int.reduceLT, Int.reduceAdd, Int.reduceNeg, Int.reduceMul, Int.reduceSub, Int.reduceToNat]
        have e : fnd = zLack ρ x v := hf
        rw [← e]
        cases fnd <;> exact (by first | exact r_bret_1 zk_230 | exact r_bret_0 zk_230)
      · have hcl : c < ρ.c := by omega
        obtain ⟨k1, k2⟩ := hc hcl
        have w := hW.2.2.1 c c0' hcl
        have inner : ∀ (m2 : Nat) (p : Int) (al : Bool), (ρ.c - p).toNat = m2 → c < p → p ≤ ρ.c → (p < ρ.c → ρ.K 0 p = x) → (∀ k, c < k → k < p → ρ.K 0 k = x → ρ.K 4 k = 2) → (al = true ↔ ∀ k, c ≤ k → k < p → ρ.K 0 k = x → zin v (ρ.K 1 k) = true) →
            zwp (zcall d) 230 Q (zB 230 6) [.ref 164, zi x, zi (v : Nat), zi (zb1 fnd), zi p, zi (zb1 al), zi (zb1 (decide (ρ.K 4 c = 0)))] [] (s, V) = Q (.inl (some (zi (zb1 (zLack ρ x v))))) (s, V) := by
          intro m2
          induction m2 using Nat.strongRecOn with
          | ind m2 ih2 =>
            intro p al hm2 p0 p1 hp hbet hal
            have exit : (p < ρ.c → ρ.K 4 p ≠ 2) → zwp (zcall d) 230 Q (zB 230 9) [.ref 164, zi x, zi (v : Nat), zi (zb1 fnd), zi p, zi (zb1 al), zi (zb1 (decide (ρ.K 4 c = 0)))] [] (s, V) = Q (.inl (some (zi (zb1 (zLack ρ x v))))) (s, V) := by
              intro hk
              have hg : zGrp ρ c v = al := by
                rw [Bool.eq_iff_iff, hal]
                exact zGrp_to c0' ⟨k1, k2⟩ p0 p1 hbet (fun q => ⟨hp q, hk q⟩)
              have hf2 : (fnd || (decide (ρ.K 4 c = 0) && al)) = zany (fun h => decide (ρ.K 0 h = x ∧ ρ.K 4 h = 0) && zGrp ρ h v) 0 p := by
                rw [Bool.eq_iff_iff, zany_iff, Bool.or_eq_true, hf, zany_iff, Bool.and_eq_true, decide_eq_true_eq]
                constructor
                · rintro (⟨k, q1, q2, q3⟩ | ⟨q1, q2⟩)
                  · exact ⟨k, q1, by omega, q3⟩
                  · exact ⟨c, c0', p0, by rw [hg, q2]; simp [k1, q1]⟩
                · rintro ⟨k, q1, q2, q3⟩
                  rcases Int.lt_trichotomy k c with q | q | q
                  · exact Or.inl ⟨k, q1, q, q3⟩
                  · subst q
                    rw [hg] at q3
                    simp at q3
                    exact Or.inr ⟨q3.1.2, q3.2⟩
                  · simp at q3
                    have := hbet k q q2 q3.1.1
                    omega
              have := ih (ρ.c - p).toNat (by omega) p _ (zi (zb1 al)) (zi (zb1 (decide (ρ.K 4 c = 0)))) rfl (by omega) p1 (fun q => ⟨hp q, hk q⟩) hf2
              cases fnd <;> cases al <;> by_cases e4 : ρ.K 4 c = 0 <;> simp only [e4, zb1, decide_true, decide_false, Bool.or_false, Bool.or_true, Bool.and_true, Bool.and_false, Bool.false_eq_true, ↓reduceIte] at this ⊢ <;> conv => lhs; rw [zb_230_9]
              all_goals simp (disch := first | assumption | exact zk_230 | ((repeat (first | exact z1n | refine z1I ?_ | refine z1R ?_)); done) | exact rfl | omega | decide) only [zb_230_10, zb_230_11, zb_230_12, r_iconst, r_istore_3i, r_istore_3r, r_istore_3j, r_aload_0, r_iload_1, r_inv_3_0, r_inv_3_1, r_inv_3_2, r_inv_3_3, r_inv_3_4, r_K0, r_K1, r_istore_4i, r_istore_4r, r_istore_4j, r_goto_w, r_iload_4, r_gf_640, r_ial, r_ial30, r_ial32, r_icmp_ge, r_iload_2, r_inv_2_0, r_inv_2_1, r_inv_2_2, r_inv_2_3, r_inv_2_4, r_ishr, r_iand, r_icmp_ne, r_goto, r_istore_5i, r_istore_5r, r_istore_5j, r_if_ne, r_istore_6i, r_istore_6r, r_istore_6j, r_if_eq, r_iload_5, r_iload_3, r_iload_6, r_iret, r_bret_0, r_bret_1, vm_s, ↓reduceIte, not_true_eq_false, not_false_eq_true, Int.reduceEq, Int.reduceLE, Int.reduceLT, Int.reduceAdd, Int.reduceNeg, Int.reduceMul, Int.reduceSub, Int.reduceToNat]
              all_goals exact this
            conv => lhs; rw [zb_230_6]
            by_cases ep : p = ρ.c
            · subst ep
              simp (disch := first | assumption | exact zk_230 | ((repeat (first | exact z1n | refine z1I ?_ | refine z1R ?_)); done) | exact rfl | omega | decide) only [r_iconst, r_istore_3i, r_istore_3r, r_istore_3j, r_aload_0, r_iload_1, r_inv_3_0, r_inv_3_1, r_inv_3_2, r_inv_3_3, r_inv_3_4, r_K0, r_K1, r_istore_4i, r_istore_4r, r_istore_4j, r_goto_w, r_iload_4, r_gf_640, r_ial, r_ial30, r_ial32, r_icmp_ge, r_iload_2, r_inv_2_0, r_inv_2_1, r_inv_2_2, r_inv_2_3, r_inv_2_4, r_ishr, r_iand, r_icmp_ne, r_goto, r_istore_5i, r_istore_5r, r_istore_5j, r_if_ne, r_istore_6i, r_istore_6r, r_istore_6j, r_if_eq, r_iload_5, r_iload_3, r_iload_6, r_iret, r_bret_0, r_bret_1, vm_s, gc, Int.le_refl, ↓reduceIte, not_true_eq_false, not_false_eq_true, Int.reduceEq, Int.reduceLE, Int.reduceLT, Int.reduceAdd, Int.reduceNeg, Int.reduceMul, Int.reduceSub, Int.reduceToNat]
              exact exit (fun q => by omega)
            · have hpl : p < ρ.c := by omega
              have wp := hW.2.2.1 p (by omega) hpl
              obtain ⟨⟨q1, q2⟩, q3, q4⟩ := hnx p (by omega) hpl
              by_cases er : ρ.K 4 p = 2
              · have hh := zhas (a := v) (x := ρ.K 1 p) (by omega) (by omega) (by omega)
                have := ih2 (ρ.c - zNext ρ x p).toNat (by omega) (zNext ρ x p) (al && zin v (ρ.K 1 p)) rfl (by omega) q2 q4 (fun k k0 k1' hk => ?_) ?_
                · cases al with
                  | false =>
                    simp (disch := first | assumption | exact zk_230 | ((repeat (first | exact z1n | refine z1I ?_ | refine z1R ?_)); done) | exact rfl | omega | decide) only [zb_230_7, zb_230_8, r_iconst, r_istore_3i, r_istore_3r, r_istore_3j, r_aload_0, r_iload_1, r_inv_3_0, r_inv_3_1, r_inv_3_2, r_inv_3_3, r_inv_3_4, r_K0, r_K1, r_istore_4i, r_istore_4r, r_istore_4j, r_goto_w, r_iload_4, r_gf_640, r_ial, r_ial30, r_ial32, r_icmp_ge, r_iload_2, r_inv_2_0, r_inv_2_1, r_inv_2_2, r_inv_2_3, r_inv_2_4, r_ishr, r_iand, r_icmp_ne, r_goto, r_istore_5i, r_istore_5r, r_istore_5j, r_if_ne, r_istore_6i, r_istore_6r, r_istore_6j, r_if_eq, r_iload_5, r_iload_3, r_iload_6, r_iret, r_bret_0, r_bret_1, vm_s, gc, m_isRepl (hC := hC), er, zb1, Bool.false_eq_true, m_nextCall (hC := hC), ↓reduceIte, not_true_eq_false, not_false_eq_true, Int.reduceEq, Int.reduceLE, Int.reduceLT, Int.reduceAdd, Int.reduceNeg, Int.reduceMul, Int.reduceSub, Int.reduceToNat]
                    rw [if_neg (by omega)]
                    simp only [Bool.false_and, zb1, Bool.false_eq_true, ↓reduceIte] at this
                    exact this
                  | true =>
                    by_cases ez : zin v (ρ.K 1 p) = true
                    · rw [if_pos ez] at hh
                      simp (disch := first | assumption | exact zk_230 | ((repeat (first | exact z1n | refine z1I ?_ | refine z1R ?_)); done) | exact rfl | omega | decide) only [zb_230_7, zb_230_8, r_iconst, r_istore_3i, r_istore_3r, r_istore_3j, r_aload_0, r_iload_1, r_inv_3_0, r_inv_3_1, r_inv_3_2, r_inv_3_3, r_inv_3_4, r_K0, r_K1, r_istore_4i, r_istore_4r, r_istore_4j, r_goto_w, r_iload_4, r_gf_640, r_ial, r_ial30, r_ial32, r_icmp_ge, r_iload_2, r_inv_2_0, r_inv_2_1, r_inv_2_2, r_inv_2_3, r_inv_2_4, r_ishr, r_iand, r_icmp_ne, r_goto, r_istore_5i, r_istore_5r, r_istore_5j, r_if_ne, r_istore_6i, r_istore_6r, r_istore_6j, r_if_eq, r_iload_5, r_iload_3, r_iload_6, r_iret, r_bret_0, r_bret_1, vm_s, gc, m_isRepl (hC := hC), m_callee (hC := hC), er, zb1, hh, m_nextCall (hC := hC), ↓reduceIte, not_true_eq_false, not_false_eq_true, Int.reduceEq, Int.reduceLE, Int.reduceLT, Int.reduceAdd, Int.reduceNeg, Int.reduceMul, Int.reduceSub, Int.reduceToNat]
                      rw [if_neg (by omega)]
                      simp only [ez, Bool.and_self, zb1, ↓reduceIte] at this
                      exact this
                    · rw [if_neg ez] at hh
                      simp (disch := first | assumption | exact zk_230 | ((repeat (first | exact z1n | refine z1I ?_ | refine z1R ?_)); done) | exact rfl | omega | decide) only [zb_230_7, zb_230_8, r_iconst, r_istore_3i, r_istore_3r, r_istore_3j, r_aload_0, r_iload_1, r_inv_3_0, r_inv_3_1, r_inv_3_2, r_inv_3_3, r_inv_3_4, r_K0, r_K1, r_istore_4i, r_istore_4r, r_istore_4j, r_goto_w, r_iload_4, r_gf_640, r_ial, r_ial30, r_ial32, r_icmp_ge, r_iload_2, r_inv_2_0, r_inv_2_1, r_inv_2_2, r_inv_2_3, r_inv_2_4, r_ishr, r_iand, r_icmp_ne, r_goto, r_istore_5i, r_istore_5r, r_istore_5j, r_if_ne, r_istore_6i, r_istore_6r, r_istore_6j, r_if_eq, r_iload_5, r_iload_3, r_iload_6, r_iret, r_bret_0, r_bret_1, vm_s, gc, m_isRepl (hC := hC), m_callee (hC := hC), er, zb1, hh, m_nextCall (hC := hC), ↓reduceIte, not_true_eq_false, not_false_eq_true, Int.reduceEq, Int.reduceLE, Int.reduceLT, Int.reduceAdd, Int.reduceNeg, Int.reduceMul, Int.reduceSub, Int.reduceToNat]
                      rw [if_neg (by omega)]
                      have ez : zin v (ρ.K 1 p) = false := by simpa using ez
                      simp only [ez, Bool.and_false, zb1, ↓reduceIte, Bool.false_eq_true] at this
                      exact this
                · rcases Int.lt_trichotomy k p with q | q | q
                  · exact hbet k k0 q hk
                  · rw [q]; exact er
                  · exact absurd hk (q3 k q k1')
                · rw [Bool.and_eq_true, hal]
                  constructor
                  · rintro ⟨g1, g2⟩ k k0 k1' hk
                    rcases Int.lt_trichotomy k p with q | q | q
                    · exact g1 k k0 q hk
                    · rw [q]; exact g2
                    · exact absurd hk (q3 k q k1')
                  · intro g
                    exact ⟨fun k k0 k1' hk => g k k0 (by omega) hk, g p (by omega) (by omega) (hp hpl)⟩
              · simp (disch := first | assumption | exact zk_230 | ((repeat (first | exact z1n | refine z1I ?_ | refine z1R ?_)); done) | exact rfl | omega | decide) only [r_iconst, r_istore_3i, r_istore_3r, r_istore_3j, r_aload_0, r_iload_1, r_inv_3_0, r_inv_3_1, r_inv_3_2, r_inv_3_3, r_inv_3_4, r_K0, r_K1, r_istore_4i, r_istore_4r, r_istore_4j, r_goto_w, r_iload_4, r_gf_640, r_ial, r_ial30, r_ial32, r_icmp_ge, r_iload_2, r_inv_2_0, r_inv_2_1, r_inv_2_2, r_inv_2_3, r_inv_2_4, r_ishr, r_iand, r_icmp_ne, r_goto, r_istore_5i, r_istore_5r, r_istore_5j, r_if_ne, r_istore_6i, r_istore_6r, r_istore_6j, r_if_eq, r_iload_5, r_iload_3, r_iload_6, r_iret, r_bret_0, r_bret_1, vm_s, gc, m_isRepl (hC := hC), er, ↓reduceIte, not_true_eq_false, not_false_eq_true, Int.reduceEq, Int.reduceLE, Int.reduceLT, Int.reduceAdd, Int.reduceNeg, Int.reduceMul, Int.reduceSub, Int.reduceToNat]
                rw [if_neg (by omega)]
                exact exit (fun _ => er)
        obtain ⟨⟨q1, q2⟩, q3, q4⟩ := hnx c (by omega) hcl
        have hh := zhas (a := v) (x := ρ.K 1 c) (by omega) (by omega) (by omega)
        have hin := inner _ (zNext ρ x c) (zin v (ρ.K 1 c)) rfl (by omega) q2 q4 (fun k k0 k1' hk => absurd hk (q3 k k0 k1')) (by
          constructor
          · intro g k k0 k1' hk
            by_cases e : k = c
            · rw [e]; exact g
            · exact absurd hk (q3 k (by omega) k1')
          · intro g
            exact g c (Int.le_refl _) (by omega) k1)
        conv => lhs; rw [zb_230_1]
        by_cases ez : zin v (ρ.K 1 c) = true
        · rw [if_pos ez] at hh
          by_cases e4 : ρ.K 4 c = 0
          · simp (disch := first | assumption | exact zk_230 | ((repeat (first | exact z1n | refine z1I ?_ | refine z1R ?_)); done) | exact rfl | omega | decide) only [zb_230_2, zb_230_3, zb_230_4, zb_230_5, r_iconst, r_istore_3i, r_istore_3r, r_istore_3j, r_aload_0, r_iload_1, r_inv_3_0, r_inv_3_1, r_inv_3_2, r_inv_3_3, r_inv_3_4, r_K0, r_K1, r_istore_4i, r_istore_4r, r_istore_4j, r_goto_w, r_iload_4, r_gf_640, r_ial, r_ial30, r_ial32, r_icmp_ge, r_iload_2, r_inv_2_0, r_inv_2_1, r_inv_2_2, r_inv_2_3, r_inv_2_4, r_ishr, r_iand, r_icmp_ne, r_goto, r_istore_5i, r_istore_5r, r_istore_5j, r_if_ne, r_istore_6i, r_istore_6r, r_istore_6j, r_if_eq, r_iload_5, r_iload_3, r_iload_6, r_iret, r_bret_0, r_bret_1, vm_s, gc, m_callee (hC := hC), m_callOf (hC := hC), hh, e4, m_nextCall (hC := hC), ↓reduceIte, not_true_eq_false, not_false_eq_true, Int.reduceEq, Int.reduceLE, Int.reduceLT, Int.reduceAdd, Int.reduceNeg, Int.reduceMul, Int.reduceSub, Int.reduceToNat]
            rw [if_neg (by omega)]
            simp only [ez, e4, zb1, decide_true, ↓reduceIte] at hin ⊢
            exact hin
          · simp (disch := first | assumption | exact zk_230 | ((repeat (first | exact z1n | refine z1I ?_ | refine z1R ?_)); done) | exact rfl | omega | decide) only [zb_230_2, zb_230_3, zb_230_4, zb_230_5, r_iconst, r_istore_3i, r_istore_3r, r_istore_3j, r_aload_0, r_iload_1, r_inv_3_0, r_inv_3_1, r_inv_3_2, r_inv_3_3, r_inv_3_4, r_K0, r_K1, r_istore_4i, r_istore_4r, r_istore_4j, r_goto_w, r_iload_4, r_gf_640, r_ial, r_ial30, r_ial32, r_icmp_ge, r_iload_2, r_inv_2_0, r_inv_2_1, r_inv_2_2, r_inv_2_3, r_inv_2_4, r_ishr, r_iand, r_icmp_ne, r_goto, r_istore_5i, r_istore_5r, r_istore_5j, r_if_ne, r_istore_6i, r_istore_6r, r_istore_6j, r_if_eq, r_iload_5, r_iload_3, r_iload_6, r_iret, r_bret_0, r_bret_1, vm_s, gc, m_callee (hC := hC), m_callOf (hC := hC), hh, e4, m_nextCall (hC := hC), ↓reduceIte, not_true_eq_false, not_false_eq_true, Int.reduceEq, Int.reduceLE, Int.reduceLT, Int.reduceAdd, Int.reduceNeg, Int.reduceMul, Int.reduceSub, Int.reduceToNat]
            rw [if_neg (by omega)]
            simp only [ez, e4, zb1, decide_false, Bool.false_eq_true, ↓reduceIte] at hin ⊢
            exact hin
        · rw [if_neg ez] at hh
          have ez : zin v (ρ.K 1 c) = false := by simpa using ez
          by_cases e4 : ρ.K 4 c = 0
          · simp (disch := first | assumption | exact zk_230 | ((repeat (first | exact z1n | refine z1I ?_ | refine z1R ?_)); done) | exact rfl | omega | decide) only [zb_230_2, zb_230_3, zb_230_4, zb_230_5, r_iconst, r_istore_3i, r_istore_3r, r_istore_3j, r_aload_0, r_iload_1, r_inv_3_0, r_inv_3_1, r_inv_3_2, r_inv_3_3, r_inv_3_4, r_K0, r_K1, r_istore_4i, r_istore_4r, r_istore_4j, r_goto_w, r_iload_4, r_gf_640, r_ial, r_ial30, r_ial32, r_icmp_ge, r_iload_2, r_inv_2_0, r_inv_2_1, r_inv_2_2, r_inv_2_3, r_inv_2_4, r_ishr, r_iand, r_icmp_ne, r_goto, r_istore_5i, r_istore_5r, r_istore_5j, r_if_ne, r_istore_6i, r_istore_6r, r_istore_6j, r_if_eq, r_iload_5, r_iload_3, r_iload_6, r_iret, r_bret_0, r_bret_1, vm_s, gc, m_callee (hC := hC), m_callOf (hC := hC), hh, e4, m_nextCall (hC := hC), ↓reduceIte, not_true_eq_false, not_false_eq_true, Int.reduceEq, Int.reduceLE, Int.reduceLT, Int.reduceAdd, Int.reduceNeg, Int.reduceMul, Int.reduceSub, Int.reduceToNat]
            rw [if_neg (by omega)]
            simp only [ez, e4, zb1, decide_true, Bool.false_eq_true, ↓reduceIte] at hin ⊢
            exact hin
          · simp (disch := first | assumption | exact zk_230 | ((repeat (first | exact z1n | refine z1I ?_ | refine z1R ?_)); done) | exact rfl | omega | decide) only [zb_230_2, zb_230_3, zb_230_4, zb_230_5, r_iconst, r_istore_3i, r_istore_3r, r_istore_3j, r_aload_0, r_iload_1, r_inv_3_0, r_inv_3_1, r_inv_3_2, r_inv_3_3, r_inv_3_4, r_K0, r_K1, r_istore_4i, r_istore_4r, r_istore_4j, r_goto_w, r_iload_4, r_gf_640, r_ial, r_ial30, r_ial32, r_icmp_ge, r_iload_2, r_inv_2_0, r_inv_2_1, r_inv_2_2, r_inv_2_3, r_inv_2_4, r_ishr, r_iand, r_icmp_ne, r_goto, r_istore_5i, r_istore_5r, r_istore_5j, r_if_ne, r_istore_6i, r_istore_6r, r_istore_6j, r_if_eq, r_iload_5, r_iload_3, r_iload_6, r_iret, r_bret_0, r_bret_1, vm_s, gc, m_callee (hC := hC), m_callOf (hC := hC), hh, e4, m_nextCall (hC := hC), ↓reduceIte, not_true_eq_false, not_false_eq_true, Int.reduceEq, Int.reduceLE, Int.reduceLT, Int.reduceAdd, Int.reduceNeg, Int.reduceMul, Int.reduceSub, Int.reduceToNat]
            rw [if_neg (by omega)]
            simp only [ez, e4, zb1, decide_false, Bool.false_eq_true, ↓reduceIte] at hin ⊢
            exact hin
  obtain ⟨⟨q1, q2⟩, q3, q4⟩ := hnx (-1) (by omega) (by omega)
  have hfirst : zNext ρ x (-1) < ρ.c → ρ.K 4 (zNext ρ x (-1)) ≠ 2 := by
    intro q e
    have hz := hW.2.2.2.2 _ (by omega) q e
    obtain ⟨r1, r2⟩ := zHd_is hz
    have rr := zHd_rng ρ (ρ.K 0 (zNext ρ x (-1))) (zNext ρ x (-1)).toNat
    exact q3 _ (by omega) (by omega) (r1.1.trans (q4 q))
  have h0 := outer _ (zNext ρ x (-1)) false zJ zJ rfl (by omega) q2 (fun q => ⟨q4 q, hfirst q⟩) (by
    symm
    rw [zany_f]
    intro k k0 k1
    have := q3 k (by omega) k1
    simp [this])
  have e0 : zb1 false = 0 := rfl
  rw [e0] at h0
  simp (disch := first | assumption | exact zk_230 | ((repeat (first | exact z1n | refine z1I ?_ | refine z1R ?_)); done) | exact rfl | omega | decide) only [zb_230_0, r_iconst, r_istore_3i, r_istore_3r, r_istore_3j, r_aload_0, r_iload_1, r_inv_3_0, r_inv_3_1, r_inv_3_2, r_inv_3_3, r_inv_3_4, r_K0, r_K1, r_istore_4i, r_istore_4r, r_istore_4j, r_goto_w, r_iload_4, r_gf_640, r_ial, r_ial30, r_ial32, r_icmp_ge, r_iload_2, r_inv_2_0, r_inv_2_1, r_inv_2_2, r_inv_2_3, r_inv_2_4, r_ishr, r_iand, r_icmp_ne, r_goto, r_istore_5i, r_istore_5r, r_istore_5j, r_if_ne, r_istore_6i, r_istore_6r, r_istore_6j, r_if_eq, r_iload_5, r_iload_3, r_iload_6, r_iret, r_bret_0, r_bret_1, vm_s, m_nextCall (hC := hC), ↓reduceIte, not_true_eq_false, not_false_eq_true, Int.reduceEq, Int.reduceLE, Int.reduceLT, Int.reduceAdd, Int.reduceNeg, Int.reduceMul, Int.reduceSub, Int.reduceToNat]
  rw [h0]
  cases zLack ρ x v <;> rfl
set_option maxRecDepth 20000 in
theorem m_downs (hd : 3 ≤ d) (hM : zMP s V) (hC : zMC ρ V) (hW : zWF ρ) : zcall d 229 [.ref 164] (s, V) Q = Q (.inl (some (zi (zDown ρ : Nat)))) (s, V) := by
  obtain ⟨n0, n1, c0, c1⟩ := hW.1
  have tM := hM.1
  have vm_s : V 164 0 = .ref 165 := (hM.2 0 (by decide)).1
  have tm_s : s.tg 165 = 20 := (hM.2 0 (by decide)).2.1
  have lm_s : s.ln 165 = 230 := (hM.2 0 (by decide)).2.2
  have e := hC.1
  obtain ⟨d, rfl⟩ : ∃ e, d = e + 1 := ⟨d - 1, by omega⟩
  simp (disch := first | assumption | omega) only [zc_229]
  simp (disch := first | assumption | exact zk_229 | ((repeat (first | exact z1n | refine z1I ?_ | refine z1R ?_)); done) | exact rfl | omega | decide) only [zb_229_0, r_iconst, r_istore_1i, r_istore_1r, r_istore_1j, r_istore_2i, r_istore_2r, r_istore_2j, r_goto_w, r_iload_2, r_aload_0, r_gf_640, r_ial, r_ial30, r_ial32, r_icmp_ge, r_iload_1, r_inv_2_0, r_inv_2_1, r_inv_2_2, r_inv_2_3, r_inv_2_4, r_K0, r_K1, r_if_eq, r_goto, r_ishl, r_ior, r_iinc_2i, r_iinc_2r, r_iinc_2j, r_iret, r_bret_0, r_bret_1, vm_s, ↓reduceIte, not_true_eq_false, not_false_eq_true, Int.reduceEq, Int.reduceLE, Int.reduceLT, Int.reduceAdd, Int.reduceNeg, Int.reduceMul, Int.reduceSub, Int.reduceToNat]
  unfold zDown
  refine (z_chainI (F := fun k => zwp (zcall d) 229 Q (zB 229 1) [.ref 164, zi (zms (fun x => decide (ρ.S 6 x ≠ 1)) k : Nat), zi k] [] (s, V)) n0 (fun k k0 k1 => ?_)).trans ?_
  · have wl := zms_lt (p := fun x => decide (ρ.S 6 x ≠ 1)) k0 (by omega : k ≤ 12)
    have wo := zone_lt (x := k) (by omega)
    have z0 := zor_n (a := zms (fun x => decide (ρ.S 6 x ≠ 1)) k) (b := 0) (by omega) (by omega)
    rw [Nat.or_zero, show ((0 : Nat) : Int) = 0 from rfl] at z0
    have hs : zms (fun x => decide (ρ.S 6 x ≠ 1)) (k + 1) = if decide (ρ.S 6 k ≠ 1) = true then zms (fun x => decide (ρ.S 6 x ≠ 1)) k ||| zone k else zms (fun x => decide (ρ.S 6 x ≠ 1)) k := zfo_s k0
    rw [hs]
    generalize zms (fun x => decide (ρ.S 6 x ≠ 1)) k = mm at wl z0
    conv => lhs; rw [zb_229_1]
    simp (disch := first | assumption | exact zk_229 | ((repeat (first | exact z1n | refine z1I ?_ | refine z1R ?_)); done) | exact rfl | omega | decide) only [zb_229_2, zb_229_3, r_iconst, r_istore_1i, r_istore_1r, r_istore_1j, r_istore_2i, r_istore_2r, r_istore_2j, r_goto_w, r_iload_2, r_aload_0, r_gf_640, r_ial, r_ial30, r_ial32, r_icmp_ge, r_iload_1, r_inv_2_0, r_inv_2_1, r_inv_2_2, r_inv_2_3, r_inv_2_4, r_K0, r_K1, r_if_eq, r_goto, r_ishl, r_ior, r_iinc_2i, r_iinc_2r, r_iinc_2j, r_iret, r_bret_0, r_bret_1, vm_s, e, m_isUp (hC := hC), zshl_z, zor_n, z0, ↓reduceIte, not_true_eq_false, not_false_eq_true, Int.reduceEq, Int.reduceLE, Int.reduceLT, Int.reduceAdd, Int.reduceNeg, Int.reduceMul, Int.reduceSub, Int.reduceToNat]
    rw [if_neg (by omega : ¬ ρ.n ≤ k)]
    by_cases q : ρ.S 6 k = 1
    · rw [if_pos q, if_neg (by simpa using q)]
    · rw [if_neg q, if_pos (by simpa using q)]
  · simp (disch := first | assumption | exact zk_229 | ((repeat (first | exact z1n | refine z1I ?_ | refine z1R ?_)); done) | exact rfl | omega | decide) only [zb_229_1, zb_229_4, r_iconst, r_istore_1i, r_istore_1r, r_istore_1j, r_istore_2i, r_istore_2r, r_istore_2j, r_goto_w, r_iload_2, r_aload_0, r_gf_640, r_ial, r_ial30, r_ial32, r_icmp_ge, r_iload_1, r_inv_2_0, r_inv_2_1, r_inv_2_2, r_inv_2_3, r_inv_2_4, r_K0, r_K1, r_if_eq, r_goto, r_ishl, r_ior, r_iinc_2i, r_iinc_2r, r_iinc_2j, r_iret, r_bret_0, r_bret_1, vm_s, e, Int.le_refl, ↓reduceIte, not_true_eq_false, not_false_eq_true, Int.reduceEq, Int.reduceLE, Int.reduceLT, Int.reduceAdd, Int.reduceNeg, Int.reduceMul, Int.reduceSub, Int.reduceToNat]
end
