/-! LEAST BUDGET, 2: the table is made; the model's loop -/
/-- the heap's shape has grown by at most n cells and k slots -/
def zExt (s s' : zS) (n k : Nat) : Prop := (s.sz ≤ s'.sz ∧ s'.sz ≤ s.sz + n) ∧ (s.sl ≤ s'.sl ∧ s'.sl ≤ s.sl + k) ∧ ∀ r, r < s.sz → s'.tg r = s.tg r ∧ s'.ln r = s.ln r
theorem zExt.rf {s : zS} {n k : Nat} : zExt s s n k := ⟨⟨Nat.le_refl _, by omega⟩, ⟨Nat.le_refl _, by omega⟩, fun _ _ => ⟨rfl, rfl⟩⟩
theorem zExt.new {s : zS} {t : Nat} {m : Int} {n k j : Nat} (h1 : 1 ≤ n) (h2 : j ≤ k) : zExt s (s.new t m j) n k := by
  have e1 : (s.new t m j).sz = s.sz + 1 := rfl
  have e2 : (s.new t m j).sl = s.sl + j := rfl
  refine ⟨by rw [e1]; omega, by rw [e2]; omega, fun r hr => ⟨?_, ?_⟩⟩
  · show (if r = s.1 then t else s.2.2.1 r) = s.2.2.1 r
    rw [if_neg (by have : s.sz = s.1 := rfl; omega)]
  · show (if r = s.1 then m else s.2.2.2 r) = s.2.2.2 r
    rw [if_neg (by have : s.sz = s.1 := rfl; omega)]
theorem zExt.tr {s s' s'' : zS} {n k n' k' : Nat} (h : zExt s s' n k) (h' : zExt s' s'' n' k') : zExt s s'' (n + n') (k + k') := by
  obtain ⟨a1, a2, a3⟩ := h
  obtain ⟨b1, b2, b3⟩ := h'
  refine ⟨by omega, by omega, fun r hr => ?_⟩
  obtain ⟨c1, c2⟩ := b3 r (by omega)
  obtain ⟨d1, d2⟩ := a3 r hr
  exact ⟨c1.trans d1, c2.trans d2⟩
theorem zStP.ext {s s' : zS} {V V' : zV} {a n k : Nat} (hP : zStP s V a) (hx : zExt s s' n k) (ha : a + 18 ≤ s.sz) (hV : ∀ r, a ≤ r → r < a + 18 → V' r = V r) : zStP s' V' a := by
  obtain ⟨p1, p2, p3, p4, p5, p6, p7, p8, p9⟩ := hP
  have e := hx.2.2
  refine ⟨(e a (by omega)).1.trans p1, by rw [hV a (by omega) (by omega)]; exact p2, (e _ (by omega)).1.trans p3, (e _ (by omega)).2.trans p4, by rw [hV a (by omega) (by omega)]; exact p5, (e _ (by omega)).1.trans p6, (e _ (by omega)).2.trans p7, fun k hk => ?_, fun k hk => ?_⟩
  · obtain ⟨q1, q2, q3⟩ := p8 k hk
    exact ⟨by rw [hV _ (by omega) (by omega)]; exact q1, (e _ (by omega)).1.trans q2, (e _ (by omega)).2.trans q3⟩
  · obtain ⟨q1, q2, q3⟩ := p9 k hk
    exact ⟨by rw [hV _ (by omega) (by omega)]; exact q1, (e _ (by omega)).1.trans q2, (e _ (by omega)).2.trans q3⟩
theorem zStC.rows {ρ : zR} {V V' : zV} {a : Nat} (hC : zStC ρ V a) (e : ∀ z, a ≤ z → z < a + 18 → V' z = V z) : zStC ρ V' a := by
  obtain ⟨c1, c2, c3, c4, c5⟩ := hC
  exact ⟨by rw [e a (by omega) (by omega)]; exact c1, by rw [e a (by omega) (by omega)]; exact c2, fun k hk x => by rw [e _ (by omega) (by omega)]; exact c3 k hk x, fun k hk x => by rw [e _ (by omega) (by omega)]; exact c4 k hk x, fun x => by rw [e _ (by omega) (by omega)]; exact c5 x⟩
/-- the object o with a row of ints in its field f: none yet (length 0), or made (length n) -/
def zLz (s : zS) (V : zV) (o : Nat) (f : Int) (tg r0 : Nat) (n : Int) : Prop := ∃ r : Nat, V o f = .ref r ∧ (r = r0 ∨ 192 ≤ r) ∧ r < s.sz ∧ s.tg r = tg ∧ (s.ln r = 0 ∨ s.ln r = n)
section
variable {d : Nat} {s : zS} {V : zV} {Q : zO → zH → Prop} {a : Nat} {ρ : zR} {h : zH}
set_option maxRecDepth 20000 in
theorem c_leastFor (hd : 15 ≤ d) (hW : zWF ρ) (hP : zStP s V a) (hC : zStC ρ V a) (ha : a + 18 ≤ 132) (hsz : 192 ≤ s.sz) (ht : s.tg 132 = 0) (hL : zLz s V 132 0 20 133 6012) {x : Int} (x0 : 0 ≤ x) (x1 : x < ρ.n) (hQ : ∀ s' V', zExt s s' 1 6012 → (∀ q : Nat, q < 192 → q ≠ 132 → q ≠ 133 → V' q = V q) → zLz s' V' 132 0 20 133 6012 → Q (.inl (some (zi (zLb ρ x)))) (s', V')) : zcall d 1 [.ref 132, .ref a, zi x] (s, V) Q := by
  obtain ⟨n0, n1, cc0, cc1⟩ := hW.1
  obtain ⟨r, r1, r2, r3, r4, r5⟩ := hL
  obtain ⟨d, rfl⟩ : ∃ e, d = e + 1 := ⟨d - 1, by omega⟩
  rw [zc_1 ht]
  have t7 := hP.1
  by_cases hup : ρ.S 6 x = 1
  · rcases r5 with r5 | r5
    · simp (disch := first | assumption | exact zk_1 | ((repeat (first | exact z1n | refine z1I ?_ | refine z1R ?_)); done) | exact rfl | omega | decide) only [zb_1_0, zb_1_1, r_aload_1, r_iload_2, r_inv_2_0, r_inv_2_1, r_inv_2_2, r_inv_2_3, r_inv_2_4, r_K0, r_K1, r_if_ne, r_iconst, r_iret, r_bret_0, r_bret_1, r_aload_0, r_gf_0, r_alen, r_newa_int, r_pf_0, r_goto_w, r_istore_3i, r_istore_3r, r_istore_3j, r_istore_4i, r_istore_4r, r_istore_4j, r_iload_4, r_icmp_gt, r_inv_6_0, r_inv_6_1, r_inv_6_2, r_inv_6_3, r_inv_6_4, r_inv_1_0, r_inv_1_1, r_inv_1_2, r_inv_1_3, r_inv_1_4, r_if_eq, r_iload_3, r_inv_4_0, r_inv_4_1, r_inv_4_2, r_inv_4_3, r_inv_4_4, r_iinc_4i, r_iinc_4r, r_iinc_4j, r_goto, c_isUp (hC := hC), hup, r1, r5, ↓reduceIte, not_true_eq_false, not_false_eq_true, Int.reduceEq, Int.reduceLE, Int.reduceLT, Int.reduceAdd, Int.reduceNeg, Int.reduceMul, Int.reduceSub, Int.reduceToNat]
      have hx : zExt s (s.new 20 6012 6012) 1 6012 := zExt.new (by omega) (by omega)
      have e1 : ∀ q, q ≠ s.sz → q ≠ 132 → zput (zrow V s.sz (fun _ => zi 0)) 132 0 (.ref s.sz) q = V q := fun q q1 q2 => (zput_row q2).trans (zrow_r q1)
      have hP' := hP.ext hx (by omega) (V' := zput (zrow V s.sz (fun _ => zi 0)) 132 0 (.ref s.sz)) (fun q q0 q1 => e1 q (by omega) (by omega))
      have hC' := hC.rows (V' := zput (zrow V s.sz (fun _ => zi 0)) 132 0 (.ref s.sz)) (fun q q0 q1 => e1 q (by omega) (by omega))
      have t20 : (s.new 20 6012 6012).tg s.sz = 20 := if_pos rfl
      have l20 : (s.new 20 6012 6012).ln s.sz = 6012 := if_pos rfl
      have t132 : (s.new 20 6012 6012).tg 132 = 0 := (hx.2.2 132 (by omega)).1.trans ht
      have key := c_least2 (Q := Q) (d := d) (by omega) hW hP' hC' t132 zput_at t20 l20 (by omega) (by omega) x0 x1 (fun V' f1 => hQ _ V' hx (fun q q1 q2 q3 => by rw [f1 q (by omega)]; exact e1 q (by omega) q2) ⟨s.sz, by rw [f1 132 (by omega)]; exact zput_at, Or.inr hsz, by have : (s.new 20 6012 6012).sz = s.sz + 1 := rfl; omega, t20, Or.inr l20⟩)
      have e7 : (6012 : Int).toNat = 6012 := rfl
      first
        | exact key
        | (have t132' : ∀ z : zS, z = s.new 20 6012 6012 → z.tg 132 = 0 := fun z hz => by rw [hz]; exact t132
           simp (disch := first | assumption | exact t132 | exact t132' _ rfl | omega) only [r_pf_0, r_goto_w, e7]
           exact key)
    · simp (disch := first | assumption | exact zk_1 | ((repeat (first | exact z1n | refine z1I ?_ | refine z1R ?_)); done) | exact rfl | omega | decide) only [zb_1_0, zb_1_1, r_aload_1, r_iload_2, r_inv_2_0, r_inv_2_1, r_inv_2_2, r_inv_2_3, r_inv_2_4, r_K0, r_K1, r_if_ne, r_iconst, r_iret, r_bret_0, r_bret_1, r_aload_0, r_gf_0, r_alen, r_newa_int, r_pf_0, r_goto_w, r_istore_3i, r_istore_3r, r_istore_3j, r_istore_4i, r_istore_4r, r_istore_4j, r_iload_4, r_icmp_gt, r_inv_6_0, r_inv_6_1, r_inv_6_2, r_inv_6_3, r_inv_6_4, r_inv_1_0, r_inv_1_1, r_inv_1_2, r_inv_1_3, r_inv_1_4, r_if_eq, r_iload_3, r_inv_4_0, r_inv_4_1, r_inv_4_2, r_inv_4_3, r_inv_4_4, r_iinc_4i, r_iinc_4r, r_iinc_4j, r_goto, c_isUp (hC := hC), hup, r1, r5, ↓reduceIte, not_true_eq_false, not_false_eq_true, Int.reduceEq, Int.reduceLE, Int.reduceLT, Int.reduceAdd, Int.reduceNeg, Int.reduceMul, Int.reduceSub, Int.reduceToNat]
      exact c_least2 (d := d) (by omega) hW hP hC ht r1 r4 r5 (by omega) (by omega) x0 x1 (fun V' f1 => hQ s V' zExt.rf (fun q q1 q2 q3 => f1 q (by omega)) ⟨r, by rw [f1 132 (by omega)]; exact r1, r2, r3, r4, Or.inr r5⟩)
  · have hf : zfst (fun b => (zSw ρ x b).2) 0 1001 = 1001 := zfst_eq (by omega) (Int.le_refl _) (fun j j0 j1 => zSw_down hup) (fun z => by omega)
    have := hQ s V zExt.rf (fun _ _ _ _ => rfl) ⟨r, r1, r2, r3, r4, r5⟩
    unfold zLb at this
    rw [hf, if_neg (by omega)] at this
    simp (disch := first | assumption | exact zk_1 | ((repeat (first | exact z1n | refine z1I ?_ | refine z1R ?_)); done) | exact rfl | omega | decide) only [zb_1_0, r_aload_1, r_iload_2, r_inv_2_0, r_inv_2_1, r_inv_2_2, r_inv_2_3, r_inv_2_4, r_K0, r_K1, r_if_ne, r_iconst, r_iret, r_bret_0, r_bret_1, r_aload_0, r_gf_0, r_alen, r_newa_int, r_pf_0, r_goto_w, r_istore_3i, r_istore_3r, r_istore_3j, r_istore_4i, r_istore_4r, r_istore_4j, r_iload_4, r_icmp_gt, r_inv_6_0, r_inv_6_1, r_inv_6_2, r_inv_6_3, r_inv_6_4, r_inv_1_0, r_inv_1_1, r_inv_1_2, r_inv_1_3, r_inv_1_4, r_if_eq, r_iload_3, r_inv_4_0, r_inv_4_1, r_inv_4_2, r_inv_4_3, r_inv_4_4, r_iinc_4i, r_iinc_4r, r_iinc_4j, r_goto, c_isUp (hC := hC), hup, ↓reduceIte, not_true_eq_false, not_false_eq_true, Int.reduceEq, Int.reduceLE, Int.reduceLT, Int.reduceAdd, Int.reduceNeg, Int.reduceMul, Int.reduceSub, Int.reduceToNat]
    exact this
set_option maxRecDepth 20000 in
theorem m_leastBudget (hd : 10 ≤ d) (hW : zWF ρ) (hM : zMP s V) (hC : zMC ρ V) (i1 : zInts V 181 240) (i2 : zInts V 182 800) {x : Int} (hx : zI32 x) (h1 : ¬ (0 ≤ x ∧ x < ρ.n) → Q (.inl (some (zi 0))) (s, zput V 164 6 (zi 1))) (h0 : 0 ≤ x ∧ x < ρ.n → ∀ V', zFm zLvF (zLvK ++ [21, 6]) V V' → zInts V' 181 240 → zInts V' 182 800 → V' 164 6 = zi 0 → Q (.inl (some (zi (zLb ρ x)))) (s, V')) : zcall d 222 [.ref 164, zi x] (s, V) Q := by
  obtain ⟨n0, n1, cc0, cc1⟩ := hW.1
  have tM := hM.1
  obtain ⟨d, rfl⟩ : ∃ e, d = e + 1 := ⟨d - 1, by omega⟩
  simp (disch := first | assumption | omega) only [zc_222]
  by_cases e : 0 ≤ x ∧ x < ρ.n
  · have h0' := h0 e
    obtain ⟨e1, e2⟩ := e
    simp (disch := first | assumption | exact zk_222 | ((repeat (first | exact z1n | refine z1I ?_ | refine z1R ?_)); done) | exact rfl | omega | decide) only [zb_222_0, zb_222_1, r_aload_0, r_iload_1, r_inv_2_0, r_inv_2_1, r_inv_2_2, r_inv_2_3, r_inv_2_4, r_K0, r_K1, r_if_ne, r_iconst, r_iret, r_bret_0, r_bret_1, r_istore_2i, r_istore_2r, r_istore_2j, r_goto_w, r_iload_2, r_icmp_gt, r_inv_3_0, r_inv_3_1, r_inv_3_2, r_inv_3_3, r_inv_3_4, r_iinc_2i, r_iinc_2r, r_iinc_2j, r_goto, m_isService (hC := hC), e1, e2, and_self, ↓reduceIte, not_true_eq_false, not_false_eq_true, Int.reduceEq, Int.reduceLE, Int.reduceLT, Int.reduceAdd, Int.reduceNeg, Int.reduceMul, Int.reduceSub, Int.reduceToNat]
    have fin : ∀ (b : Int) (V1 : zV), 0 ≤ b → b ≤ 1001 → zFm zLvF (zLvK ++ [21]) V V1 → zInts V1 181 240 → zInts V1 182 800 → (if b < 1001 then b else -1) = zLb ρ x → zwp (zcall d) 222 Q (zB 222 3) [.ref 164, zi x, zi b] [] (s, V1) := by
      intro b V1 b0 b1 f1 j1 j2 hb
      have hM1 := hM.fm f1 (by decide)
      have F6 : zFm zLvF (zLvK ++ [21, 6]) V (zput V1 164 6 (zi 0)) := (f1.mono (fun _ h => h) (by decide)).pf (by decide)
      have := h0' (zput V1 164 6 (zi 0)) F6 (fun i q0 q1 => by rw [zput_r (by omega)]; exact j1 i q0 q1) (fun i q0 q1 => by rw [zput_r (by omega)]; exact j2 i q0 q1) zput_at
      rw [← hb] at this
      by_cases q : b < 1001
      · rw [if_pos q] at this
        simp (disch := first | assumption | exact zk_222 | ((repeat (first | exact z1n | refine z1I ?_ | refine z1R ?_)); done) | exact rfl | omega | decide) only [zb_222_3, zb_222_4, zb_222_5, r_aload_0, r_iload_1, r_inv_2_0, r_inv_2_1, r_inv_2_2, r_inv_2_3, r_inv_2_4, r_K0, r_K1, r_if_ne, r_iconst, r_iret, r_bret_0, r_bret_1, r_istore_2i, r_istore_2r, r_istore_2j, r_goto_w, r_iload_2, r_icmp_gt, r_inv_3_0, r_inv_3_1, r_inv_3_2, r_inv_3_3, r_inv_3_4, r_iinc_2i, r_iinc_2r, r_iinc_2j, r_goto, m_tells, ↓reduceIte, not_true_eq_false, not_false_eq_true, Int.reduceEq, Int.reduceLE, Int.reduceLT, Int.reduceAdd, Int.reduceNeg, Int.reduceMul, Int.reduceSub, Int.reduceToNat]
        rw [if_neg (by omega)]
        exact this
      · rw [if_neg q] at this
        simp (disch := first | assumption | exact zk_222 | ((repeat (first | exact z1n | refine z1I ?_ | refine z1R ?_)); done) | exact rfl | omega | decide) only [zb_222_3, zb_222_4, zb_222_5, r_aload_0, r_iload_1, r_inv_2_0, r_inv_2_1, r_inv_2_2, r_inv_2_3, r_inv_2_4, r_K0, r_K1, r_if_ne, r_iconst, r_iret, r_bret_0, r_bret_1, r_istore_2i, r_istore_2r, r_istore_2j, r_goto_w, r_iload_2, r_icmp_gt, r_inv_3_0, r_inv_3_1, r_inv_3_2, r_inv_3_3, r_inv_3_4, r_iinc_2i, r_iinc_2r, r_iinc_2j, r_goto, m_tells, ↓reduceIte, not_true_eq_false, not_false_eq_true, Int.reduceEq, Int.reduceLE, Int.reduceLT, Int.reduceAdd, Int.reduceNeg, Int.reduceMul, Int.reduceSub, Int.reduceToNat]
        rw [if_pos (by omega)]
        exact this
    have hlp := z_iter (i := 0) (n := 1001) (I := fun b (q : zV) => zFm zLvF (zLvK ++ [21]) V q ∧ zInts q 181 240 ∧ zInts q 182 800 ∧ ∀ b', 0 ≤ b' → b' < b → (zSw ρ x b').2 = false) (P := fun b q => zwp (zcall d) 222 Q (zB 222 2) [.ref 164, zi x, zi b] [] (s, q)) (by omega)
    refine hlp ?_ ?_ V ⟨zFm.rf, i1, i2, fun b' _ _ => by omega⟩
    · rintro b V1 b0 b1 ⟨f1, j1, j2, e3⟩ ih
      have hM1 := hM.fm f1 (by decide)
      have hC1 := hC.fm f1 (by decide)
      conv => rw [zb_222_2]
      simp (disch := first | assumption | exact zk_222 | ((repeat (first | exact z1n | refine z1I ?_ | refine z1R ?_)); done) | exact rfl | omega | decide) only [r_aload_0, r_iload_1, r_inv_2_0, r_inv_2_1, r_inv_2_2, r_inv_2_3, r_inv_2_4, r_K0, r_K1, r_if_ne, r_iconst, r_iret, r_bret_0, r_bret_1, r_istore_2i, r_istore_2r, r_istore_2j, r_goto_w, r_iload_2, r_icmp_gt, r_inv_3_0, r_inv_3_1, r_inv_3_2, r_inv_3_3, r_inv_3_4, r_iinc_2i, r_iinc_2r, r_iinc_2j, r_goto, ↓reduceIte, not_true_eq_false, not_false_eq_true, Int.reduceEq, Int.reduceLE, Int.reduceLT, Int.reduceAdd, Int.reduceNeg, Int.reduceMul, Int.reduceSub, Int.reduceToNat]
      rw [if_neg (by omega)]
      refine m_serves (by omega) hW hM1 hC1 j1 j2 e1 e2 b0 (by omega) (fun V2 f2 hN2 _ _ => ?_)
      have hsw : (zSv ρ 12 x 0 b zN0).1 = zSw ρ x b := rfl
      rw [hsw]
      have F2 := f1.tr f2
      by_cases g : (zSw ρ x b).2 = true
      · have hf : zfst (fun b => (zSw ρ x b).2) 0 1001 = b := zfst_eq b0 (by omega) (fun j j0 j1 => e3 j j0 j1) (fun _ => g)
        have := fin b V2 b0 (by omega) F2 hN2.2.2.2.1 hN2.2.2.2.2 (by unfold zLb; rw [hf])
        rw [g, show zb1 true = 1 from rfl]
        simp (disch := first | assumption | exact zk_222 | ((repeat (first | exact z1n | refine z1I ?_ | refine z1R ?_)); done) | exact rfl | omega | decide) only [r_aload_0, r_iload_1, r_inv_2_0, r_inv_2_1, r_inv_2_2, r_inv_2_3, r_inv_2_4, r_K0, r_K1, r_if_ne, r_iconst, r_iret, r_bret_0, r_bret_1, r_istore_2i, r_istore_2r, r_istore_2j, r_goto_w, r_iload_2, r_icmp_gt, r_inv_3_0, r_inv_3_1, r_inv_3_2, r_inv_3_3, r_inv_3_4, r_iinc_2i, r_iinc_2r, r_iinc_2j, r_goto, ↓reduceIte, not_true_eq_false, not_false_eq_true, Int.reduceEq, Int.reduceLE, Int.reduceLT, Int.reduceAdd, Int.reduceNeg, Int.reduceMul, Int.reduceSub, Int.reduceToNat]
        exact this
      · have gf : (zSw ρ x b).2 = false := by simpa using g
        rw [gf, show zb1 false = 0 from rfl]
        have := ih V2 ⟨F2, hN2.2.2.2.1, hN2.2.2.2.2, fun b' q0 q1 => by
          by_cases z : b' = b
          · rw [z]; exact gf
          · exact e3 b' q0 (by omega)⟩
        simp (disch := first | assumption | exact zk_222 | ((repeat (first | exact z1n | refine z1I ?_ | refine z1R ?_)); done) | exact rfl | omega | decide) only [r_aload_0, r_iload_1, r_inv_2_0, r_inv_2_1, r_inv_2_2, r_inv_2_3, r_inv_2_4, r_K0, r_K1, r_if_ne, r_iconst, r_iret, r_bret_0, r_bret_1, r_istore_2i, r_istore_2r, r_istore_2j, r_goto_w, r_iload_2, r_icmp_gt, r_inv_3_0, r_inv_3_1, r_inv_3_2, r_inv_3_3, r_inv_3_4, r_iinc_2i, r_iinc_2r, r_iinc_2j, r_goto, ↓reduceIte, not_true_eq_false, not_false_eq_true, Int.reduceEq, Int.reduceLE, Int.reduceLT, Int.reduceAdd, Int.reduceNeg, Int.reduceMul, Int.reduceSub, Int.reduceToNat]
        exact this
    · rintro V1 ⟨f1, j1, j2, e3⟩
      have hf : zfst (fun b => (zSw ρ x b).2) 0 1001 = 1001 := zfst_eq (by omega) (Int.le_refl _) (fun j j0 j1 => e3 j j0 j1) (fun z => by omega)
      have := fin 1001 V1 (by omega) (by omega) f1 j1 j2 (by unfold zLb; rw [hf])
      simp (disch := first | assumption | exact zk_222 | ((repeat (first | exact z1n | refine z1I ?_ | refine z1R ?_)); done) | exact rfl | omega | decide) only [zb_222_2, r_aload_0, r_iload_1, r_inv_2_0, r_inv_2_1, r_inv_2_2, r_inv_2_3, r_inv_2_4, r_K0, r_K1, r_if_ne, r_iconst, r_iret, r_bret_0, r_bret_1, r_istore_2i, r_istore_2r, r_istore_2j, r_goto_w, r_iload_2, r_icmp_gt, r_inv_3_0, r_inv_3_1, r_inv_3_2, r_inv_3_3, r_inv_3_4, r_iinc_2i, r_iinc_2r, r_iinc_2j, r_goto, ↓reduceIte, not_true_eq_false, not_false_eq_true, Int.reduceEq, Int.reduceLE, Int.reduceLT, Int.reduceAdd, Int.reduceNeg, Int.reduceMul, Int.reduceSub, Int.reduceToNat]
      exact this
  · have := h1 e
    simp (disch := first | assumption | exact zk_222 | ((repeat (first | exact z1n | refine z1I ?_ | refine z1R ?_)); done) | exact rfl | omega | decide) only [zb_222_0, r_aload_0, r_iload_1, r_inv_2_0, r_inv_2_1, r_inv_2_2, r_inv_2_3, r_inv_2_4, r_K0, r_K1, r_if_ne, r_iconst, r_iret, r_bret_0, r_bret_1, r_istore_2i, r_istore_2r, r_istore_2j, r_goto_w, r_iload_2, r_icmp_gt, r_inv_3_0, r_inv_3_1, r_inv_3_2, r_inv_3_3, r_inv_3_4, r_iinc_2i, r_iinc_2r, r_iinc_2j, r_goto, m_isService (hC := hC), e, m_fails, ↓reduceIte, not_true_eq_false, not_false_eq_true, Int.reduceEq, Int.reduceLE, Int.reduceLT, Int.reduceAdd, Int.reduceNeg, Int.reduceMul, Int.reduceSub, Int.reduceToNat]
    exact this
end
