/-! MODEL, 3: writing the row; a step -/
theorem zR.sS_self {ρ : zR} {w x v : Int} (h : ρ.S w x = v) : ρ.sS w x v = ρ := by
  unfold zR.sS
  have : (fun w' x' => if w' = w ∧ x' = x then v else ρ.S w' x') = ρ.2.2.1 := by
    funext w' x'
    split
    · rename_i e; rw [e.1, e.2]; exact h.symm
    · rfl
  rw [this]
  rfl
theorem zMC.putS {ρ : zR} {V : zV} (hC : zMC ρ V) (hn : ρ.n ≤ 12) {w x v : Int} (w0 : 0 ≤ w) (w1 : w < 9) (x0 : 0 ≤ x) (x1 : x < 12) : zMC (ρ.sS w x v) (zput V 165 (2 + 9 * x + w) (zi v)) := by
  obtain ⟨c1, c2, c3, c4⟩ := hC
  refine ⟨(zput_i (by omega)).trans c1, (zput_i (by omega)).trans c2, fun w' x' a b c e => ?_, fun w' k' a b c e => (zput_i (by omega)).trans (c4 w' k' a b c e)⟩
  rw [zR.sS_S]
  by_cases q : w' = w ∧ x' = x
  · rw [if_pos q, q.1, q.2, zput_at]
  · rw [if_neg q, zput_i (by omega)]
    exact c3 w' x' a b c e
theorem zInts.put {V : zV} {r r' : Nat} {k n : Int} {z : Int} (h : zInts V r n) : zInts (zput V r' k (zi z)) r n := by
  intro i i0 i1
  by_cases c : r = r' ∧ i = k
  · exact ⟨z, by rw [c.1, c.2, zput_at]⟩
  · rw [show zput V r' k (zi z) r i = V r i from if_neg c]
    exact h i i0 i1
/-- nothing but the row of the state has changed, and it is a row of ints still -/
def zFi (V V' : zV) : Prop := zFm [165] [] V V' ∧ (zInts V 165 230 → zInts V' 165 230)
theorem zFi.rf {V : zV} : zFi V V := ⟨zFm.rf, id⟩
theorem zFi.tr {V V' V'' : zV} (h : zFi V V') (h' : zFi V' V'') : zFi V V'' := ⟨h.1.tr h'.1, fun q => h'.2 (h.2 q)⟩
theorem zFi.pr {V V1 : zV} {k z : Int} (h : zFi V V1) : zFi V (zput V1 165 k (zi z)) := ⟨h.1.pr (by simp) (by omega), fun q => (h.2 q).put⟩
section
variable {d : Nat} {s : zS} {V : zV} {Q : zO → zH → Prop} {ρ : zR} {h : zH}
set_option maxRecDepth 20000 in
theorem m_goesDown (hd : 2 ≤ d) (hM : zMP s V) (hC : zMC ρ V) (hn : ρ.n ≤ 12) {x : Int} (x0 : 0 ≤ x) (x1 : x < ρ.n) (hQ : ∀ V', zFi V V' → zMC (zGd ρ x) V' → Q (.inl none) (s, V')) : zcall d 189 [.ref 164, zi x] (s, V) Q := by
  have tM := hM.1
  obtain ⟨d, rfl⟩ : ∃ e, d = e + 1 := ⟨d - 1, by omega⟩
  simp (disch := first | assumption | omega) only [zc_189]
  have p1 : zMP s (zput V 165 (2 + 9 * x + 6) (zi 0)) := hM.fm (zFm.rf.pr (l := [165]) (ks := []) (by simp) (by omega)) (fun _ _ => by simp)
  have p2 : zMP s (zput (zput V 165 (2 + 9 * x + 6) (zi 0)) 165 (2 + 9 * x + 7) (zi 0)) := hM.fm ((zFm.rf.pr (l := [165]) (ks := []) (by simp) (by omega)).pr (by simp) (by omega)) (fun _ _ => by simp)
  simp (disch := first | assumption | exact zk_189 | ((repeat (first | exact z1n | refine z1I ?_ | refine z1R ?_)); done) | exact rfl | omega | decide) only [zb_189_0, r_aload_0, r_iload_1, r_iconst, r_inv_4_0, r_inv_4_1, r_inv_4_2, r_inv_4_3, r_inv_4_4, r_K0, r_K1, r_ret, m_puts, ↓reduceIte, not_true_eq_false, not_false_eq_true, Int.reduceEq, Int.reduceLE, Int.reduceLT, Int.reduceAdd, Int.reduceNeg, Int.reduceMul, Int.reduceSub, Int.reduceToNat]
  exact hQ _ zFi.rf.pr.pr.pr (((hC.putS hn (by omega) (by omega) x0 (by omega)).putS hn (by omega) (by omega) x0 (by omega)).putS hn (by omega) (by omega) x0 (by omega))
set_option maxRecDepth 20000 in
/-- one service's part of a step, in the model: the rest of the loop's body behind the look at its groups -/
theorem m_step (hd : 5 ≤ d) (hM : zMP s V) (hC : zMC ρ V) (hW : zWF ρ) (hQ : ∀ V', zFi V V' → zMC (zStep ρ) V' → Q (.inl (some (zi ((zStp ρ ρ.n).2 : Nat)))) (s, V')) : zcall d 231 [.ref 164] (s, V) Q := by
  obtain ⟨n0, n1, c0, c1⟩ := hW.1
  have hv : zDown ρ < 4096 := zms_lt n0 n1
  have tM := hM.1
  have vm_s : V 164 0 = .ref 165 := (hM.2 0 (by decide)).1
  have tm_s : s.tg 165 = 20 := (hM.2 0 (by decide)).2.1
  have lm_s : s.ln 165 = 230 := (hM.2 0 (by decide)).2.2
  obtain ⟨d, rfl⟩ : ∃ e, d = e + 1 := ⟨d - 1, by omega⟩
  simp (disch := first | assumption | omega) only [zc_231]
  simp (disch := first | assumption | exact zk_231 | ((repeat (first | exact z1n | refine z1I ?_ | refine z1R ?_)); done) | exact rfl | omega | decide) only [zb_231_0, r_aload_0, r_inv_1_0, r_inv_1_1, r_inv_1_2, r_inv_1_3, r_inv_1_4, r_K0, r_K1, r_istore_1i, r_istore_1r, r_istore_1j, r_iconst, r_istore_2i, r_istore_2r, r_istore_2j, r_istore_3i, r_istore_3r, r_istore_3j, r_goto_w, r_iload_3, r_gf_640, r_ial, r_ial30, r_ial32, r_icmp_ge, r_iload_1, r_inv_3_0, r_inv_3_1, r_inv_3_2, r_inv_3_3, r_inv_3_4, r_istore_4i, r_istore_4r, r_istore_4j, r_ishr, r_iand, r_if_ne, r_istore_5i, r_istore_5r, r_istore_5j, r_iload_4, r_if_eq, r_iload_5, r_iadd, r_goto, r_if_le, r_isub, r_inv_4_0, r_inv_4_1, r_inv_4_2, r_inv_4_3, r_inv_4_4, r_icmp_lt, r_inv_2_0, r_inv_2_1, r_inv_2_2, r_inv_2_3, r_inv_2_4, r_iload_2, r_ishl, r_ior, r_icmp_eq, r_iinc_3i, r_iinc_3r, r_iinc_3j, r_iret, r_bret_0, r_bret_1, vm_s, m_downs (hC := hC), ↓reduceIte, not_true_eq_false, not_false_eq_true, Int.reduceEq, Int.reduceLE, Int.reduceLT, Int.reduceAdd, Int.reduceNeg, Int.reduceMul, Int.reduceSub, Int.reduceToNat]
  have hx := z_iter (i := 0) (n := ρ.n) (I := fun k (q : zV × Value × Value) => zFi V q.1 ∧ zMC (zStp ρ k).1 q.1 ∧ (q.2.1 = zJ ∨ ∃ y, q.2.1 = zi y)) (P := fun k q => zwp (zcall d) 231 Q (zB 231 1) [.ref 164, zi (zDown ρ : Nat), zi ((zStp ρ k).2 : Nat), zi k, q.2.1, q.2.2] [] (s, q.1)) n0
  refine hx ?_ ?_ (V, zJ, zJ) ⟨zFi.rf, hC, Or.inl rfl⟩
  · rintro k ⟨V1, w4, w5⟩ k0 k1 ⟨f1, hC1, -⟩ ih
    obtain ⟨i1, i2, i3⟩ := zStp_inv hW k0 (Int.le_of_lt k1)
    dsimp only at f1 hC1 ih ⊢
    have hM1 : zMP s V1 := hM.fm f1.1 (fun _ _ => by simp)
    have hl : zLack (zStp ρ k).1 = zLack ρ := zLack_K i1.K i1.c
    have hn1 : (zStp ρ k).1.n = ρ.n := i1.n
    have hW1 : zWF (zStp ρ k).1 := hW.same i1 i2
    have hr := i2 k k0 k1
    have hs := zfo_s (f := fun x (q : zR × Nat) => (zTurn ρ (zDown ρ) x q.1, if zFell ρ (zDown ρ) x q.1 = true then q.2 ||| zone x else q.2)) (x := (ρ, 0)) k0
    have hs1 : (zStp ρ (k + 1)).1 = zTurn ρ (zDown ρ) k (zStp ρ k).1 := congrArg Prod.fst hs
    have hs2 : (zStp ρ (k + 1)).2 = if zFell ρ (zDown ρ) k (zStp ρ k).1 = true then (zStp ρ k).2 ||| zone k else (zStp ρ k).2 := congrArg Prod.snd hs
    have tol : 1 ≤ (zStp ρ k).1.S 2 k ∧ (zStp ρ k).1.S 2 k ≤ 9 := (hW1.2.1 k k0 (by omega)).2.2.1
    generalize hσ : (zStp ρ k).1 = σ at hC1 hl hn1 hW1 hr hs1 hs2 tol
    generalize hfl : (zStp ρ k).2 = fl at hs2 i3
    have next : ∀ V2 w4 w5, (∃ y, w4 = zi y) → zFi V1 V2 → zMC (zTurn ρ (zDown ρ) k σ) V2 → zwp (zcall d) 231 Q (zB 231 1) [.ref 164, zi (zDown ρ : Nat), zi ((if zFell ρ (zDown ρ) k σ = true then fl ||| zone k else fl : Nat) : Int), zi (k + 1), w4, w5] [] (s, V2) := fun V2 w4 w5 y1 y2 y3 => by
      have := ih (V2, w4, w5) ⟨f1.tr y2, by rw [hs1]; exact y3, Or.inr y1⟩
      rw [hs2] at this
      exact this
    have g0 : V1 164 0 = .ref 165 := (f1.1.2 0 (by simp)).trans vm_s
    have gn : V1 165 0 = zi ρ.n := hC1.1.trans (by rw [hn1])
    conv => rw [zb_231_1]
    simp (disch := first | assumption | omega) only [r_iload_3, r_iload_1, r_aload_0, r_gf_640, r_iconst, g0, gn, r_ial, r_icmp_ge]
    rw [if_neg (by omega : ¬ ρ.n ≤ k), r_inv_3_0 (z1I (z1I (z1R z1n))), m_isCutOff (d := d) (ρ := σ) (by omega) hM1 hC1 hW1 k0 (by omega) hv, hl]
    have pf : ∀ (V : zV) k v, zMP s V → zMP s (zput V 165 k v) := fun V k v hM => hM.fm (zFm.rf.pr (l := [165]) (ks := []) (by simp) (by omega)) (fun _ _ => by simp)
    have hh := zhas (a := zDown ρ) (x := k) (by omega) k0 (by omega)
    have hon : σ.n ≤ 12 := by omega
    have kn : k < σ.n := by omega
    have body : ∀ b : Bool, zLack ρ k (zDown ρ) = b → zwp (zcall d) 231 Q ([.istore 4, .iload 1, .iload 3, .ishr, .iconst 1, .iand, .ifCond .ne 6, .aload 0, .iload 3, .iconst 7, .invokeinterface 168 3, .istore 5, .aload 0, .iload 3, .iconst 7, .iload 4, .ifCond .eq 2, .iload 5, .iconst 1, .iadd, .goto 4]) [.ref 164, zi (zDown ρ : Nat), zi (fl : Nat), zi k, w4, w5] [zi (zb1 b)] (s, V1) := by
      intro b hb
      have hb1 : -2147483648 ≤ zb1 b ∧ zb1 b < 2147483648 := by unfold zb1; split <;> omega
      by_cases e : zin (zDown ρ) k = true
      · rw [if_pos e] at hh
        have hT : zTurn ρ (zDown ρ) k σ = zMd σ k b := by unfold zTurn; rw [if_pos e, hb]
        have hF : zFell ρ (zDown ρ) k σ = false := by unfold zFell; rw [e]; rfl
        rw [hT, hF, if_neg (by decide)] at next
        have hC := hC1
        have r8 := hr.2.2
        simp (disch := first | assumption | exact zk_231 | ((repeat (first | exact z1n | refine z1I ?_ | refine z1R ?_)); done) | exact rfl | omega | decide) only [zb_231_6, r_aload_0, r_inv_1_0, r_inv_1_1, r_inv_1_2, r_inv_1_3, r_inv_1_4, r_K0, r_K1, r_istore_1i, r_istore_1r, r_istore_1j, r_iconst, r_istore_2i, r_istore_2r, r_istore_2j, r_istore_3i, r_istore_3r, r_istore_3j, r_goto_w, r_iload_3, r_gf_640, r_ial, r_ial30, r_ial32, r_icmp_ge, r_iload_1, r_inv_3_0, r_inv_3_1, r_inv_3_2, r_inv_3_3, r_inv_3_4, r_istore_4i, r_istore_4r, r_istore_4j, r_ishr, r_iand, r_if_ne, r_istore_5i, r_istore_5r, r_istore_5j, r_iload_4, r_if_eq, r_iload_5, r_iadd, r_goto, r_if_le, r_isub, r_inv_4_0, r_inv_4_1, r_inv_4_2, r_inv_4_3, r_inv_4_4, r_icmp_lt, r_inv_2_0, r_inv_2_1, r_inv_2_2, r_inv_2_3, r_inv_2_4, r_iload_2, r_ishl, r_ior, r_icmp_eq, r_iinc_3i, r_iinc_3r, r_iinc_3j, r_iret, r_bret_0, r_bret_1, vm_s, hh, m_of (hC := hC), ↓reduceIte, not_true_eq_false, not_false_eq_true, Int.reduceEq, Int.reduceLE, Int.reduceLT, Int.reduceAdd, Int.reduceNeg, Int.reduceMul, Int.reduceSub, Int.reduceToNat]
        by_cases er : σ.S 8 k = -1
        · have hmd : zMd σ k b = σ := by unfold zMd; rw [if_pos er]
          rw [hmd] at next
          have := next V1 (zi (zb1 b)) w5 ⟨_, rfl⟩ zFi.rf hC1
          simp (disch := first | assumption | exact zk_231 | ((repeat (first | exact z1n | refine z1I ?_ | refine z1R ?_)); done) | exact rfl | omega | decide) only [zb_231_9, r_aload_0, r_inv_1_0, r_inv_1_1, r_inv_1_2, r_inv_1_3, r_inv_1_4, r_K0, r_K1, r_istore_1i, r_istore_1r, r_istore_1j, r_iconst, r_istore_2i, r_istore_2r, r_istore_2j, r_istore_3i, r_istore_3r, r_istore_3j, r_goto_w, r_iload_3, r_gf_640, r_ial, r_ial30, r_ial32, r_icmp_ge, r_iload_1, r_inv_3_0, r_inv_3_1, r_inv_3_2, r_inv_3_3, r_inv_3_4, r_istore_4i, r_istore_4r, r_istore_4j, r_ishr, r_iand, r_if_ne, r_istore_5i, r_istore_5r, r_istore_5j, r_iload_4, r_if_eq, r_iload_5, r_iadd, r_goto, r_if_le, r_isub, r_inv_4_0, r_inv_4_1, r_inv_4_2, r_inv_4_3, r_inv_4_4, r_icmp_lt, r_inv_2_0, r_inv_2_1, r_inv_2_2, r_inv_2_3, r_inv_2_4, r_iload_2, r_ishl, r_ior, r_icmp_eq, r_iinc_3i, r_iinc_3r, r_iinc_3j, r_iret, r_bret_0, r_bret_1, vm_s, er, ↓reduceIte, not_true_eq_false, not_false_eq_true, Int.reduceEq, Int.reduceLE, Int.reduceLT, Int.reduceAdd, Int.reduceNeg, Int.reduceMul, Int.reduceSub, Int.reduceToNat]
          exact this
        · have h8 : ∀ v, zMC (σ.sS 8 k v) (zput V1 165 (2 + 9 * k + 8) (zi v)) := fun v => hC1.putS hon (by omega) (by omega) k0 (by omega)
          have hz : (if σ.S 8 k ≤ 0 then 0 else σ.S 8 k - 1) = (if 0 < σ.S 8 k then σ.S 8 k - 1 else σ.S 8 k) := by
            have := hr.2.2
            by_cases q : 0 < σ.S 8 k
            · rw [if_neg (by omega), if_pos q]
            · rw [if_pos (by omega), if_neg q]; omega
          have go : ∀ v, v = (if 0 < σ.S 8 k then σ.S 8 k - 1 else σ.S 8 k) → zwp (zcall d) 231 Q (zB 231 8) [.ref 164, zi (zDown ρ : Nat), zi (fl : Nat), zi k, zi (zb1 b), w5] [zi v, zi 8, zi k, .ref 164] (s, V1) := by
            intro v hv1
            have vr : 0 ≤ v ∧ v ≤ 20 := by have := hr.2.2; rw [hv1]; split <;> omega
            have hC := h8 v
            have hM := pf V1 (2 + 9 * k + 8) (zi v) hM1
            have hsv : (σ.sS 8 k v).S 8 k = v := by rw [zR.sS_S, if_pos ⟨rfl, rfl⟩]
            have hon2 : (σ.sS 8 k v).n ≤ 12 := hon
            have kn2 : k < (σ.sS 8 k v).n := kn
            simp (disch := first | assumption | exact zk_231 | ((repeat (first | exact z1n | refine z1I ?_ | refine z1R ?_)); done) | exact rfl | omega | decide) only [zb_231_8, r_aload_0, r_inv_1_0, r_inv_1_1, r_inv_1_2, r_inv_1_3, r_inv_1_4, r_K0, r_K1, r_istore_1i, r_istore_1r, r_istore_1j, r_iconst, r_istore_2i, r_istore_2r, r_istore_2j, r_istore_3i, r_istore_3r, r_istore_3j, r_goto_w, r_iload_3, r_gf_640, r_ial, r_ial30, r_ial32, r_icmp_ge, r_iload_1, r_inv_3_0, r_inv_3_1, r_inv_3_2, r_inv_3_3, r_inv_3_4, r_istore_4i, r_istore_4r, r_istore_4j, r_ishr, r_iand, r_if_ne, r_istore_5i, r_istore_5r, r_istore_5j, r_iload_4, r_if_eq, r_iload_5, r_iadd, r_goto, r_if_le, r_isub, r_inv_4_0, r_inv_4_1, r_inv_4_2, r_inv_4_3, r_inv_4_4, r_icmp_lt, r_inv_2_0, r_inv_2_1, r_inv_2_2, r_inv_2_3, r_inv_2_4, r_iload_2, r_ishl, r_ior, r_icmp_eq, r_iinc_3i, r_iinc_3r, r_iinc_3j, r_iret, r_bret_0, r_bret_1, vm_s, m_puts, m_of (hC := hC), hsv, ↓reduceIte, not_true_eq_false, not_false_eq_true, Int.reduceEq, Int.reduceLE, Int.reduceLT, Int.reduceAdd, Int.reduceNeg, Int.reduceMul, Int.reduceSub, Int.reduceToNat]
            have keep : zMd σ k b = σ.sS 8 k v → zwp (zcall d) 231 Q (zB 231 9) [.ref 164, zi (zDown ρ : Nat), zi (fl : Nat), zi k, zi (zb1 b), w5] [] (s, zput V1 165 (2 + 9 * k + 8) (zi v)) := by
              intro hmd
              rw [hmd] at next
              have := next (zput V1 165 (2 + 9 * k + 8) (zi v)) (zi (zb1 b)) w5 ⟨_, rfl⟩ zFi.rf.pr (h8 v)
              simp (disch := first | assumption | exact zk_231 | ((repeat (first | exact z1n | refine z1I ?_ | refine z1R ?_)); done) | exact rfl | omega | decide) only [zb_231_9, r_aload_0, r_inv_1_0, r_inv_1_1, r_inv_1_2, r_inv_1_3, r_inv_1_4, r_K0, r_K1, r_istore_1i, r_istore_1r, r_istore_1j, r_iconst, r_istore_2i, r_istore_2r, r_istore_2j, r_istore_3i, r_istore_3r, r_istore_3j, r_goto_w, r_iload_3, r_gf_640, r_ial, r_ial30, r_ial32, r_icmp_ge, r_iload_1, r_inv_3_0, r_inv_3_1, r_inv_3_2, r_inv_3_3, r_inv_3_4, r_istore_4i, r_istore_4r, r_istore_4j, r_ishr, r_iand, r_if_ne, r_istore_5i, r_istore_5r, r_istore_5j, r_iload_4, r_if_eq, r_iload_5, r_iadd, r_goto, r_if_le, r_isub, r_inv_4_0, r_inv_4_1, r_inv_4_2, r_inv_4_3, r_inv_4_4, r_icmp_lt, r_inv_2_0, r_inv_2_1, r_inv_2_2, r_inv_2_3, r_inv_2_4, r_iload_2, r_ishl, r_ior, r_icmp_eq, r_iinc_3i, r_iinc_3r, r_iinc_3j, r_iret, r_bret_0, r_bret_1, vm_s, ↓reduceIte, not_true_eq_false, not_false_eq_true, Int.reduceEq, Int.reduceLE, Int.reduceLT, Int.reduceAdd, Int.reduceNeg, Int.reduceMul, Int.reduceSub, Int.reduceToNat]
              exact this
            by_cases ev : v = 0
            · rw [if_neg (by omega)]
              cases b with
              | true =>
                have e1 : zb1 true = 1 := rfl
                simp only [e1] at keep ⊢
                simp (disch := first | assumption | exact zk_231 | ((repeat (first | exact z1n | refine z1I ?_ | refine z1R ?_)); done) | exact rfl | omega | decide) only [r_aload_0, r_inv_1_0, r_inv_1_1, r_inv_1_2, r_inv_1_3, r_inv_1_4, r_K0, r_K1, r_istore_1i, r_istore_1r, r_istore_1j, r_iconst, r_istore_2i, r_istore_2r, r_istore_2j, r_istore_3i, r_istore_3r, r_istore_3j, r_goto_w, r_iload_3, r_gf_640, r_ial, r_ial30, r_ial32, r_icmp_ge, r_iload_1, r_inv_3_0, r_inv_3_1, r_inv_3_2, r_inv_3_3, r_inv_3_4, r_istore_4i, r_istore_4r, r_istore_4j, r_ishr, r_iand, r_if_ne, r_istore_5i, r_istore_5r, r_istore_5j, r_iload_4, r_if_eq, r_iload_5, r_iadd, r_goto, r_if_le, r_isub, r_inv_4_0, r_inv_4_1, r_inv_4_2, r_inv_4_3, r_inv_4_4, r_icmp_lt, r_inv_2_0, r_inv_2_1, r_inv_2_2, r_inv_2_3, r_inv_2_4, r_iload_2, r_ishl, r_ior, r_icmp_eq, r_iinc_3i, r_iinc_3r, r_iinc_3j, r_iret, r_bret_0, r_bret_1, vm_s, ↓reduceIte, not_true_eq_false, not_false_eq_true, Int.reduceEq, Int.reduceLE, Int.reduceLT, Int.reduceAdd, Int.reduceNeg, Int.reduceMul, Int.reduceSub, Int.reduceToNat]
                refine keep ?_
                unfold zMd
                rw [if_neg er, if_neg (by simp), hv1]
              | false =>
                have e1 : zb1 false = 0 := rfl
                have hmd : zMd σ k false = (((σ.sS 8 k 0).sS 6 k 1).sS 7 k 0).sS 8 k (-1) := by
                  unfold zMd
                  have := hr.2.2
                  rw [if_neg er, if_pos]
                  refine ⟨?_, rfl⟩
                  rw [ev] at hv1
                  split at hv1 <;> omega
                rw [hmd] at next
                simp only [e1] at next ⊢
                have q1 := pf _ (2 + 9 * k + 6) (zi 1) hM
                have q2 := pf _ (2 + 9 * k + 7) (zi 0) q1
                simp (disch := first | assumption | exact zk_231 | ((repeat (first | exact z1n | refine z1I ?_ | refine z1R ?_)); done) | exact rfl | omega | decide) only [r_aload_0, r_inv_1_0, r_inv_1_1, r_inv_1_2, r_inv_1_3, r_inv_1_4, r_K0, r_K1, r_istore_1i, r_istore_1r, r_istore_1j, r_iconst, r_istore_2i, r_istore_2r, r_istore_2j, r_istore_3i, r_istore_3r, r_istore_3j, r_goto_w, r_iload_3, r_gf_640, r_ial, r_ial30, r_ial32, r_icmp_ge, r_iload_1, r_inv_3_0, r_inv_3_1, r_inv_3_2, r_inv_3_3, r_inv_3_4, r_istore_4i, r_istore_4r, r_istore_4j, r_ishr, r_iand, r_if_ne, r_istore_5i, r_istore_5r, r_istore_5j, r_iload_4, r_if_eq, r_iload_5, r_iadd, r_goto, r_if_le, r_isub, r_inv_4_0, r_inv_4_1, r_inv_4_2, r_inv_4_3, r_inv_4_4, r_icmp_lt, r_inv_2_0, r_inv_2_1, r_inv_2_2, r_inv_2_3, r_inv_2_4, r_iload_2, r_ishl, r_ior, r_icmp_eq, r_iinc_3i, r_iinc_3r, r_iinc_3j, r_iret, r_bret_0, r_bret_1, vm_s, m_puts, ↓reduceIte, not_true_eq_false, not_false_eq_true, Int.reduceEq, Int.reduceLE, Int.reduceLT, Int.reduceAdd, Int.reduceNeg, Int.reduceMul, Int.reduceSub, Int.reduceToNat]
                have := next (zput (zput (zput (zput V1 165 (2 + 9 * k + 8) (zi v)) 165 (2 + 9 * k + 6) (zi 1)) 165 (2 + 9 * k + 7) (zi 0)) 165 (2 + 9 * k + 8) (zi (-1))) (zi 0) w5 ⟨_, rfl⟩ zFi.rf.pr.pr.pr.pr ?_
                · simp (disch := first | assumption | exact zk_231 | ((repeat (first | exact z1n | refine z1I ?_ | refine z1R ?_)); done) | exact rfl | omega | decide) only [zb_231_9, r_aload_0, r_inv_1_0, r_inv_1_1, r_inv_1_2, r_inv_1_3, r_inv_1_4, r_K0, r_K1, r_istore_1i, r_istore_1r, r_istore_1j, r_iconst, r_istore_2i, r_istore_2r, r_istore_2j, r_istore_3i, r_istore_3r, r_istore_3j, r_goto_w, r_iload_3, r_gf_640, r_ial, r_ial30, r_ial32, r_icmp_ge, r_iload_1, r_inv_3_0, r_inv_3_1, r_inv_3_2, r_inv_3_3, r_inv_3_4, r_istore_4i, r_istore_4r, r_istore_4j, r_ishr, r_iand, r_if_ne, r_istore_5i, r_istore_5r, r_istore_5j, r_iload_4, r_if_eq, r_iload_5, r_iadd, r_goto, r_if_le, r_isub, r_inv_4_0, r_inv_4_1, r_inv_4_2, r_inv_4_3, r_inv_4_4, r_icmp_lt, r_inv_2_0, r_inv_2_1, r_inv_2_2, r_inv_2_3, r_inv_2_4, r_iload_2, r_ishl, r_ior, r_icmp_eq, r_iinc_3i, r_iinc_3r, r_iinc_3j, r_iret, r_bret_0, r_bret_1, vm_s, ↓reduceIte, not_true_eq_false, not_false_eq_true, Int.reduceEq, Int.reduceLE, Int.reduceLT, Int.reduceAdd, Int.reduceNeg, Int.reduceMul, Int.reduceSub, Int.reduceToNat]
                  exact this
                · rw [ev]
                  exact (((h8 0).putS hon (by omega) (by omega) k0 (by omega)).putS hon (by omega) (by omega) k0 (by omega)).putS hon (by omega) (by omega) k0 (by omega)
            · rw [if_pos ev]
              refine keep ?_
              unfold zMd
              have := hr.2.2
              rw [if_neg er, if_neg, hv1]
              rintro ⟨q, -⟩
              rw [hv1] at ev
              split at ev <;> omega
          rw [if_neg er]
          by_cases q : σ.S 8 k ≤ 0
          · rw [if_pos q]
            rw [if_pos q] at hz
            simp (disch := first | assumption | exact zk_231 | ((repeat (first | exact z1n | refine z1I ?_ | refine z1R ?_)); done) | exact rfl | omega | decide) only [zb_231_7, r_aload_0, r_inv_1_0, r_inv_1_1, r_inv_1_2, r_inv_1_3, r_inv_1_4, r_K0, r_K1, r_istore_1i, r_istore_1r, r_istore_1j, r_iconst, r_istore_2i, r_istore_2r, r_istore_2j, r_istore_3i, r_istore_3r, r_istore_3j, r_goto_w, r_iload_3, r_gf_640, r_ial, r_ial30, r_ial32, r_icmp_ge, r_iload_1, r_inv_3_0, r_inv_3_1, r_inv_3_2, r_inv_3_3, r_inv_3_4, r_istore_4i, r_istore_4r, r_istore_4j, r_ishr, r_iand, r_if_ne, r_istore_5i, r_istore_5r, r_istore_5j, r_iload_4, r_if_eq, r_iload_5, r_iadd, r_goto, r_if_le, r_isub, r_inv_4_0, r_inv_4_1, r_inv_4_2, r_inv_4_3, r_inv_4_4, r_icmp_lt, r_inv_2_0, r_inv_2_1, r_inv_2_2, r_inv_2_3, r_inv_2_4, r_iload_2, r_ishl, r_ior, r_icmp_eq, r_iinc_3i, r_iinc_3r, r_iinc_3j, r_iret, r_bret_0, r_bret_1, vm_s, ↓reduceIte, not_true_eq_false, not_false_eq_true, Int.reduceEq, Int.reduceLE, Int.reduceLT, Int.reduceAdd, Int.reduceNeg, Int.reduceMul, Int.reduceSub, Int.reduceToNat]
            exact go 0 hz
          · rw [if_neg q]
            rw [if_neg q] at hz
            exact go _ hz
      · rw [if_neg e] at hh
        have hC := hC1
        have r7 := hr.2.1
        have hT : zTurn ρ (zDown ρ) k σ = if (zSt σ k b).S 2 k ≤ (zSt σ k b).S 7 k then zGd (zSt σ k b) k else zSt σ k b := by unfold zTurn; rw [if_neg e, hb]
        have hF : zFell ρ (zDown ρ) k σ = decide ((zSt σ k b).S 2 k ≤ (zSt σ k b).S 7 k) := by unfold zFell; rw [hb]; simp [e]
        have go : ∀ v, σ.sS 7 k v = zSt σ k b → 0 ≤ v → v ≤ 10 → zwp (zcall d) 231 Q (zB 231 4) [.ref 164, zi (zDown ρ : Nat), zi (fl : Nat), zi k, zi (zb1 b), zi (σ.S 7 k)] [zi v, zi 7, zi k, .ref 164] (s, V1) := by
          intro v hst v0 v1
          have hC : zMC (σ.sS 7 k v) (zput V1 165 (2 + 9 * k + 7) (zi v)) := hC1.putS hon (by omega) (by omega) k0 (by omega)
          have hM := pf V1 (2 + 9 * k + 7) (zi v) hM1
          have hon2 : (σ.sS 7 k v).n ≤ 12 := hon
          have kn2 : k < (σ.sS 7 k v).n := kn
          have hsv : (σ.sS 7 k v).S 7 k = v := by rw [zR.sS_S, if_pos ⟨rfl, rfl⟩]
          have hst2 : (σ.sS 7 k v).S 2 k = σ.S 2 k := by rw [zR.sS_S, if_neg (by omega)]
          rw [← hst, hsv, hst2] at hT hF
          rw [hT, hF] at next
          simp (disch := first | assumption | exact zk_231 | ((repeat (first | exact z1n | refine z1I ?_ | refine z1R ?_)); done) | exact rfl | omega | decide) only [zb_231_4, r_aload_0, r_inv_1_0, r_inv_1_1, r_inv_1_2, r_inv_1_3, r_inv_1_4, r_K0, r_K1, r_istore_1i, r_istore_1r, r_istore_1j, r_iconst, r_istore_2i, r_istore_2r, r_istore_2j, r_istore_3i, r_istore_3r, r_istore_3j, r_goto_w, r_iload_3, r_gf_640, r_ial, r_ial30, r_ial32, r_icmp_ge, r_iload_1, r_inv_3_0, r_inv_3_1, r_inv_3_2, r_inv_3_3, r_inv_3_4, r_istore_4i, r_istore_4r, r_istore_4j, r_ishr, r_iand, r_if_ne, r_istore_5i, r_istore_5r, r_istore_5j, r_iload_4, r_if_eq, r_iload_5, r_iadd, r_goto, r_if_le, r_isub, r_inv_4_0, r_inv_4_1, r_inv_4_2, r_inv_4_3, r_inv_4_4, r_icmp_lt, r_inv_2_0, r_inv_2_1, r_inv_2_2, r_inv_2_3, r_inv_2_4, r_iload_2, r_ishl, r_ior, r_icmp_eq, r_iinc_3i, r_iinc_3r, r_iinc_3j, r_iret, r_bret_0, r_bret_1, vm_s, m_puts, m_of (hC := hC), hsv, hst2, ↓reduceIte, not_true_eq_false, not_false_eq_true, Int.reduceEq, Int.reduceLE, Int.reduceLT, Int.reduceAdd, Int.reduceNeg, Int.reduceMul, Int.reduceSub, Int.reduceToNat]
          by_cases q : σ.S 2 k ≤ v
          · rw [if_neg (by omega)]
            rw [if_pos q, if_pos (by simpa using q)] at next
            refine m_goesDown (by omega) hM hC hon2 k0 kn2 (fun V2 y1 y2 => ?_)
            have ho := zone_lt (x := k) (by omega)
            have := next V2 (zi (zb1 b)) (zi (σ.S 7 k)) ⟨_, rfl⟩ (zFi.rf.pr.tr y1) y2
            simp (disch := first | assumption | exact zk_231 | ((repeat (first | exact z1n | refine z1I ?_ | refine z1R ?_)); done) | exact rfl | omega | decide) only [zb_231_5, zb_231_9, r_aload_0, r_inv_1_0, r_inv_1_1, r_inv_1_2, r_inv_1_3, r_inv_1_4, r_K0, r_K1, r_istore_1i, r_istore_1r, r_istore_1j, r_iconst, r_istore_2i, r_istore_2r, r_istore_2j, r_istore_3i, r_istore_3r, r_istore_3j, r_goto_w, r_iload_3, r_gf_640, r_ial, r_ial30, r_ial32, r_icmp_ge, r_iload_1, r_inv_3_0, r_inv_3_1, r_inv_3_2, r_inv_3_3, r_inv_3_4, r_istore_4i, r_istore_4r, r_istore_4j, r_ishr, r_iand, r_if_ne, r_istore_5i, r_istore_5r, r_istore_5j, r_iload_4, r_if_eq, r_iload_5, r_iadd, r_goto, r_if_le, r_isub, r_inv_4_0, r_inv_4_1, r_inv_4_2, r_inv_4_3, r_inv_4_4, r_icmp_lt, r_inv_2_0, r_inv_2_1, r_inv_2_2, r_inv_2_3, r_inv_2_4, r_iload_2, r_ishl, r_ior, r_icmp_eq, r_iinc_3i, r_iinc_3r, r_iinc_3j, r_iret, r_bret_0, r_bret_1, vm_s, zshl_z, zor_n, ↓reduceIte, not_true_eq_false, not_false_eq_true, Int.reduceEq, Int.reduceLE, Int.reduceLT, Int.reduceAdd, Int.reduceNeg, Int.reduceMul, Int.reduceSub, Int.reduceToNat]
            exact this
          · rw [if_pos (by omega)]
            rw [if_neg q, if_neg (by simpa using q)] at next
            have := next _ (zi (zb1 b)) (zi (σ.S 7 k)) ⟨_, rfl⟩ zFi.rf.pr hC
            simp (disch := first | assumption | exact zk_231 | ((repeat (first | exact z1n | refine z1I ?_ | refine z1R ?_)); done) | exact rfl | omega | decide) only [zb_231_5, zb_231_9, r_aload_0, r_inv_1_0, r_inv_1_1, r_inv_1_2, r_inv_1_3, r_inv_1_4, r_K0, r_K1, r_istore_1i, r_istore_1r, r_istore_1j, r_iconst, r_istore_2i, r_istore_2r, r_istore_2j, r_istore_3i, r_istore_3r, r_istore_3j, r_goto_w, r_iload_3, r_gf_640, r_ial, r_ial30, r_ial32, r_icmp_ge, r_iload_1, r_inv_3_0, r_inv_3_1, r_inv_3_2, r_inv_3_3, r_inv_3_4, r_istore_4i, r_istore_4r, r_istore_4j, r_ishr, r_iand, r_if_ne, r_istore_5i, r_istore_5r, r_istore_5j, r_iload_4, r_if_eq, r_iload_5, r_iadd, r_goto, r_if_le, r_isub, r_inv_4_0, r_inv_4_1, r_inv_4_2, r_inv_4_3, r_inv_4_4, r_icmp_lt, r_inv_2_0, r_inv_2_1, r_inv_2_2, r_inv_2_3, r_inv_2_4, r_iload_2, r_ishl, r_ior, r_icmp_eq, r_iinc_3i, r_iinc_3r, r_iinc_3j, r_iret, r_bret_0, r_bret_1, vm_s, ↓reduceIte, not_true_eq_false, not_false_eq_true, Int.reduceEq, Int.reduceLE, Int.reduceLT, Int.reduceAdd, Int.reduceNeg, Int.reduceMul, Int.reduceSub, Int.reduceToNat]
            exact this
        cases b with
        | true =>
          have e1 : zb1 true = 1 := rfl
          simp only [e1] at go ⊢
          simp (disch := first | assumption | exact zk_231 | ((repeat (first | exact z1n | refine z1I ?_ | refine z1R ?_)); done) | exact rfl | omega | decide) only [r_aload_0, r_inv_1_0, r_inv_1_1, r_inv_1_2, r_inv_1_3, r_inv_1_4, r_K0, r_K1, r_istore_1i, r_istore_1r, r_istore_1j, r_iconst, r_istore_2i, r_istore_2r, r_istore_2j, r_istore_3i, r_istore_3r, r_istore_3j, r_goto_w, r_iload_3, r_gf_640, r_ial, r_ial30, r_ial32, r_icmp_ge, r_iload_1, r_inv_3_0, r_inv_3_1, r_inv_3_2, r_inv_3_3, r_inv_3_4, r_istore_4i, r_istore_4r, r_istore_4j, r_ishr, r_iand, r_if_ne, r_istore_5i, r_istore_5r, r_istore_5j, r_iload_4, r_if_eq, r_iload_5, r_iadd, r_goto, r_if_le, r_isub, r_inv_4_0, r_inv_4_1, r_inv_4_2, r_inv_4_3, r_inv_4_4, r_icmp_lt, r_inv_2_0, r_inv_2_1, r_inv_2_2, r_inv_2_3, r_inv_2_4, r_iload_2, r_ishl, r_ior, r_icmp_eq, r_iinc_3i, r_iinc_3r, r_iinc_3j, r_iret, r_bret_0, r_bret_1, vm_s, hh, m_of (hC := hC), ↓reduceIte, not_true_eq_false, not_false_eq_true, Int.reduceEq, Int.reduceLE, Int.reduceLT, Int.reduceAdd, Int.reduceNeg, Int.reduceMul, Int.reduceSub, Int.reduceToNat]
          exact go _ (by unfold zSt; rw [if_pos rfl]) (by omega) (by omega)
        | false =>
          have e1 : zb1 false = 0 := rfl
          simp only [e1] at go ⊢
          simp (disch := first | assumption | exact zk_231 | ((repeat (first | exact z1n | refine z1I ?_ | refine z1R ?_)); done) | exact rfl | omega | decide) only [zb_231_2, zb_231_3, r_aload_0, r_inv_1_0, r_inv_1_1, r_inv_1_2, r_inv_1_3, r_inv_1_4, r_K0, r_K1, r_istore_1i, r_istore_1r, r_istore_1j, r_iconst, r_istore_2i, r_istore_2r, r_istore_2j, r_istore_3i, r_istore_3r, r_istore_3j, r_goto_w, r_iload_3, r_gf_640, r_ial, r_ial30, r_ial32, r_icmp_ge, r_iload_1, r_inv_3_0, r_inv_3_1, r_inv_3_2, r_inv_3_3, r_inv_3_4, r_istore_4i, r_istore_4r, r_istore_4j, r_ishr, r_iand, r_if_ne, r_istore_5i, r_istore_5r, r_istore_5j, r_iload_4, r_if_eq, r_iload_5, r_iadd, r_goto, r_if_le, r_isub, r_inv_4_0, r_inv_4_1, r_inv_4_2, r_inv_4_3, r_inv_4_4, r_icmp_lt, r_inv_2_0, r_inv_2_1, r_inv_2_2, r_inv_2_3, r_inv_2_4, r_iload_2, r_ishl, r_ior, r_icmp_eq, r_iinc_3i, r_iinc_3r, r_iinc_3j, r_iret, r_bret_0, r_bret_1, vm_s, hh, m_of (hC := hC), ↓reduceIte, not_true_eq_false, not_false_eq_true, Int.reduceEq, Int.reduceLE, Int.reduceLT, Int.reduceAdd, Int.reduceNeg, Int.reduceMul, Int.reduceSub, Int.reduceToNat]
          by_cases q : σ.S 7 k ≤ 0
          · rw [if_pos q]
            exact go 0 (by unfold zSt; rw [if_neg (by decide), if_neg (by omega)]; exact zR.sS_self (by omega)) (by omega) (by omega)
          · rw [if_neg q]
            exact go _ (by unfold zSt; rw [if_neg (by decide), if_pos (by omega)]) (by omega) (by omega)
    split
    · rename_i e
      rw [r_K1]
      exact body true e
    · rename_i e
      rw [r_K1]
      exact body false (by simpa using e)
  · rintro ⟨V1, w4, w5⟩ ⟨f1, hC1, -⟩
    obtain ⟨i1, i2, i3⟩ := zStp_inv hW n0 (Int.le_refl _)
    dsimp only at f1 hC1 ⊢
    have g0 : V1 164 0 = .ref 165 := (f1.1.2 0 (by simp)).trans vm_s
    have gn : V1 165 0 = zi ρ.n := hC1.1.trans (by rw [i1.n])
    simp (disch := first | assumption | exact zk_231 | ((repeat (first | exact z1n | refine z1I ?_ | refine z1R ?_)); done) | exact rfl | omega | decide) only [zb_231_1, zb_231_10, r_aload_0, r_inv_1_0, r_inv_1_1, r_inv_1_2, r_inv_1_3, r_inv_1_4, r_K0, r_K1, r_istore_1i, r_istore_1r, r_istore_1j, r_iconst, r_istore_2i, r_istore_2r, r_istore_2j, r_istore_3i, r_istore_3r, r_istore_3j, r_goto_w, r_iload_3, r_gf_640, r_ial, r_ial30, r_ial32, r_icmp_ge, r_iload_1, r_inv_3_0, r_inv_3_1, r_inv_3_2, r_inv_3_3, r_inv_3_4, r_istore_4i, r_istore_4r, r_istore_4j, r_ishr, r_iand, r_if_ne, r_istore_5i, r_istore_5r, r_istore_5j, r_iload_4, r_if_eq, r_iload_5, r_iadd, r_goto, r_if_le, r_isub, r_inv_4_0, r_inv_4_1, r_inv_4_2, r_inv_4_3, r_inv_4_4, r_icmp_lt, r_inv_2_0, r_inv_2_1, r_inv_2_2, r_inv_2_3, r_inv_2_4, r_iload_2, r_ishl, r_ior, r_icmp_eq, r_iinc_3i, r_iinc_3r, r_iinc_3j, r_iret, r_bret_0, r_bret_1, vm_s, g0, gn, Int.le_refl, ↓reduceIte, not_true_eq_false, not_false_eq_true, Int.reduceEq, Int.reduceLE, Int.reduceLT, Int.reduceAdd, Int.reduceNeg, Int.reduceMul, Int.reduceSub, Int.reduceToNat]
    exact hQ V1 f1 hC1
end
