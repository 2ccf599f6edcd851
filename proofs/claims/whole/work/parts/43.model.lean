/-! MODEL, 4: the changes that can be undone -/
theorem zR.addS_S {ρ : zR} {x w y : Int} : (ρ.addS x).S w y = if y = ρ.n then (if w = 0 then x else if w = 1 then 100 else if w = 2 then 2 else if w = 3 then 3 else if w = 4 then 1 else if w = 5 then 990 else if w = 6 then 1 else if w = 7 then 0 else -1) else ρ.S w y := rfl
theorem zInts.fm {V V' : zV} {l : List Nat} {ks : List Int} {r : Nat} {n : Int} (h : zInts V r n) (hf : zFm l ks V V') (h4 : r ≠ 164) (hr : r ∉ l) : zInts V' r n := by
  unfold zInts
  rw [hf.1 r h4 hr]
  exact h
theorem zMC.addS {ρ : zR} {V V' : zV} (hC : zMC ρ V) (hn : ρ.n < 12) {x : Int} (hr : ∀ i : Int, i ≠ 0 → (i < 2 + 9 * ρ.n ∨ 2 + 9 * ρ.n + 9 ≤ i) → V' 165 i = V 165 i) (h0 : V' 165 0 = zi (ρ.n + 1)) (hw : ∀ w : Int, 0 ≤ w → w < 9 → V' 165 (2 + 9 * ρ.n + w) = zi ((ρ.addS x).S w ρ.n)) (n0 : 0 ≤ ρ.n) : zMC (ρ.addS x) V' := by
  obtain ⟨c1, c2, c3, c4⟩ := hC
  have hn1 : (ρ.addS x).n = ρ.n + 1 := rfl
  refine ⟨h0, (hr 1 (by omega) (by omega)).trans c2, fun w y a b c e => ?_, fun w k a b c e => (hr _ (by omega) (by omega)).trans (c4 w k a b c e)⟩
  by_cases q : y = ρ.n
  · rw [q]; exact hw w a b
  · rw [hn1] at e
    rw [hr _ (by omega) (by omega), c3 w y a b c (by omega)]
    rw [zR.addS_S, if_neg q]
section
variable {d : Nat} {s : zS} {V : zV} {Q : zO → zH → Prop} {ρ : zR} {h : zH}
/-- what an operation on the row does when it is possible -/
def zMto (s : zS) (V : zV) (l : List Nat) (ρ' : zR) (an : Int) (Q : zO → zH → Prop) : Prop := ∀ V', zFm l [9] V V' → zMC ρ' V' → zInts V' 165 230 → V' 164 9 = zi an → Q (.inl (some (zi 0))) (s, V')
set_option maxRecDepth 20000 in
theorem m_addsService (hd : 2 ≤ d) (hM : zMP s V) (hC : zMC ρ V) (hI : zInts V 165 230) (hW : zWF ρ) {x : Int} (hx : zI32 x) (h1 : ¬ (1 ≤ x ∧ x ≤ 100) → Q (.inl (some (zi 1))) (s, V)) (h2 : ρ.n = 12 → Q (.inl (some (zi 2))) (s, V)) (h0 : 1 ≤ x → x ≤ 100 → ρ.n < 12 → zMto s V [165] (ρ.addS x) ρ.n Q) : zcall d 183 [.ref 164, zi x] (s, V) Q := by
  obtain ⟨n0, n1, c0, c1⟩ := hW.1
  have i1 : zI32 1 := ⟨by omega, by omega⟩
  have i2 : zI32 100 := ⟨by omega, by omega⟩
  have tM := hM.1
  have vm_s : V 164 0 = .ref 165 := (hM.2 0 (by decide)).1
  have tm_s : s.tg 165 = 20 := (hM.2 0 (by decide)).2.1
  have lm_s : s.ln 165 = 230 := (hM.2 0 (by decide)).2.2
  have gn := hC.1
  obtain ⟨d, rfl⟩ : ∃ e, d = e + 1 := ⟨d - 1, by omega⟩
  simp (disch := first | assumption | omega) only [zc_183]
  by_cases e1 : 1 ≤ x ∧ x ≤ 100
  · obtain ⟨q1, q2⟩ := e1
    by_cases e2 : ρ.n = 12
    · simp (disch := first | assumption | exact zk_183 | ((repeat (first | exact z1n | refine z1I ?_ | refine z1R ?_)); done) | exact rfl | omega | decide) only [zb_183_0, zb_183_1, r_iload_1, r_iconst, r_inv_3_0, r_inv_3_1, r_inv_3_2, r_inv_3_3, r_inv_3_4, r_K0, r_K1, r_if_ne, r_iret, r_bret_0, r_bret_1, r_aload_0, r_gf_640, r_ial, r_ial30, r_ial32, r_icmp_ne, r_istore_2i, r_istore_2r, r_istore_2j, r_iload_2, r_inv_4_0, r_inv_4_1, r_inv_4_2, r_inv_4_3, r_inv_4_4, r_dup2, r_iadd, r_iastore, r_pf_649, vm_s, m_in, q1, q2, and_self, gn, e2, ↓reduceIte, not_true_eq_false, not_false_eq_true, Int.reduceEq, Int.reduceLE, Int.reduceLT, Int.reduceAdd, Int.reduceNeg, Int.reduceMul, Int.reduceSub, Int.reduceToNat]
      exact h2 e2
    · have hn : ρ.n < 12 := by omega
      have h0' := h0 q1 q2 hn
      have pf : ∀ (V : zV) k v, zMP s V → zMP s (zput V 165 k v) := fun V k v hM => hM.fm (zFm.rf.pr (l := [165]) (ks := []) (by simp) (by omega)) (fun _ _ => by simp)
      have p0 := pf V (2 + 9 * ρ.n + 0) (zi x) hM
      have p1 := pf _ (2 + 9 * ρ.n + 1) (zi 100) p0
      have p2 := pf _ (2 + 9 * ρ.n + 2) (zi 2) p1
      have p3 := pf _ (2 + 9 * ρ.n + 3) (zi 3) p2
      have p4 := pf _ (2 + 9 * ρ.n + 4) (zi 1) p3
      have p5 := pf _ (2 + 9 * ρ.n + 5) (zi 990) p4
      have p6 := pf _ (2 + 9 * ρ.n + 6) (zi 1) p5
      have p7 := pf _ (2 + 9 * ρ.n + 7) (zi 0) p6
      simp (disch := first | assumption | exact zk_183 | ((repeat (first | exact z1n | refine z1I ?_ | refine z1R ?_)); done) | exact rfl | omega | decide) only [zb_183_0, zb_183_1, zb_183_2, r_iload_1, r_iconst, r_inv_3_0, r_inv_3_1, r_inv_3_2, r_inv_3_3, r_inv_3_4, r_K0, r_K1, r_if_ne, r_iret, r_bret_0, r_bret_1, r_aload_0, r_gf_640, r_ial, r_ial30, r_ial32, r_icmp_ne, r_istore_2i, r_istore_2r, r_istore_2j, r_iload_2, r_inv_4_0, r_inv_4_1, r_inv_4_2, r_inv_4_3, r_inv_4_4, r_dup2, r_iadd, r_iastore, r_pf_649, vm_s, m_in, q1, q2, and_self, gn, e2, m_puts, zput_r, zput_i, ↓reduceIte, not_true_eq_false, not_false_eq_true, Int.reduceEq, Int.reduceLE, Int.reduceLT, Int.reduceAdd, Int.reduceNeg, Int.reduceMul, Int.reduceSub, Int.reduceToNat]
      refine h0' _ ?_ ?_ ?_ zput_at
      · repeat (first | exact zFm.rf | refine zFm.pf ?_ (by simp) | refine zFm.pr ?_ (by simp) (by omega))
      · refine zMC.addS hC hn (fun i i0 i1 => ?_) ?_ (fun w w0 w1 => ?_) n0
        · simp (disch := omega) only [zput_r, zput_i]
        · simp (disch := omega) only [zput_r, zput_at]
        · rw [zput_r (by omega), zput_i (by omega)]
          have hS : (ρ.addS x).S w ρ.n = if w = 0 then x else if w = 1 then 100 else if w = 2 then 2 else if w = 3 then 3 else if w = 4 then 1 else if w = 5 then 990 else if w = 6 then 1 else if w = 7 then 0 else -1 := by
            show (if ρ.1 = ρ.1 then _ else _) = _
            rw [if_pos rfl]
          rw [hS]
          rcases (by omega : w = 0 ∨ w = 1 ∨ w = 2 ∨ w = 3 ∨ w = 4 ∨ w = 5 ∨ w = 6 ∨ w = 7 ∨ w = 8) with rfl | rfl | rfl | rfl | rfl | rfl | rfl | rfl | rfl <;> simp (disch := omega) only [zput_i, zput_at] <;> rfl
      · intro i i0 i1
        rw [zput_r (by omega)]
        exact ((((((((((hI.put).put).put).put).put).put).put).put).put).put) i i0 i1
  · simp (disch := first | assumption | exact zk_183 | ((repeat (first | exact z1n | refine z1I ?_ | refine z1R ?_)); done) | exact rfl | omega | decide) only [zb_183_0, r_iload_1, r_iconst, r_inv_3_0, r_inv_3_1, r_inv_3_2, r_inv_3_3, r_inv_3_4, r_K0, r_K1, r_if_ne, r_iret, r_bret_0, r_bret_1, r_aload_0, r_gf_640, r_ial, r_ial30, r_ial32, r_icmp_ne, r_istore_2i, r_istore_2r, r_istore_2j, r_iload_2, r_inv_4_0, r_inv_4_1, r_inv_4_2, r_inv_4_3, r_inv_4_4, r_dup2, r_iadd, r_iastore, r_pf_649, vm_s, m_in, e1, ↓reduceIte, not_true_eq_false, not_false_eq_true, Int.reduceEq, Int.reduceLE, Int.reduceLT, Int.reduceAdd, Int.reduceNeg, Int.reduceMul, Int.reduceSub, Int.reduceToNat]
    exact h1 e1
set_option maxRecDepth 20000 in
theorem m_isValue (hd : 2 ≤ d) {w v : Int} (hw : zI32 w) (hv : zI32 v) : zcall d 185 [zi w, zi v] h Q = if (0 ≤ w ∧ w ≤ 5) ∧ zLeast w ≤ v ∧ v ≤ zMost w then Q (.inl (some (zi 1))) h else Q (.inl (some (zi 0))) h := by
  obtain ⟨w1, w2⟩ := hw
  have i0 : zI32 0 := ⟨by omega, by omega⟩
  have i1 : zI32 1 := ⟨by omega, by omega⟩
  have i2 : zI32 100 := ⟨by omega, by omega⟩
  have i3 : zI32 50 := ⟨by omega, by omega⟩
  have i4 : zI32 400 := ⟨by omega, by omega⟩
  have i5 : zI32 9 := ⟨by omega, by omega⟩
  have i6 : zI32 20 := ⟨by omega, by omega⟩
  have i7 : zI32 1000 := ⟨by omega, by omega⟩
  obtain ⟨d, rfl⟩ : ∃ e, d = e + 1 := ⟨d - 1, by omega⟩
  simp (disch := first | assumption | omega) only [zc_185]
  by_cases e : 0 ≤ w ∧ w ≤ 5
  · rcases (by omega : w = 0 ∨ w = 1 ∨ w = 2 ∨ w = 3 ∨ w = 4 ∨ w = 5) with rfl | rfl | rfl | rfl | rfl | rfl
    all_goals simp (disch := first | assumption | exact zk_185 | ((repeat (first | exact z1n | refine z1I ?_ | refine z1R ?_)); done) | exact rfl | omega | decide) only [zb_185_0, zb_185_1, zb_185_2, zb_185_3, zb_185_4, zb_185_5, zb_185_6, r_iload_0, r_sw, r_iload_1, r_iconst, r_inv_3_0, r_inv_3_1, r_inv_3_2, r_inv_3_3, r_inv_3_4, r_K0, r_K1, r_iret, r_bret_0, r_bret_1, zsw, m_in, zLeast, zMost, Int.le_refl, and_self, true_and, ↓reduceIte, not_true_eq_false, not_false_eq_true, Int.reduceEq, Int.reduceLE, Int.reduceLT, Int.reduceAdd, Int.reduceNeg, Int.reduceMul, Int.reduceSub, Int.reduceToNat]
    all_goals try rfl
    all_goals (repeat' split) <;> first | rfl | (exfalso; omega) | (exfalso; grind)
  · have hz : zsw [(0, 1), (1, 2), (2, 3), (3, 4), (4, 3), (5, 5)] 6 w = 6 := by
      unfold zsw zsw zsw zsw zsw zsw zsw
      rw [if_neg (by omega), if_neg (by omega), if_neg (by omega), if_neg (by omega), if_neg (by omega), if_neg (by omega)]
    rw [if_neg (fun q => e q.1)]
    simp (disch := first | assumption | exact zk_185 | ((repeat (first | exact z1n | refine z1I ?_ | refine z1R ?_)); done) | exact rfl | omega | decide) only [zb_185_0, zb_185_6, r_iload_0, r_sw, r_iload_1, r_iconst, r_inv_3_0, r_inv_3_1, r_inv_3_2, r_inv_3_3, r_inv_3_4, r_K0, r_K1, r_iret, r_bret_0, r_bret_1, hz, ↓reduceIte, not_true_eq_false, not_false_eq_true, Int.reduceEq, Int.reduceLE, Int.reduceLT, Int.reduceAdd, Int.reduceNeg, Int.reduceMul, Int.reduceSub, Int.reduceToNat]
set_option maxRecDepth 20000 in
theorem m_changes (hd : 3 ≤ d) (hM : zMP s V) (hC : zMC ρ V) (hI : zInts V 165 230) (hW : zWF ρ) {w x v : Int} (hw : zI32 w) (hx : zI32 x) (hv : zI32 v) (h1 : ¬ (0 ≤ x ∧ x < ρ.n) → Q (.inl (some (zi 1))) (s, V)) (h2 : 0 ≤ x ∧ x < ρ.n → ¬ ((0 ≤ w ∧ w ≤ 5) ∧ zLeast w ≤ v ∧ v ≤ zMost w) → Q (.inl (some (zi 2))) (s, V)) (h0 : 0 ≤ x ∧ x < ρ.n → ((0 ≤ w ∧ w ≤ 5) ∧ zLeast w ≤ v ∧ v ≤ zMost w) → zMto s V [165] (ρ.sS w x v) (ρ.S w x) Q) : zcall d 186 [.ref 164, zi w, zi x, zi v] (s, V) Q := by
  obtain ⟨n0, n1, c0, c1⟩ := hW.1
  have tM := hM.1
  have vm_s : V 164 0 = .ref 165 := (hM.2 0 (by decide)).1
  have tm_s : s.tg 165 = 20 := (hM.2 0 (by decide)).2.1
  have lm_s : s.ln 165 = 230 := (hM.2 0 (by decide)).2.2
  obtain ⟨d, rfl⟩ : ∃ e, d = e + 1 := ⟨d - 1, by omega⟩
  simp (disch := first | assumption | omega) only [zc_186]
  by_cases e1 : 0 ≤ x ∧ x < ρ.n
  · by_cases e2 : (0 ≤ w ∧ w ≤ 5) ∧ zLeast w ≤ v ∧ v ≤ zMost w
    · have h0' := h0 e1 e2
      have e3 := e2.1
      have hM2 : zMP s (zput V 164 9 (zi (ρ.S w x))) := hM.fm (zFm.rf.pf (l := []) (ks := [9]) (by simp)) (by decide)
      simp (disch := first | assumption | exact zk_186 | ((repeat (first | exact z1n | refine z1I ?_ | refine z1R ?_)); done) | exact rfl | omega | decide) only [zb_186_0, zb_186_1, zb_186_2, r_aload_0, r_iload_2, r_inv_2_0, r_inv_2_1, r_inv_2_2, r_inv_2_3, r_inv_2_4, r_K0, r_K1, r_if_ne, r_iconst, r_iret, r_bret_0, r_bret_1, r_iload_1, r_iload_3, r_inv_3_0, r_inv_3_1, r_inv_3_2, r_inv_3_3, r_inv_3_4, r_pf_649, r_inv_4_0, r_inv_4_1, r_inv_4_2, r_inv_4_3, r_inv_4_4, vm_s, m_isService (hC := hC), e1, m_isValue, e2, m_of (hC := hC), m_puts, ↓reduceIte, not_true_eq_false, not_false_eq_true, Int.reduceEq, Int.reduceLE, Int.reduceLT, Int.reduceAdd, Int.reduceNeg, Int.reduceMul, Int.reduceSub, Int.reduceToNat]
      refine h0' _ ((zFm.rf.pf (by simp)).pr (by simp) (by omega)) ?_ ((hI.put).put) (by rw [zput_r (by omega), zput_at])
      have hC2 : zMC ρ (zput V 164 9 (zi (ρ.S w x))) := hC.fm (zFm.rf.pf (l := []) (ks := [9]) (by simp)) (by simp)
      exact hC2.putS n1 (by omega) (by omega) e1.1 (by omega)
    · simp (disch := first | assumption | exact zk_186 | ((repeat (first | exact z1n | refine z1I ?_ | refine z1R ?_)); done) | exact rfl | omega | decide) only [zb_186_0, zb_186_1, r_aload_0, r_iload_2, r_inv_2_0, r_inv_2_1, r_inv_2_2, r_inv_2_3, r_inv_2_4, r_K0, r_K1, r_if_ne, r_iconst, r_iret, r_bret_0, r_bret_1, r_iload_1, r_iload_3, r_inv_3_0, r_inv_3_1, r_inv_3_2, r_inv_3_3, r_inv_3_4, r_pf_649, r_inv_4_0, r_inv_4_1, r_inv_4_2, r_inv_4_3, r_inv_4_4, vm_s, m_isService (hC := hC), e1, m_isValue, e2, ↓reduceIte, not_true_eq_false, not_false_eq_true, Int.reduceEq, Int.reduceLE, Int.reduceLT, Int.reduceAdd, Int.reduceNeg, Int.reduceMul, Int.reduceSub, Int.reduceToNat]
      exact h2 e1 e2
  · simp (disch := first | assumption | exact zk_186 | ((repeat (first | exact z1n | refine z1I ?_ | refine z1R ?_)); done) | exact rfl | omega | decide) only [zb_186_0, r_aload_0, r_iload_2, r_inv_2_0, r_inv_2_1, r_inv_2_2, r_inv_2_3, r_inv_2_4, r_K0, r_K1, r_if_ne, r_iconst, r_iret, r_bret_0, r_bret_1, r_iload_1, r_iload_3, r_inv_3_0, r_inv_3_1, r_inv_3_2, r_inv_3_3, r_inv_3_4, r_pf_649, r_inv_4_0, r_inv_4_1, r_inv_4_2, r_inv_4_3, r_inv_4_4, vm_s, m_isService (hC := hC), e1, ↓reduceIte, not_true_eq_false, not_false_eq_true, Int.reduceEq, Int.reduceLE, Int.reduceLT, Int.reduceAdd, Int.reduceNeg, Int.reduceMul, Int.reduceSub, Int.reduceToNat]
    exact h1 e1
set_option maxRecDepth 20000 in
theorem m_drops (hd : 3 ≤ d) (hM : zMP s V) (hC : zMC ρ V) (hI : zInts V 165 230) (hW : zWF ρ) {x : Int} (hx : zI32 x) (h1 : ¬ (0 ≤ x ∧ x < ρ.n) → Q (.inl (some (zi 1))) (s, V)) (h2 : 0 ≤ x ∧ x < ρ.n → ρ.S 6 x ≠ 1 → Q (.inl (some (zi 2))) (s, V)) (h0 : 0 ≤ x ∧ x < ρ.n → ρ.S 6 x = 1 → zMto s V [165] (zGd ρ x) (ρ.n - zpop (zDown (zGd ρ x))) Q) : zcall d 188 [.ref 164, zi x] (s, V) Q := by
  obtain ⟨n0, n1, c0, c1⟩ := hW.1
  have tM := hM.1
  have vm_s : V 164 0 = .ref 165 := (hM.2 0 (by decide)).1
  have tm_s : s.tg 165 = 20 := (hM.2 0 (by decide)).2.1
  have lm_s : s.ln 165 = 230 := (hM.2 0 (by decide)).2.2
  obtain ⟨d, rfl⟩ : ∃ e, d = e + 1 := ⟨d - 1, by omega⟩
  simp (disch := first | assumption | omega) only [zc_188]
  by_cases e1 : 0 ≤ x ∧ x < ρ.n
  · obtain ⟨e1a, e1b⟩ := e1
    by_cases e2 : ρ.S 6 x = 1
    · have h0' := h0 ⟨e1a, e1b⟩ e2
      simp (disch := first | assumption | exact zk_188 | ((repeat (first | exact z1n | refine z1I ?_ | refine z1R ?_)); done) | exact rfl | omega | decide) only [zb_188_0, zb_188_1, zb_188_2, r_aload_0, r_iload_1, r_inv_2_0, r_inv_2_1, r_inv_2_2, r_inv_2_3, r_inv_2_4, r_K0, r_K1, r_if_ne, r_iconst, r_iret, r_bret_0, r_bret_1, r_inv_1_0, r_inv_1_1, r_inv_1_2, r_inv_1_3, r_inv_1_4, r_pf_649, vm_s, m_isService (hC := hC), e1a, e1b, and_self, m_isUp (hC := hC), e2, ↓reduceIte, not_true_eq_false, not_false_eq_true, Int.reduceEq, Int.reduceLE, Int.reduceLT, Int.reduceAdd, Int.reduceNeg, Int.reduceMul, Int.reduceSub, Int.reduceToNat]
      refine m_goesDown (by omega) hM hC n1 e1a e1b (fun V1 f1 hC1 => ?_)
      have hM1 := hM.fm f1.1 (by decide)
      have hC := hC1
      have hW1 := hW.gd (x := x)
      have hu := zups_eq hW1
      have hn2 : (zGd ρ x).n = ρ.n := zSame.gd.n
      rw [hn2] at hu
      have hn3 : zfo (fun x_1 m => m + (zGd ρ x).S 6 x_1) 0 (zGd ρ x).n = ρ.n - zpop (zDown (zGd ρ x)) := by rw [hn2]; exact hu
      simp (disch := first | assumption | exact zk_188 | ((repeat (first | exact z1n | refine z1I ?_ | refine z1R ?_)); done) | exact rfl | omega | decide) only [r_aload_0, r_iload_1, r_inv_2_0, r_inv_2_1, r_inv_2_2, r_inv_2_3, r_inv_2_4, r_K0, r_K1, r_if_ne, r_iconst, r_iret, r_bret_0, r_bret_1, r_inv_1_0, r_inv_1_1, r_inv_1_2, r_inv_1_3, r_inv_1_4, r_pf_649, vm_s, m_ups (hC := hC), hn3, ↓reduceIte, not_true_eq_false, not_false_eq_true, Int.reduceEq, Int.reduceLE, Int.reduceLT, Int.reduceAdd, Int.reduceNeg, Int.reduceMul, Int.reduceSub, Int.reduceToNat]
      exact h0' _ ((f1.1.mono (fun _ h => h) (fun _ h => by simp at h)).pf (by simp)) (hC1.fm (zFm.rf.pf (l := []) (ks := [9]) (by simp)) (by simp)) ((f1.2 hI).put) zput_at
    · simp (disch := first | assumption | exact zk_188 | ((repeat (first | exact z1n | refine z1I ?_ | refine z1R ?_)); done) | exact rfl | omega | decide) only [zb_188_0, zb_188_1, r_aload_0, r_iload_1, r_inv_2_0, r_inv_2_1, r_inv_2_2, r_inv_2_3, r_inv_2_4, r_K0, r_K1, r_if_ne, r_iconst, r_iret, r_bret_0, r_bret_1, r_inv_1_0, r_inv_1_1, r_inv_1_2, r_inv_1_3, r_inv_1_4, r_pf_649, vm_s, m_isService (hC := hC), e1a, e1b, and_self, m_isUp (hC := hC), e2, ↓reduceIte, not_true_eq_false, not_false_eq_true, Int.reduceEq, Int.reduceLE, Int.reduceLT, Int.reduceAdd, Int.reduceNeg, Int.reduceMul, Int.reduceSub, Int.reduceToNat]
      exact h2 ⟨e1a, e1b⟩ e2
  · simp (disch := first | assumption | exact zk_188 | ((repeat (first | exact z1n | refine z1I ?_ | refine z1R ?_)); done) | exact rfl | omega | decide) only [zb_188_0, r_aload_0, r_iload_1, r_inv_2_0, r_inv_2_1, r_inv_2_2, r_inv_2_3, r_inv_2_4, r_K0, r_K1, r_if_ne, r_iconst, r_iret, r_bret_0, r_bret_1, r_inv_1_0, r_inv_1_1, r_inv_1_2, r_inv_1_3, r_inv_1_4, r_pf_649, vm_s, m_isService (hC := hC), e1, ↓reduceIte, not_true_eq_false, not_false_eq_true, Int.reduceEq, Int.reduceLE, Int.reduceLT, Int.reduceAdd, Int.reduceNeg, Int.reduceMul, Int.reduceSub, Int.reduceToNat]
    exact h1 e1
set_option maxRecDepth 20000 in
theorem m_mends (hd : 3 ≤ d) (hM : zMP s V) (hC : zMC ρ V) (hI : zInts V 165 230) (hW : zWF ρ) {x : Int} (hx : zI32 x) (h1 : ¬ (0 ≤ x ∧ x < ρ.n) → Q (.inl (some (zi 1))) (s, V)) (h2 : 0 ≤ x ∧ x < ρ.n → ¬ (ρ.S 6 x ≠ 1 ∧ ρ.S 8 x = -1) → Q (.inl (some (zi 2))) (s, V)) (h0 : 0 ≤ x ∧ x < ρ.n → (ρ.S 6 x ≠ 1 ∧ ρ.S 8 x = -1) → zMto s V [165] (ρ.sS 8 x (ρ.S 3 x)) (ρ.S 3 x) Q) : zcall d 190 [.ref 164, zi x] (s, V) Q := by
  obtain ⟨n0, n1, c0, c1⟩ := hW.1
  have tM := hM.1
  have vm_s : V 164 0 = .ref 165 := (hM.2 0 (by decide)).1
  have tm_s : s.tg 165 = 20 := (hM.2 0 (by decide)).2.1
  have lm_s : s.ln 165 = 230 := (hM.2 0 (by decide)).2.2
  obtain ⟨d, rfl⟩ : ∃ e, d = e + 1 := ⟨d - 1, by omega⟩
  simp (disch := first | assumption | omega) only [zc_190]
  by_cases e1 : 0 ≤ x ∧ x < ρ.n
  · obtain ⟨e1a, e1b⟩ := e1
    have w8 := (hW.2.1 x e1a e1b).2.2.2.2.2.2.2.2
    by_cases e2 : ρ.S 6 x = 1
    · simp (disch := first | assumption | exact zk_190 | ((repeat (first | exact z1n | refine z1I ?_ | refine z1R ?_)); done) | exact rfl | omega | decide) only [zb_190_0, zb_190_1, zb_190_2, r_aload_0, r_iload_1, r_inv_2_0, r_inv_2_1, r_inv_2_2, r_inv_2_3, r_inv_2_4, r_K0, r_K1, r_if_ne, r_iconst, r_iret, r_bret_0, r_bret_1, r_inv_3_0, r_inv_3_1, r_inv_3_2, r_inv_3_3, r_inv_3_4, r_icmp_eq, r_goto_w, r_inv_4_0, r_inv_4_1, r_inv_4_2, r_inv_4_3, r_inv_4_4, r_pf_649, vm_s, m_isService (hC := hC), e1a, e1b, and_self, m_isUp (hC := hC), e2, ↓reduceIte, not_true_eq_false, not_false_eq_true, Int.reduceEq, Int.reduceLE, Int.reduceLT, Int.reduceAdd, Int.reduceNeg, Int.reduceMul, Int.reduceSub, Int.reduceToNat]
      exact h2 ⟨e1a, e1b⟩ (fun q => q.1 e2)
    · by_cases e3 : ρ.S 8 x = -1
      · have h0' := h0 ⟨e1a, e1b⟩ ⟨e2, e3⟩
        have hM1 : zMP s (zput V 165 (2 + 9 * x + 8) (zi (ρ.S 3 x))) := hM.fm (zFm.rf.pr (l := [165]) (ks := []) (by simp) (by omega)) (by decide)
        have hC1 : zMC (ρ.sS 8 x (ρ.S 3 x)) (zput V 165 (2 + 9 * x + 8) (zi (ρ.S 3 x))) := hC.putS n1 (by omega) (by omega) e1a (by omega)
        have hn2 : (ρ.sS 8 x (ρ.S 3 x)).n ≤ 12 := n1
        have hx2 : x < (ρ.sS 8 x (ρ.S 3 x)).n := e1b
        have hs8 : (ρ.sS 8 x (ρ.S 3 x)).S 8 x = ρ.S 3 x := by rw [zR.sS_S, if_pos ⟨rfl, rfl⟩]
        simp (disch := first | assumption | exact zk_190 | ((repeat (first | exact z1n | refine z1I ?_ | refine z1R ?_)); done) | exact rfl | omega | decide) only [zb_190_0, zb_190_1, zb_190_3, r_aload_0, r_iload_1, r_inv_2_0, r_inv_2_1, r_inv_2_2, r_inv_2_3, r_inv_2_4, r_K0, r_K1, r_if_ne, r_iconst, r_iret, r_bret_0, r_bret_1, r_inv_3_0, r_inv_3_1, r_inv_3_2, r_inv_3_3, r_inv_3_4, r_icmp_eq, r_goto_w, r_inv_4_0, r_inv_4_1, r_inv_4_2, r_inv_4_3, r_inv_4_4, r_pf_649, vm_s, m_isService (hC := hC), e1a, e1b, and_self, m_isUp (hC := hC), e2, m_of (hC := hC), e3, m_puts, m_of (hC := hC1), hs8, ↓reduceIte, not_true_eq_false, not_false_eq_true, Int.reduceEq, Int.reduceLE, Int.reduceLT, Int.reduceAdd, Int.reduceNeg, Int.reduceMul, Int.reduceSub, Int.reduceToNat]
        exact h0' _ ((zFm.rf.pr (by simp) (by omega)).pf (by simp)) (hC1.fm (zFm.rf.pf (l := []) (ks := [9]) (by simp)) (by simp)) (hI.put.put) zput_at
      · simp (disch := first | assumption | exact zk_190 | ((repeat (first | exact z1n | refine z1I ?_ | refine z1R ?_)); done) | exact rfl | omega | decide) only [zb_190_0, zb_190_1, zb_190_2, r_aload_0, r_iload_1, r_inv_2_0, r_inv_2_1, r_inv_2_2, r_inv_2_3, r_inv_2_4, r_K0, r_K1, r_if_ne, r_iconst, r_iret, r_bret_0, r_bret_1, r_inv_3_0, r_inv_3_1, r_inv_3_2, r_inv_3_3, r_inv_3_4, r_icmp_eq, r_goto_w, r_inv_4_0, r_inv_4_1, r_inv_4_2, r_inv_4_3, r_inv_4_4, r_pf_649, vm_s, m_isService (hC := hC), e1a, e1b, and_self, m_isUp (hC := hC), e2, m_of (hC := hC), e3, ↓reduceIte, not_true_eq_false, not_false_eq_true, Int.reduceEq, Int.reduceLE, Int.reduceLT, Int.reduceAdd, Int.reduceNeg, Int.reduceMul, Int.reduceSub, Int.reduceToNat]
        exact h2 ⟨e1a, e1b⟩ (fun q => e3 q.2)
  · simp (disch := first | assumption | exact zk_190 | ((repeat (first | exact z1n | refine z1I ?_ | refine z1R ?_)); done) | exact rfl | omega | decide) only [zb_190_0, r_aload_0, r_iload_1, r_inv_2_0, r_inv_2_1, r_inv_2_2, r_inv_2_3, r_inv_2_4, r_K0, r_K1, r_if_ne, r_iconst, r_iret, r_bret_0, r_bret_1, r_inv_3_0, r_inv_3_1, r_inv_3_2, r_inv_3_3, r_inv_3_4, r_icmp_eq, r_goto_w, r_inv_4_0, r_inv_4_1, r_inv_4_2, r_inv_4_3, r_inv_4_4, r_pf_649, vm_s, m_isService (hC := hC), e1, ↓reduceIte, not_true_eq_false, not_false_eq_true, Int.reduceEq, Int.reduceLE, Int.reduceLT, Int.reduceAdd, Int.reduceNeg, Int.reduceMul, Int.reduceSub, Int.reduceToNat]
    exact h1 e1
set_option maxRecDepth 20000 in
theorem m_goes (hd : 6 ≤ d) (hM : zMP s V) (hC : zMC ρ V) (hI : zInts V 165 230) (hW : zWF ρ) {x : Int} (hx : zI32 x) (h1 : ¬ (1 ≤ x ∧ x ≤ 50) → Q (.inl (some (zi 1))) (s, V)) (h0 : 1 ≤ x ∧ x ≤ 50 → zMto s V [165] (zSteps ρ x.toNat) (ρ.n - zpop (zDown (zSteps ρ x.toNat))) Q) : zcall d 191 [.ref 164, zi x] (s, V) Q := by
  obtain ⟨n0, n1, c0, c1⟩ := hW.1
  have i1 : zI32 1 := ⟨by omega, by omega⟩
  have i2 : zI32 50 := ⟨by omega, by omega⟩
  obtain ⟨x1, x2⟩ := hx
  have hx : zI32 x := ⟨x1, x2⟩
  have tM := hM.1
  have vm_s : V 164 0 = .ref 165 := (hM.2 0 (by decide)).1
  have tm_s : s.tg 165 = 20 := (hM.2 0 (by decide)).2.1
  have lm_s : s.ln 165 = 230 := (hM.2 0 (by decide)).2.2
  obtain ⟨d, rfl⟩ : ∃ e, d = e + 1 := ⟨d - 1, by omega⟩
  simp (disch := first | assumption | omega) only [zc_191]
  by_cases e1 : 1 ≤ x ∧ x ≤ 50
  · have h0' := h0 e1
    obtain ⟨e1a, e1b⟩ := e1
    simp (disch := first | assumption | exact zk_191 | ((repeat (first | exact z1n | refine z1I ?_ | refine z1R ?_)); done) | exact rfl | omega | decide) only [zb_191_0, zb_191_1, r_iload_1, r_iconst, r_inv_3_0, r_inv_3_1, r_inv_3_2, r_inv_3_3, r_inv_3_4, r_K0, r_K1, r_if_ne, r_iret, r_bret_0, r_bret_1, r_istore_2i, r_istore_2r, r_istore_2j, r_goto_w, r_iload_2, r_icmp_ge, r_aload_0, r_inv_1_0, r_inv_1_1, r_inv_1_2, r_inv_1_3, r_inv_1_4, r_istore_3i, r_istore_3r, r_istore_3j, r_iload_3, r_pf_649, r_iinc_2i, r_iinc_2r, r_iinc_2j, r_goto, vm_s, m_in, e1a, e1b, and_self, ↓reduceIte, not_true_eq_false, not_false_eq_true, Int.reduceEq, Int.reduceLE, Int.reduceLT, Int.reduceAdd, Int.reduceNeg, Int.reduceMul, Int.reduceSub, Int.reduceToNat]
    have hx := z_iter (i := 0) (n := x) (I := fun k (q : zV × Value) => zFm [165] [9] V q.1 ∧ zInts q.1 165 230 ∧ zMC (zSteps ρ k.toNat) q.1) (P := fun k q => zwp (zcall d) 191 Q (zB 191 2) [.ref 164, zi x, zi k, q.2] [] (s, q.1)) (by omega)
    refine hx ?_ ?_ (V, zJ) ⟨zFm.rf, hI, hC⟩
    · rintro k ⟨V1, w⟩ k0 k1 ⟨f1, hI1, hC1⟩ ih
      dsimp only at f1 hI1 hC1 ih ⊢
      have hM1 : zMP s V1 := hM.fm f1 (by decide)
      conv => rw [zb_191_2]
      simp (disch := first | assumption | exact zk_191 | ((repeat (first | exact z1n | refine z1I ?_ | refine z1R ?_)); done) | exact rfl | omega | decide) only [r_iload_1, r_iconst, r_inv_3_0, r_inv_3_1, r_inv_3_2, r_inv_3_3, r_inv_3_4, r_K0, r_K1, r_if_ne, r_iret, r_bret_0, r_bret_1, r_istore_2i, r_istore_2r, r_istore_2j, r_goto_w, r_iload_2, r_icmp_ge, r_aload_0, r_inv_1_0, r_inv_1_1, r_inv_1_2, r_inv_1_3, r_inv_1_4, r_istore_3i, r_istore_3r, r_istore_3j, r_iload_3, r_pf_649, r_iinc_2i, r_iinc_2r, r_iinc_2j, r_goto, vm_s, ↓reduceIte, not_true_eq_false, not_false_eq_true, Int.reduceEq, Int.reduceLE, Int.reduceLT, Int.reduceAdd, Int.reduceNeg, Int.reduceMul, Int.reduceSub, Int.reduceToNat]
      rw [if_neg (by omega)]
      refine m_step (by omega) hM1 hC1 (zSteps_wf hW _).2 (fun V2 f2 hC2 => ?_)
      have fp : ∀ v, zFm [165] [9] V (zput V2 164 9 v) := fun v => (f1.tr (f2.1.mono (fun _ h => h) (fun _ h => by simp at h))).pf (by simp)
      have := ih (zput V2 164 9 (zi ((zStp (zSteps ρ k.toNat) (zSteps ρ k.toNat).n).2 : Nat)), zi ((zStp (zSteps ρ k.toNat) (zSteps ρ k.toNat).n).2 : Nat)) ⟨fp _, (f2.2 hI1).put, by
        rw [show (k + 1).toNat = k.toNat + 1 by omega]
        exact hC2.fm (zFm.rf.pf (l := []) (ks := [9]) (by simp)) (by simp)⟩
      simp (disch := first | assumption | exact zk_191 | ((repeat (first | exact z1n | refine z1I ?_ | refine z1R ?_)); done) | exact rfl | omega | decide) only [r_iload_1, r_iconst, r_inv_3_0, r_inv_3_1, r_inv_3_2, r_inv_3_3, r_inv_3_4, r_K0, r_K1, r_if_ne, r_iret, r_bret_0, r_bret_1, r_istore_2i, r_istore_2r, r_istore_2j, r_goto_w, r_iload_2, r_icmp_ge, r_aload_0, r_inv_1_0, r_inv_1_1, r_inv_1_2, r_inv_1_3, r_inv_1_4, r_istore_3i, r_istore_3r, r_istore_3j, r_iload_3, r_pf_649, r_iinc_2i, r_iinc_2r, r_iinc_2j, r_goto, vm_s, ↓reduceIte, not_true_eq_false, not_false_eq_true, Int.reduceEq, Int.reduceLE, Int.reduceLT, Int.reduceAdd, Int.reduceNeg, Int.reduceMul, Int.reduceSub, Int.reduceToNat]
      exact this
    · rintro ⟨V1, w⟩ ⟨f1, hI1, hC1⟩
      dsimp only at f1 hI1 hC1 ⊢
      have hM1 : zMP s V1 := hM.fm f1 (by decide)
      have hC := hC1
      have hWx := zSteps_wf hW x.toNat
      have hn2 : (zSteps ρ x.toNat).n = ρ.n := hWx.1.n
      have hW2 := hWx.2
      have hu := zups_eq hW2
      rw [hn2] at hu
      have hn3 : zfo (fun x_1 m => m + (zSteps ρ x.toNat).S 6 x_1) 0 (zSteps ρ x.toNat).n = ρ.n - zpop (zDown (zSteps ρ x.toNat)) := by rw [hn2]; exact hu
      simp (disch := first | assumption | exact zk_191 | ((repeat (first | exact z1n | refine z1I ?_ | refine z1R ?_)); done) | exact rfl | omega | decide) only [zb_191_2, zb_191_3, r_iload_1, r_iconst, r_inv_3_0, r_inv_3_1, r_inv_3_2, r_inv_3_3, r_inv_3_4, r_K0, r_K1, r_if_ne, r_iret, r_bret_0, r_bret_1, r_istore_2i, r_istore_2r, r_istore_2j, r_goto_w, r_iload_2, r_icmp_ge, r_aload_0, r_inv_1_0, r_inv_1_1, r_inv_1_2, r_inv_1_3, r_inv_1_4, r_istore_3i, r_istore_3r, r_istore_3j, r_iload_3, r_pf_649, r_iinc_2i, r_iinc_2r, r_iinc_2j, r_goto, vm_s, Int.le_refl, m_ups (hC := hC), hn3, ↓reduceIte, not_true_eq_false, not_false_eq_true, Int.reduceEq, Int.reduceLE, Int.reduceLT, Int.reduceAdd, Int.reduceNeg, Int.reduceMul, Int.reduceSub, Int.reduceToNat]
      exact h0' _ (f1.pf (by simp)) (hC1.fm (zFm.rf.pf (l := []) (ks := [9]) (by simp)) (by simp)) hI1.put zput_at
  · simp (disch := first | assumption | exact zk_191 | ((repeat (first | exact z1n | refine z1I ?_ | refine z1R ?_)); done) | exact rfl | omega | decide) only [zb_191_0, r_iload_1, r_iconst, r_inv_3_0, r_inv_3_1, r_inv_3_2, r_inv_3_3, r_inv_3_4, r_K0, r_K1, r_if_ne, r_iret, r_bret_0, r_bret_1, r_istore_2i, r_istore_2r, r_istore_2j, r_goto_w, r_iload_2, r_icmp_ge, r_aload_0, r_inv_1_0, r_inv_1_1, r_inv_1_2, r_inv_1_3, r_inv_1_4, r_istore_3i, r_istore_3r, r_istore_3j, r_iload_3, r_pf_649, r_iinc_2i, r_iinc_2r, r_iinc_2j, r_goto, vm_s, m_in, e1, ↓reduceIte, not_true_eq_false, not_false_eq_true, Int.reduceEq, Int.reduceLE, Int.reduceLT, Int.reduceAdd, Int.reduceNeg, Int.reduceMul, Int.reduceSub, Int.reduceToNat]
    exact h1 e1
end
