/-! REQUEST, 3: the model's notes and levels -/
def zMN (ν : zN) (V : zV) : Prop := (V 164 22 = zi ν.mi ∧ V 164 27 = zi ν.sv ∧ V 164 26 = zi ν.ff ∧ V 164 25 = zi ν.fa ∧ V 164 23 = zi ν.fc ∧ V 164 24 = zi ν.tc) ∧ (∀ w k : Int, 0 ≤ w → w < 4 → 0 ≤ k → k < ν.fc → V 181 (4 * k + w) = zi (ν.F w k)) ∧ (∀ w k : Int, 0 ≤ w → w < 4 → 0 ≤ k → k < ν.tc → V 182 (4 * k + w) = zi (ν.T w k)) ∧ zInts V 181 240 ∧ zInts V 182 800
theorem zMN.of {ν : zN} {V V' : zV} (h : zMN ν V) (hf : ∀ k, k = 22 ∨ k = 23 ∨ k = 24 ∨ k = 25 ∨ k = 26 ∨ k = 27 → V' 164 k = V 164 k) (h1 : V' 181 = V 181) (h2 : V' 182 = V 182) : zMN ν V' := by
  obtain ⟨⟨a1, a2, a3, a4, a5, a6⟩, b, c, i1, i2⟩ := h
  refine ⟨⟨(hf 22 (by omega)).trans a1, (hf 27 (by omega)).trans a2, (hf 26 (by omega)).trans a3, (hf 25 (by omega)).trans a4, (hf 23 (by omega)).trans a5, (hf 24 (by omega)).trans a6⟩, by rw [h1]; exact b, by rw [h2]; exact c, ?_, ?_⟩
  · unfold zInts; rw [h1]; exact i1
  · unfold zInts; rw [h2]; exact i2
section
variable {d : Nat} {s : zS} {V : zV} {Q : zO → zH → Prop} {ρ : zR} {ν : zN} {h : zH}
set_option maxRecDepth 20000 in
theorem m_notesFailure (hd : 1 ≤ d) (hM : zMP s V) (hN : zMN ν V) (hk : zNok2 ν) {L x mo bu u kind : Int} (l0 : 0 ≤ L) (l1 : L < 13) (eL : V 164 20 = zi L) (ex : V 172 L = zi x) (em : V 173 L = zi mo) (eb : V 174 L = zi bu) (eu : V 175 L = zi u) (x0 : 0 ≤ x) (x1 : x < 12) (k0 : 1 ≤ kind) (k1 : kind ≤ 4) (hQ : ∀ V', zFm [181] [23, 25, 26] V V' → zMN (zNfl ν x kind (mo + u) bu) V' → Q (.inl none) (s, V')) : zcall d 209 [.ref 164, zi kind] (s, V) Q := by
  have tM := hM.1
  have vm_who : V 164 11 = .ref 172 := (hM.2 7 (by decide)).1
  have tm_who : s.tg 172 = 20 := (hM.2 7 (by decide)).2.1
  have lm_who : s.ln 172 = 13 := (hM.2 7 (by decide)).2.2
  have vm_moment : V 164 12 = .ref 173 := (hM.2 8 (by decide)).1
  have tm_moment : s.tg 173 = 20 := (hM.2 8 (by decide)).2.1
  have lm_moment : s.ln 173 = 13 := (hM.2 8 (by decide)).2.2
  have vm_budget : V 164 13 = .ref 174 := (hM.2 9 (by decide)).1
  have tm_budget : s.tg 174 = 20 := (hM.2 9 (by decide)).2.1
  have lm_budget : s.ln 174 = 13 := (hM.2 9 (by decide)).2.2
  have vm_passed : V 164 14 = .ref 175 := (hM.2 10 (by decide)).1
  have tm_passed : s.tg 175 = 20 := (hM.2 10 (by decide)).2.1
  have lm_passed : s.ln 175 = 13 := (hM.2 10 (by decide)).2.2
  have vm_failureRow : V 164 28 = .ref 181 := (hM.2 16 (by decide)).1
  have tm_failureRow : s.tg 181 = 20 := (hM.2 16 (by decide)).2.1
  have lm_failureRow : s.ln 181 = 240 := (hM.2 16 (by decide)).2.2
  have hN0 := hN
  obtain ⟨⟨a1, a2, a3, a4, a5, a6⟩, b, c, i1, i2⟩ := hN0
  obtain ⟨⟨f0, f1⟩, ⟨q0, q1⟩, ⟨ff0, ff1⟩, fa0, fa1⟩ := hk
  obtain ⟨d, rfl⟩ : ∃ e, d = e + 1 := ⟨d - 1, by omega⟩
  simp (disch := first | assumption | omega) only [zc_209]
  have key : ∀ V1, zFm [181] [23] V V1 → V1 164 23 = zi (zNfl ν x kind (mo + u) bu).fc → (∀ w k : Int, 0 ≤ w → w < 4 → 0 ≤ k → k < (zNfl ν x kind (mo + u) bu).fc → V1 181 (4 * k + w) = zi ((zNfl ν x kind (mo + u) bu).F w k)) → zInts V1 181 240 → zwp (zcall d) 209 Q (zB 209 1) [.ref 164, zi kind] [] (s, V1) := by
    intro V1 g1 g2 g3 g4
    have w25 : V1 164 25 = zi ν.fa := (g1.2 25 (by simp)).trans a4
    have w26 : V1 164 26 = zi ν.ff := (g1.2 26 (by simp)).trans a3
    have w11 : V1 164 11 = .ref 172 := (g1.2 11 (by simp)).trans vm_who
    have w20 : V1 164 20 = zi L := (g1.2 20 (by simp)).trans eL
    have wx : V1 172 L = zi x := by rw [g1.1 172 (by omega) (by simp)]; exact ex
    have fin : ∀ v5 v6, v5 = (zNfl ν x kind (mo + u) bu).fa → v6 = (zNfl ν x kind (mo + u) bu).ff → Q (.inl none) (s, zput (zput V1 164 25 (zi v5)) 164 26 (zi v6)) := by
      intro v5 v6 h5 h6
      refine hQ _ (((g1.mono (fun _ h => h) (fun k hk => by simp at hk; simp [hk])).pf (by simp)).pf (by simp)) ⟨⟨?_, ?_, ?_, ?_, ?_, ?_⟩, ?_, ?_, ?_, ?_⟩
      · rw [zput_k (by omega), zput_k (by omega), g1.2 22 (by simp)]; exact a1
      · rw [zput_k (by omega), zput_k (by omega), g1.2 27 (by simp)]; exact a2
      · rw [h6]; exact zput_at
      · rw [zput_k (by omega), h5]; exact zput_at
      · rw [zput_k (by omega), zput_k (by omega)]; exact g2
      · rw [zput_k (by omega), zput_k (by omega), g1.2 24 (by simp)]; exact a6
      · intro w k w0 w1 k0 k1
        rw [zput_r (by omega), zput_r (by omega)]; exact g3 w k w0 w1 k0 k1
      · intro w k w0 w1 k0 k1
        rw [zput_r (by omega), zput_r (by omega), g1.1 182 (by omega) (by simp)]; exact c w k w0 w1 k0 k1
      · intro i q0 q1
        rw [zput_r (by omega), zput_r (by omega)]; exact g4 i q0 q1
      · intro i q0 q1
        rw [zput_r (by omega), zput_r (by omega), g1.1 182 (by omega) (by simp)]; exact i2 i q0 q1
    have ffe : (zNfl ν x kind (mo + u) bu).ff = if ν.ff = -1 then x else ν.ff := rfl
    have fae : (zNfl ν x kind (mo + u) bu).fa = if ν.fa = -1 ∧ kind < 3 then x else ν.fa := rfl
    rw [ffe, fae] at fin
    have w11' : ∀ v, zput V1 164 25 v 164 11 = .ref 172 := fun v => (zput_k (by omega)).trans w11
    have w20' : ∀ v, zput V1 164 25 v 164 20 = zi L := fun v => (zput_k (by omega)).trans w20
    have w26' : ∀ v, zput V1 164 25 v 164 26 = zi ν.ff := fun v => (zput_k (by omega)).trans w26
    have wx' : ∀ v, zput V1 164 25 v 172 L = zi x := fun v => (zput_r (by omega)).trans wx
    simp (disch := first | assumption | exact zk_209 | ((repeat (first | exact z1n | refine z1I ?_ | refine z1R ?_)); done) | exact rfl | omega | decide) only [zb_209_1, zb_209_2, zb_209_3, zb_209_4, zb_209_5, r_aload_0, r_gf_663, r_iconst, r_icmp_ge, r_gf_668, r_imul, r_gf_651, r_gf_660, r_ial, r_ial30, r_ial32, r_iastore, r_iadd, r_iload_1, r_gf_652, r_gf_654, r_gf_653, r_dup_i, r_dup_r, r_pf_663, r_goto_w, r_gf_665, r_icmp_ne, r_goto, r_pf_665, r_gf_666, r_pf_666, r_ret, vm_who, vm_moment, vm_budget, vm_passed, vm_failureRow, w25, w26, w11, w20, wx, w11', w20', w26', wx', ↓reduceIte, not_true_eq_false, not_false_eq_true, Int.reduceEq, Int.reduceLE, Int.reduceLT, Int.reduceAdd, Int.reduceNeg, Int.reduceMul, Int.reduceSub, Int.reduceToNat]
    (repeat' split) <;> refine fin _ _ ?_ ?_ <;> (repeat' split) <;> first | rfl | (exfalso; omega)
  by_cases q : ν.fc < 60
  · have efc : (zNfl ν x kind (mo + u) bu).fc = ν.fc + 1 := by
      show (if ν.fc < 60 then (ν.fc + 1, fun w k => if k = ν.fc then zRow4 x kind (mo + u) bu w else ν.F w k) else ν.1).1 = _
      rw [if_pos q]
    have eF : ∀ w k, (zNfl ν x kind (mo + u) bu).F w k = if k = ν.fc then zRow4 x kind (mo + u) bu w else ν.F w k := fun w k => by
      show (if ν.fc < 60 then (ν.fc + 1, fun w k => if k = ν.fc then zRow4 x kind (mo + u) bu w else ν.F w k) else ν.1).2 w k = _
      rw [if_pos q]
    rw [efc] at key
    simp (disch := first | assumption | exact zk_209 | ((repeat (first | exact z1n | refine z1I ?_ | refine z1R ?_)); done) | exact rfl | omega | decide) only [zb_209_0, r_aload_0, r_gf_663, r_iconst, r_icmp_ge, r_gf_668, r_imul, r_gf_651, r_gf_660, r_ial, r_ial30, r_ial32, r_iastore, r_iadd, r_iload_1, r_gf_652, r_gf_654, r_gf_653, r_dup_i, r_dup_r, r_pf_663, r_goto_w, r_gf_665, r_icmp_ne, r_goto, r_pf_665, r_gf_666, r_pf_666, r_ret, vm_who, vm_moment, vm_budget, vm_passed, vm_failureRow, a5, eL, ex, em, eb, eu, zput_r, ↓reduceIte, not_true_eq_false, not_false_eq_true, Int.reduceEq, Int.reduceLE, Int.reduceLT, Int.reduceAdd, Int.reduceNeg, Int.reduceMul, Int.reduceSub, Int.reduceToNat]
    rw [if_neg (by omega)]
    refine key _ ?_ zput_at (fun w k w0 w1 k0 k1 => ?_) ?_
    · repeat (first | exact zFm.rf | refine zFm.pf ?_ (by simp) | refine zFm.pr ?_ (by simp) (by omega))
    · rw [eF, zput_r (by omega)]
      by_cases e : k = ν.fc
      · rw [if_pos e, e]
        rcases (by omega : w = 0 ∨ w = 1 ∨ w = 2 ∨ w = 3) with rfl | rfl | rfl | rfl <;> simp (disch := omega) only [zput_i, zput_at, Int.add_zero] <;> rfl
      · rw [if_neg e]
        simp (disch := omega) only [zput_i]
        exact b w k w0 w1 k0 (by omega)
    · intro i q0 q1
      rw [zput_r (by omega)]
      exact ((((i1.put).put).put).put) i q0 q1
  · have e1 : (zNfl ν x kind (mo + u) bu).1 = ν.1 := by
      show (if ν.fc < 60 then (ν.fc + 1, fun w k => if k = ν.fc then zRow4 x kind (mo + u) bu w else ν.F w k) else ν.1) = _
      rw [if_neg q]
    simp (disch := first | assumption | exact zk_209 | ((repeat (first | exact z1n | refine z1I ?_ | refine z1R ?_)); done) | exact rfl | omega | decide) only [zb_209_0, r_aload_0, r_gf_663, r_iconst, r_icmp_ge, r_gf_668, r_imul, r_gf_651, r_gf_660, r_ial, r_ial30, r_ial32, r_iastore, r_iadd, r_iload_1, r_gf_652, r_gf_654, r_gf_653, r_dup_i, r_dup_r, r_pf_663, r_goto_w, r_gf_665, r_icmp_ne, r_goto, r_pf_665, r_gf_666, r_pf_666, r_ret, vm_who, vm_moment, vm_budget, vm_passed, vm_failureRow, a5, ↓reduceIte, not_true_eq_false, not_false_eq_true, Int.reduceEq, Int.reduceLE, Int.reduceLT, Int.reduceAdd, Int.reduceNeg, Int.reduceMul, Int.reduceSub, Int.reduceToNat]
    rw [if_pos (by omega)]
    refine key V zFm.rf ?_ (fun w k w0 w1 k0 k1 => ?_) i1
    · rw [a5]
      show _ = zi (zNfl ν x kind (mo + u) bu).1.1
      rw [e1]
      rfl
    · have k1 : k < (zNfl ν x kind (mo + u) bu).1.1 := k1
      rw [e1] at k1
      show _ = zi ((zNfl ν x kind (mo + u) bu).1.2 w k)
      rw [e1]
      exact b w k w0 w1 k0 k1
set_option maxRecDepth 20000 in
theorem m_enters (hd : 1 ≤ d) (hM : zMP s V) {L x mo bu sv : Int} (l0 : 0 ≤ L) (l1 : L < 13) (eL : V 164 20 = zi L) (es : V 164 27 = zi sv) : zcall d 210 [.ref 164, zi x, zi mo, zi bu] (s, V) Q = Q (.inl none) (s, zput (zput (zput (zput (zput V 172 L (zi x)) 173 L (zi mo)) 174 L (zi bu)) 175 L (zi 0)) 164 27 (zi (sv + 1))) := by
  have tM := hM.1
  have vm_who : V 164 11 = .ref 172 := (hM.2 7 (by decide)).1
  have tm_who : s.tg 172 = 20 := (hM.2 7 (by decide)).2.1
  have lm_who : s.ln 172 = 13 := (hM.2 7 (by decide)).2.2
  have vm_moment : V 164 12 = .ref 173 := (hM.2 8 (by decide)).1
  have tm_moment : s.tg 173 = 20 := (hM.2 8 (by decide)).2.1
  have lm_moment : s.ln 173 = 13 := (hM.2 8 (by decide)).2.2
  have vm_budget : V 164 13 = .ref 174 := (hM.2 9 (by decide)).1
  have tm_budget : s.tg 174 = 20 := (hM.2 9 (by decide)).2.1
  have lm_budget : s.ln 174 = 13 := (hM.2 9 (by decide)).2.2
  have vm_passed : V 164 14 = .ref 175 := (hM.2 10 (by decide)).1
  have tm_passed : s.tg 175 = 20 := (hM.2 10 (by decide)).2.1
  have lm_passed : s.ln 175 = 13 := (hM.2 10 (by decide)).2.2
  obtain ⟨d, rfl⟩ : ∃ e, d = e + 1 := ⟨d - 1, by omega⟩
  simp (disch := first | assumption | omega) only [zc_210]
  simp (disch := first | assumption | exact zk_210 | ((repeat (first | exact z1n | refine z1I ?_ | refine z1R ?_)); done) | exact rfl | omega | decide) only [zb_210_0, r_aload_0, r_gf_651, r_gf_660, r_iload_1, r_iastore, r_gf_652, r_iload_2, r_gf_653, r_iload_3, r_gf_654, r_iconst, r_dup_i, r_dup_r, r_gf_667, r_iadd, r_pf_667, r_ret, vm_who, vm_moment, vm_budget, vm_passed, eL, es, zput_r, ↓reduceIte, not_true_eq_false, not_false_eq_true, Int.reduceEq, Int.reduceLE, Int.reduceLT, Int.reduceAdd, Int.reduceNeg, Int.reduceMul, Int.reduceSub, Int.reduceToNat]
set_option maxRecDepth 20000 in
theorem m_opens (hd : 1 ≤ d) (hM : zMP s V) {L c : Int} (l0 : 0 ≤ L) (l1 : L < 13) (eL : V 164 20 = zi L) : zcall d 212 [.ref 164, zi c] (s, V) Q = Q (.inl none) (s, zput (zput (zput (zput V 176 L (zi c)) 177 L (zi c)) 178 L (zi 0)) 179 L (zi 0)) := by
  have tM := hM.1
  have vm_present : V 164 15 = .ref 176 := (hM.2 11 (by decide)).1
  have tm_present : s.tg 176 = 20 := (hM.2 11 (by decide)).2.1
  have lm_present : s.ln 176 = 13 := (hM.2 11 (by decide)).2.2
  have vm_head : V 164 16 = .ref 177 := (hM.2 12 (by decide)).1
  have tm_head : s.tg 177 = 20 := (hM.2 12 (by decide)).2.1
  have lm_head : s.ln 177 = 13 := (hM.2 12 (by decide)).2.2
  have vm_made : V 164 17 = .ref 178 := (hM.2 13 (by decide)).1
  have tm_made : s.tg 178 = 20 := (hM.2 13 (by decide)).2.1
  have lm_made : s.ln 178 = 13 := (hM.2 13 (by decide)).2.2
  have vm_won : V 164 18 = .ref 179 := (hM.2 14 (by decide)).1
  have tm_won : s.tg 179 = 23 := (hM.2 14 (by decide)).2.1
  have lm_won : s.ln 179 = 13 := (hM.2 14 (by decide)).2.2
  obtain ⟨d, rfl⟩ : ∃ e, d = e + 1 := ⟨d - 1, by omega⟩
  simp (disch := first | assumption | omega) only [zc_212]
  simp (disch := first | assumption | exact zk_212 | ((repeat (first | exact z1n | refine z1I ?_ | refine z1R ?_)); done) | exact rfl | omega | decide) only [zb_212_0, r_aload_0, r_gf_655, r_gf_660, r_iload_1, r_iastore, r_gf_656, r_gf_657, r_iconst, r_gf_658, r_bastore, r_ret, vm_present, vm_head, vm_made, vm_won, eL, zput_r, ↓reduceIte, not_true_eq_false, not_false_eq_true, Int.reduceEq, Int.reduceLE, Int.reduceLT, Int.reduceAdd, Int.reduceNeg, Int.reduceMul, Int.reduceSub, Int.reduceToNat]
end
