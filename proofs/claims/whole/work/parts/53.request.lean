/-! REQUEST, 1: the class's latest request -/
def zRqP (s : zS) (V : zV) : Prop := s.tg 121 = 5 ∧ (V 121 8 = .ref 122 ∧ V 121 9 = .ref 127) ∧ (s.tg 122 = 24 ∧ s.ln 122 = 4) ∧ (s.tg 127 = 24 ∧ s.ln 127 = 4) ∧ (∀ w : Nat, w < 4 → V 122 w = .ref (123 + w) ∧ s.tg (123 + w) = 20 ∧ s.ln (123 + w) = 60) ∧ ∀ w : Nat, w < 4 → V 127 w = .ref (128 + w) ∧ s.tg (128 + w) = 20 ∧ s.ln (128 + w) = 200
def zNok2 (ν : zN) : Prop := (0 ≤ ν.fc ∧ ν.fc ≤ 60) ∧ (0 ≤ ν.tc ∧ ν.tc ≤ 200) ∧ (-1 ≤ ν.ff ∧ ν.ff < 12) ∧ (-1 ≤ ν.fa ∧ ν.fa < 12)
def zRqN (ν : zN) (V : zV) : Prop := (V 121 2 = zi ν.mi ∧ V 121 3 = zi ν.sv ∧ V 121 4 = zi ν.ff ∧ V 121 5 = zi ν.fa ∧ V 121 6 = zi ν.fc ∧ V 121 7 = zi ν.tc) ∧ (∀ w : Nat, w < 4 → ∀ k : Int, 0 ≤ k → k < ν.fc → V (123 + w) k = zi (ν.F w k)) ∧ ∀ w : Nat, w < 4 → ∀ k : Int, 0 ≤ k → k < ν.tc → V (128 + w) k = zi (ν.T w k)
theorem zRqP.of {s : zS} {V V' : zV} (h : zRqP s V) (h8 : V' 121 8 = V 121 8) (h9 : V' 121 9 = V 121 9) (h2 : V' 122 = V 122) (h7 : V' 127 = V 127) : zRqP s V' := by
  obtain ⟨q1, ⟨q2, q3⟩, q4, q5, q6, q7⟩ := h
  exact ⟨q1, ⟨h8.trans q2, h9.trans q3⟩, q4, q5, fun w hw => by rw [h2]; exact q6 w hw, fun w hw => by rw [h7]; exact q7 w hw⟩
theorem zRqP.pf {s : zS} {V : zV} {k : Int} {v : Value} (h : zRqP s V) (h8 : k ≠ 8) (h9 : k ≠ 9) : zRqP s (zput V 121 k v) := h.of (zput_k (fun q => h8 q.symm)) (zput_k (fun q => h9 q.symm)) (zput_row (by omega)) (zput_row (by omega))
theorem zRqP.pr {s : zS} {V : zV} {r : Nat} {k : Int} {v : Value} (h : zRqP s V) (h1 : r ≠ 121) (h2 : r ≠ 122) (h7 : r ≠ 127) : zRqP s (zput V r k v) := h.of (zput_r (fun q => h1 q.symm)) (zput_r (fun q => h1 q.symm)) (zput_row (fun q => h2 q.symm)) (zput_row (fun q => h7 q.symm))
theorem zNok2.fl {ν : zN} (h : zNok2 ν) {x kind mo bu : Int} (x0 : 0 ≤ x) (x1 : x < 12) : zNok2 (zNfl ν x kind mo bu) := by
  obtain ⟨h1, h2, h3, h4⟩ := h
  refine ⟨?_, h2, ?_, ?_⟩
  · show 0 ≤ (if ν.fc < 60 then (ν.fc + 1, fun w k => if k = ν.fc then zRow4 x kind mo bu w else ν.F w k) else ν.1).1 ∧ (if ν.fc < 60 then (ν.fc + 1, fun w k => if k = ν.fc then zRow4 x kind mo bu w else ν.F w k) else ν.1).1 ≤ 60
    split
    · dsimp only; omega
    · exact h1
  · show -1 ≤ (if ν.ff = -1 then x else ν.ff) ∧ (if ν.ff = -1 then x else ν.ff) < 12
    split <;> omega
  · show -1 ≤ (if ν.fa = -1 ∧ kind < 3 then x else ν.fa) ∧ (if ν.fa = -1 ∧ kind < 3 then x else ν.fa) < 12
    split <;> omega
theorem zNok2.nt {ν : zN} (h : zNok2 ν) {cl mo bu : Int} : zNok2 (zNt ν cl mo bu) := by
  obtain ⟨h1, h2, h3, h4⟩ := h
  refine ⟨h1, ?_, h3, h4⟩
  show 0 ≤ (if ν.tc < 200 then (ν.tc + 1, fun w k => if k = ν.tc then zRow4 cl mo bu 0 w else ν.T w k) else ν.2.1).1 ∧ (if ν.tc < 200 then (ν.tc + 1, fun w k => if k = ν.tc then zRow4 cl mo bu 0 w else ν.T w k) else ν.2.1).1 ≤ 200
  split
  · dsimp only; omega
  · exact h2
theorem zNok2.ng {ν : zN} (h : zNok2 ν) {n : Int} : zNok2 (zNg ν n) := by
  obtain ⟨h1, h2, h3, h4⟩ := h
  refine ⟨h1, ?_, h3, h4⟩
  show 0 ≤ (if n = -1 then ν.2.1 else (ν.tc, fun w k => if w = 3 ∧ k = n then 1 else ν.T w k)).1 ∧ (if n = -1 then ν.2.1 else (ν.tc, fun w k => if w = 3 ∧ k = n then 1 else ν.T w k)).1 ≤ 200
  split
  · exact h2
  · exact h2
section
variable {d e : Nat} {s : zS} {V : zV} {Q : zO → zH → Prop} {a : Nat} {ρ : zR} {ν : zN} {h : zH}
set_option maxRecDepth 20000 in
theorem c_noteFailure (hd : 1 ≤ d) (hP : zRqP s V) (hN : zRqN ν V) (hk : zNok2 ν) {x kind mo bu : Int} (x0 : 0 ≤ x) (x1 : x < 12) (k0 : 1 ≤ kind) (k1 : kind ≤ 4) (hQ : ∀ V', zFrg 121 132 V V' → zRqP s V' → (∀ k, k = 0 ∨ k = 1 → V' 121 k = V 121 k) → zRqN (zNfl ν x kind mo bu) V' → Q (.inl none) (s, V')) : zcall d 50 [.ref 121, zi x, zi kind, zi mo, zi bu] (s, V) Q := by
  have hP0 := hP
  obtain ⟨t1, ⟨v8, v9⟩, ⟨t2, l2⟩, -, hf, -⟩ := hP0
  have hN0 := hN
  obtain ⟨⟨u2, u3, u4, u5, u6, u7⟩, hF, hT⟩ := hN0
  obtain ⟨⟨f0, f1⟩, ⟨q0, q1⟩, ⟨ff0, ff1⟩, fa0, fa1⟩ := hk
  have r0 : V 122 0 = .ref 123 := (hf 0 (by omega)).1
  have r1 : V 122 1 = .ref 124 := (hf 1 (by omega)).1
  have r2 : V 122 2 = .ref 125 := (hf 2 (by omega)).1
  have r3 : V 122 3 = .ref 126 := (hf 3 (by omega)).1
  have s0 : s.tg 123 = 20 := (hf 0 (by omega)).2.1
  have s1 : s.tg 124 = 20 := (hf 1 (by omega)).2.1
  have s2 : s.tg 125 = 20 := (hf 2 (by omega)).2.1
  have s3 : s.tg 126 = 20 := (hf 3 (by omega)).2.1
  have m0 : s.ln 123 = 60 := (hf 0 (by omega)).2.2
  have m1 : s.ln 124 = 60 := (hf 1 (by omega)).2.2
  have m2 : s.ln 125 = 60 := (hf 2 (by omega)).2.2
  have m3 : s.ln 126 = 60 := (hf 3 (by omega)).2.2
  -- the first two tests write fields 4 and 5
  have key : ∀ V1, zFrg 121 132 V V1 → zRqP s V1 → (∀ k, k = 0 ∨ k = 1 ∨ k = 2 ∨ k = 3 ∨ k = 6 ∨ k = 7 → V1 121 k = V 121 k) → V1 121 4 = zi (zNfl ν x kind mo bu).ff → V1 121 5 = zi (zNfl ν x kind mo bu).fa → (∀ r, r ≠ 121 → V1 r = V r) → zwp (zcall (d - 1)) 50 Q (zB 50 3) [.ref 121, zi x, zi kind, zi mo, zi bu] [] (s, V1) := by
    intro V1 g1 g2 g3 g4 g5 g6
    have w6 : V1 121 6 = zi ν.fc := (g3 6 (by omega)).trans u6
    have w8 : V1 121 8 = .ref 122 := g2.2.1.1
    have a0 : V1 122 0 = .ref 123 := by rw [g6 122 (by omega)]; exact r0
    have a1 : V1 122 1 = .ref 124 := by rw [g6 122 (by omega)]; exact r1
    have a2 : V1 122 2 = .ref 125 := by rw [g6 122 (by omega)]; exact r2
    have a3 : V1 122 3 = .ref 126 := by rw [g6 122 (by omega)]; exact r3
    by_cases q : ν.fc < 60
    · have efc : (zNfl ν x kind mo bu).fc = ν.fc + 1 := by
        show (if ν.fc < 60 then (ν.fc + 1, fun w k => if k = ν.fc then zRow4 x kind mo bu w else ν.F w k) else ν.1).1 = _
        rw [if_pos q]
      have eF : ∀ w k, (zNfl ν x kind mo bu).F w k = if k = ν.fc then zRow4 x kind mo bu w else ν.F w k := fun w k => by
        show (if ν.fc < 60 then (ν.fc + 1, fun w k => if k = ν.fc then zRow4 x kind mo bu w else ν.F w k) else ν.1).2 w k = _
        rw [if_pos q]
      simp (disch := first | assumption | exact zk_50 | ((repeat (first | exact z1n | refine z1I ?_ | refine z1R ?_)); done) | exact rfl | omega | decide) only [zb_50_3, zb_50_4, r_aload_0, r_gf_324, r_iconst, r_icmp_ne, r_iload_1, r_pf_324, r_goto_w, r_gf_325, r_iload_2, r_icmp_eq, r_pf_325, r_gf_326, r_icmp_ge, r_gf_328, r_aaload, r_iastore, r_iload_3, r_iload_4, r_dup_i, r_dup_r, r_iadd, r_pf_326, r_ret, w6, w8, a0, a1, a2, a3, zput_r, ↓reduceIte, not_true_eq_false, not_false_eq_true, Int.reduceEq, Int.reduceLE, Int.reduceLT, Int.reduceAdd, Int.reduceNeg, Int.reduceMul, Int.reduceSub, Int.reduceToNat]
      rw [if_neg (by omega)]
      refine hQ _ ?_ ?_ ?_ ⟨⟨?_, ?_, ?_, ?_, ?_, ?_⟩, fun w hw k k0 k1 => ?_, fun w hw k k0 k1 => ?_⟩
      · repeat (first | exact g1 | refine zFrg.p ?_ (by omega) (by omega))
      · repeat (first | exact g2 | refine zRqP.pf ?_ (by omega) (by omega) | refine zRqP.pr ?_ (by omega) (by omega) (by omega))
      · intro k hk
        rw [zput_k (by omega)]
        simp (disch := omega) only [zput_r]
        exact g3 k (by omega)
      · simp (disch := omega) only [zput_r, zput_k]; exact (g3 2 (by omega)).trans u2
      · simp (disch := omega) only [zput_r, zput_k]; exact (g3 3 (by omega)).trans u3
      · simp (disch := omega) only [zput_r, zput_k]; exact g4
      · simp (disch := omega) only [zput_r, zput_k]; exact g5
      · rw [efc]; exact zput_at
      · simp (disch := omega) only [zput_r, zput_k]; exact (g3 7 (by omega)).trans u7
      · rw [efc] at k1
        rw [eF, zput_r (by omega)]
        by_cases e : k = ν.fc
        · rw [if_pos e, e]
          rcases (by omega : w = 0 ∨ w = 1 ∨ w = 2 ∨ w = 3) with rfl | rfl | rfl | rfl <;> simp (disch := omega) only [zput_r, zput_at] <;> rfl
        · rw [if_neg e]
          simp (disch := omega) only [zput_i]
          rw [g6 _ (by omega)]
          exact hF w hw k k0 (by omega)
      · simp (disch := omega) only [zput_r]
        rw [g6 _ (by omega)]
        exact hT w hw k k0 k1
    · have e1 : (zNfl ν x kind mo bu).1 = ν.1 := by
        show (if ν.fc < 60 then (ν.fc + 1, fun w k => if k = ν.fc then zRow4 x kind mo bu w else ν.F w k) else ν.1) = _
        rw [if_neg q]
      simp (disch := first | assumption | exact zk_50 | ((repeat (first | exact z1n | refine z1I ?_ | refine z1R ?_)); done) | exact rfl | omega | decide) only [zb_50_3, zb_50_4, r_aload_0, r_gf_324, r_iconst, r_icmp_ne, r_iload_1, r_pf_324, r_goto_w, r_gf_325, r_iload_2, r_icmp_eq, r_pf_325, r_gf_326, r_icmp_ge, r_gf_328, r_aaload, r_iastore, r_iload_3, r_iload_4, r_dup_i, r_dup_r, r_iadd, r_pf_326, r_ret, w6, ↓reduceIte, not_true_eq_false, not_false_eq_true, Int.reduceEq, Int.reduceLE, Int.reduceLT, Int.reduceAdd, Int.reduceNeg, Int.reduceMul, Int.reduceSub, Int.reduceToNat]
      rw [if_pos (by omega)]
      refine hQ V1 g1 g2 (fun k hk => g3 k (by omega)) ⟨⟨(g3 2 (by omega)).trans u2, (g3 3 (by omega)).trans u3, g4, g5, ?_, (g3 7 (by omega)).trans u7⟩, fun w hw k k0 k1 => ?_, fun w hw k k0 k1 => ?_⟩
      · rw [w6]
        show _ = zi (zNfl ν x kind mo bu).1.1
        rw [e1]
        rfl
      · rw [g6 _ (by omega)]
        have k1 : k < (zNfl ν x kind mo bu).1.1 := k1
        rw [e1] at k1
        show _ = zi ((zNfl ν x kind mo bu).1.2 w k)
        rw [e1]
        exact hF w hw k k0 k1
      · rw [g6 _ (by omega)]
        exact hT w hw k k0 k1
  obtain ⟨d, rfl⟩ : ∃ q, d = q + 1 := ⟨d - 1, by omega⟩
  rw [zc_50 t1]
  rw [show d + 1 - 1 = d by omega] at key
  have ffe : (zNfl ν x kind mo bu).ff = if ν.ff = -1 then x else ν.ff := rfl
  have fae : (zNfl ν x kind mo bu).fa = if ν.fa = -1 ∧ kind < 3 then x else ν.fa := rfl
  rw [ffe, fae] at key
  by_cases e1 : ν.ff = -1
  · rw [if_pos e1] at key
    by_cases e2 : ν.fa = -1 ∧ kind < 3
    · rw [if_pos e2] at key
      have := key (zput (zput V 121 4 (zi x)) 121 5 (zi x)) ((zFrg.rf.p (by omega) (by omega)).p (by omega) (by omega)) ((hP.pf (by omega) (by omega)).pf (by omega) (by omega)) (fun k hk => by rw [zput_k (by omega), zput_k (by omega)]) (by rw [zput_k (by omega), zput_at]) zput_at (fun r hr => by rw [zput_row hr, zput_row hr])
      simp (disch := first | assumption | exact zk_50 | ((repeat (first | exact z1n | refine z1I ?_ | refine z1R ?_)); done) | exact rfl | omega | decide) only [zb_50_0, zb_50_1, zb_50_2, r_aload_0, r_gf_324, r_iconst, r_icmp_ne, r_iload_1, r_pf_324, r_goto_w, r_gf_325, r_iload_2, r_icmp_eq, r_pf_325, r_gf_326, r_icmp_ge, r_gf_328, r_aaload, r_iastore, r_iload_3, r_iload_4, r_dup_i, r_dup_r, r_iadd, r_pf_326, r_ret, u4, u5, e1, e2, zput_k, ↓reduceIte, not_true_eq_false, not_false_eq_true, Int.reduceEq, Int.reduceLE, Int.reduceLT, Int.reduceAdd, Int.reduceNeg, Int.reduceMul, Int.reduceSub, Int.reduceToNat]
      (repeat' split) <;> first | exact this | (exfalso; omega)
    · rw [if_neg e2] at key
      have := key (zput V 121 4 (zi x)) (zFrg.rf.p (by omega) (by omega)) (hP.pf (by omega) (by omega)) (fun k hk => by rw [zput_k (by omega)]) zput_at (by rw [zput_k (by omega)]; exact u5) (fun r hr => zput_row hr)
      simp (disch := first | assumption | exact zk_50 | ((repeat (first | exact z1n | refine z1I ?_ | refine z1R ?_)); done) | exact rfl | omega | decide) only [zb_50_0, zb_50_1, zb_50_2, r_aload_0, r_gf_324, r_iconst, r_icmp_ne, r_iload_1, r_pf_324, r_goto_w, r_gf_325, r_iload_2, r_icmp_eq, r_pf_325, r_gf_326, r_icmp_ge, r_gf_328, r_aaload, r_iastore, r_iload_3, r_iload_4, r_dup_i, r_dup_r, r_iadd, r_pf_326, r_ret, u4, u5, e1, zput_k, ↓reduceIte, not_true_eq_false, not_false_eq_true, Int.reduceEq, Int.reduceLE, Int.reduceLT, Int.reduceAdd, Int.reduceNeg, Int.reduceMul, Int.reduceSub, Int.reduceToNat]
      (repeat' split) <;> first | exact this | (exfalso; omega)
  · rw [if_neg e1] at key
    by_cases e2 : ν.fa = -1 ∧ kind < 3
    · rw [if_pos e2] at key
      have := key (zput V 121 5 (zi x)) (zFrg.rf.p (by omega) (by omega)) (hP.pf (by omega) (by omega)) (fun k hk => by rw [zput_k (by omega)]) (by rw [zput_k (by omega)]; exact u4) zput_at (fun r hr => zput_row hr)
      simp (disch := first | assumption | exact zk_50 | ((repeat (first | exact z1n | refine z1I ?_ | refine z1R ?_)); done) | exact rfl | omega | decide) only [zb_50_0, zb_50_1, zb_50_2, r_aload_0, r_gf_324, r_iconst, r_icmp_ne, r_iload_1, r_pf_324, r_goto_w, r_gf_325, r_iload_2, r_icmp_eq, r_pf_325, r_gf_326, r_icmp_ge, r_gf_328, r_aaload, r_iastore, r_iload_3, r_iload_4, r_dup_i, r_dup_r, r_iadd, r_pf_326, r_ret, u4, u5, e1, zput_k, ↓reduceIte, not_true_eq_false, not_false_eq_true, Int.reduceEq, Int.reduceLE, Int.reduceLT, Int.reduceAdd, Int.reduceNeg, Int.reduceMul, Int.reduceSub, Int.reduceToNat]
      (repeat' split) <;> first | exact this | (exfalso; omega)
    · rw [if_neg e2] at key
      have := key V zFrg.rf hP (fun k _ => rfl) u4 u5 (fun r _ => rfl)
      simp (disch := first | assumption | exact zk_50 | ((repeat (first | exact z1n | refine z1I ?_ | refine z1R ?_)); done) | exact rfl | omega | decide) only [zb_50_0, zb_50_1, zb_50_2, r_aload_0, r_gf_324, r_iconst, r_icmp_ne, r_iload_1, r_pf_324, r_goto_w, r_gf_325, r_iload_2, r_icmp_eq, r_pf_325, r_gf_326, r_icmp_ge, r_gf_328, r_aaload, r_iastore, r_iload_3, r_iload_4, r_dup_i, r_dup_r, r_iadd, r_pf_326, r_ret, u4, u5, e1, zput_k, ↓reduceIte, not_true_eq_false, not_false_eq_true, Int.reduceEq, Int.reduceLE, Int.reduceLT, Int.reduceAdd, Int.reduceNeg, Int.reduceMul, Int.reduceSub, Int.reduceToNat]
      (repeat' split) <;> first | exact this | (exfalso; omega)
set_option maxRecDepth 20000 in
theorem c_noteTry (hd : 1 ≤ d) (hP : zRqP s V) (hN : zRqN ν V) (hk : zNok2 ν) {cl mo bu : Int} (hQ : ∀ V', zFrg 121 132 V V' → zRqP s V' → (∀ k, k = 0 ∨ k = 1 → V' 121 k = V 121 k) → (∀ k, k = 2 ∨ k = 3 ∨ k = 4 ∨ k = 5 ∨ k = 6 → V' 121 k = V 121 k) → V' 121 7 = zi (zNt ν cl mo bu).tc → (∀ w : Nat, w < 4 → V' (123 + w) = V (123 + w)) → (∀ w : Nat, w < 4 → ∀ k : Int, 0 ≤ k → k < (zNt ν cl mo bu).tc → V' (128 + w) k = zi ((zNt ν cl mo bu).T w k)) → Q (.inl (some (zi (zNo ν)))) (s, V')) : zcall d 49 [.ref 121, zi cl, zi mo, zi bu] (s, V) Q := by
  have hP0 := hP
  obtain ⟨t1, ⟨v8, v9⟩, -, ⟨t2, l2⟩, -, hf⟩ := hP0
  obtain ⟨⟨u2, u3, u4, u5, u6, u7⟩, hF, hT⟩ := hN
  obtain ⟨⟨f0, f1⟩, ⟨q0, q1⟩, -⟩ := hk
  have r0 : V 127 0 = .ref 128 := (hf 0 (by omega)).1
  have r1 : V 127 1 = .ref 129 := (hf 1 (by omega)).1
  have r2 : V 127 2 = .ref 130 := (hf 2 (by omega)).1
  have r3 : V 127 3 = .ref 131 := (hf 3 (by omega)).1
  have s0 : s.tg 128 = 20 := (hf 0 (by omega)).2.1
  have s1 : s.tg 129 = 20 := (hf 1 (by omega)).2.1
  have s2 : s.tg 130 = 20 := (hf 2 (by omega)).2.1
  have s3 : s.tg 131 = 20 := (hf 3 (by omega)).2.1
  have m0 : s.ln 128 = 200 := (hf 0 (by omega)).2.2
  have m1 : s.ln 129 = 200 := (hf 1 (by omega)).2.2
  have m2 : s.ln 130 = 200 := (hf 2 (by omega)).2.2
  have m3 : s.ln 131 = 200 := (hf 3 (by omega)).2.2
  obtain ⟨d, rfl⟩ : ∃ q, d = q + 1 := ⟨d - 1, by omega⟩
  rw [zc_49 t1]
  unfold zNo at hQ
  by_cases q : ν.tc < 200
  · rw [if_pos q] at hQ
    have etc : (zNt ν cl mo bu).tc = ν.tc + 1 := by
      show (if ν.tc < 200 then (ν.tc + 1, fun w k => if k = ν.tc then zRow4 cl mo bu 0 w else ν.T w k) else ν.2.1).1 = _
      rw [if_pos q]
    have eT : ∀ w k, (zNt ν cl mo bu).T w k = if k = ν.tc then zRow4 cl mo bu 0 w else ν.T w k := fun w k => by
      show (if ν.tc < 200 then (ν.tc + 1, fun w k => if k = ν.tc then zRow4 cl mo bu 0 w else ν.T w k) else ν.2.1).2 w k = _
      rw [if_pos q]
    simp (disch := first | assumption | exact zk_49 | ((repeat (first | exact z1n | refine z1I ?_ | refine z1R ?_)); done) | exact rfl | omega | decide) only [zb_49_0, zb_49_1, r_aload_0, r_gf_327, r_iconst, r_icmp_lt, r_iret, r_bret_0, r_bret_1, r_istore_4i, r_istore_4r, r_istore_4j, r_gf_329, r_aaload, r_iload_4, r_iload_1, r_iastore, r_iload_2, r_iload_3, r_dup_i, r_dup_r, r_iadd, r_pf_327, u7, v9, r0, r1, r2, r3, zput_r, ↓reduceIte, not_true_eq_false, not_false_eq_true, Int.reduceEq, Int.reduceLE, Int.reduceLT, Int.reduceAdd, Int.reduceNeg, Int.reduceMul, Int.reduceSub, Int.reduceToNat]
    rw [if_pos q]
    refine hQ _ ?_ ?_ (fun k hk => ?_) (fun k hk => ?_) ?_ (fun w hw => ?_) (fun w hw k k0 k1 => ?_)
    · repeat (first | exact zFrg.rf | refine zFrg.p ?_ (by omega) (by omega))
    · repeat (first | exact hP | refine zRqP.pf ?_ (by omega) (by omega) | refine zRqP.pr ?_ (by omega) (by omega) (by omega))
    · rw [zput_k (by omega)]; simp (disch := omega) only [zput_r]
    · rw [zput_k (by omega)]; simp (disch := omega) only [zput_r]
    · rw [etc]; exact zput_at
    · simp (disch := omega) only [zput_row]
    · rw [etc] at k1
      rw [eT, zput_r (by omega)]
      by_cases e : k = ν.tc
      · rw [if_pos e, e]
        rcases (by omega : w = 0 ∨ w = 1 ∨ w = 2 ∨ w = 3) with rfl | rfl | rfl | rfl <;> simp (disch := omega) only [zput_r, zput_at] <;> rfl
      · rw [if_neg e]
        simp (disch := omega) only [zput_i]
        exact hT w hw k k0 (by omega)
  · rw [if_neg q] at hQ
    have e1 : (zNt ν cl mo bu).2.1 = ν.2.1 := by
      show (if ν.tc < 200 then (ν.tc + 1, fun w k => if k = ν.tc then zRow4 cl mo bu 0 w else ν.T w k) else ν.2.1) = _
      rw [if_neg q]
    simp (disch := first | assumption | exact zk_49 | ((repeat (first | exact z1n | refine z1I ?_ | refine z1R ?_)); done) | exact rfl | omega | decide) only [zb_49_0, r_aload_0, r_gf_327, r_iconst, r_icmp_lt, r_iret, r_bret_0, r_bret_1, r_istore_4i, r_istore_4r, r_istore_4j, r_gf_329, r_aaload, r_iload_4, r_iload_1, r_iastore, r_iload_2, r_iload_3, r_dup_i, r_dup_r, r_iadd, r_pf_327, u7, ↓reduceIte, not_true_eq_false, not_false_eq_true, Int.reduceEq, Int.reduceLE, Int.reduceLT, Int.reduceAdd, Int.reduceNeg, Int.reduceMul, Int.reduceSub, Int.reduceToNat]
    rw [if_neg q]
    refine hQ V zFrg.rf hP (fun _ _ => rfl) (fun _ _ => rfl) ?_ (fun _ _ => rfl) (fun w hw k k0 k1 => ?_)
    · rw [u7]
      show _ = zi (zNt ν cl mo bu).2.1.1
      rw [e1]
      rfl
    · have k1 : k < (zNt ν cl mo bu).2.1.1 := k1
      rw [e1] at k1
      show _ = zi ((zNt ν cl mo bu).2.1.2 w k)
      rw [e1]
      exact hT w hw k k0 k1
end
