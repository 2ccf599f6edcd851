/-! THE LAW, 8: constructors -/
section
variable {s s1 s2 : zS} {V V1 V2 : zV} {o lo hi : Nat}
/-- rows below hi are as they were, but for the contents of row o -/
def zAg (o hi : Nat) (s : zS) (V : zV) (s' : zS) (V' : zV) : Prop := ∀ r, r < hi → s'.tg r = s.tg r ∧ s'.ln r = s.ln r ∧ (r ≠ o → V' r = V r)
theorem zAg.rf : zAg o hi s V s V := fun _ _ => ⟨rfl, rfl, fun _ => rfl⟩
theorem zAg.tr (h : zAg o hi s V s1 V1) (h' : zAg o hi s1 V1 s2 V2) : zAg o hi s V s2 V2 := fun r hr => ⟨(h' r hr).1.trans (h r hr).1, (h' r hr).2.1.trans (h r hr).2.1, fun n => ((h' r hr).2.2 n).trans ((h r hr).2.2 n)⟩
theorem zAg.mono (h : zAg o hi s V s1 V1) (hl : lo ≤ hi) : zAg o lo s V s1 V1 := fun r hr => h r (by omega)
theorem zAg.put {k : Int} {v : Value} (h : zAg o hi s V s1 V1) : zAg o hi s V s1 (zput V1 o k v) := fun r hr => ⟨(h r hr).1, (h r hr).2.1, fun n => (zput_row n).trans ((h r hr).2.2 n)⟩
/-- one new row at a -/
def zNe (a t : Nat) (n : Int) (k : Nat) (f : Int → Value) (s : zS) (V : zV) (s1 : zS) (V1 : zV) : Prop := s1.sz = a + 1 ∧ s1.sl = s.sl + k ∧ (s1.tg a = t ∧ s1.ln a = n ∧ V1 a = f) ∧ ∀ r, r < a → s1.tg r = s.tg r ∧ s1.ln r = s.ln r ∧ V1 r = V r
theorem zNe.is {a t : Nat} {n : Int} {k : Nat} {f : Int → Value} (ha : s.sz = a) : zNe a t n k f s V (s.new t n k) (zrow V s.sz f) := by
  subst ha
  refine ⟨rfl, rfl, ⟨if_pos rfl, if_pos rfl, zrow_at⟩, fun r hr => ?_⟩
  have e : ¬ r = s.1 := fun q => by
    have q : r = s.sz := q
    omega
  exact ⟨if_neg e, if_neg e, zrow_r (by omega)⟩
/-- a new row of n' new rows at a -/
def zNmm (a t u n' : Nat) (k : Int) (c : Nat) (v : Value) (s : zS) (V : zV) (s1 : zS) (V1 : zV) : Prop := s1.sz = a + 1 + n' ∧ s1.sl = s.sl + c ∧ (s1.tg a = t ∧ s1.ln a = n' ∧ ∀ j : Nat, V1 a j = .ref (a + 1 + j)) ∧ (∀ i : Nat, i < n' → s1.tg (a + 1 + i) = u ∧ s1.ln (a + 1 + i) = k ∧ V1 (a + 1 + i) = fun _ => v) ∧ ∀ r, r < a → s1.tg r = s.tg r ∧ s1.ln r = s.ln r ∧ V1 r = V r
theorem zNmm.is {a t u n' : Nat} {n k : Int} {c : Nat} {v : Value} (ha : s.sz = a) (hn : n = (n' : Int)) (hc : n' + n' * k.toNat = c) : zNmm a t u n' k c v s V (zHnews (s.new t n n.toNat, zrow V s.sz (fun j => .ref (s.sz + 1 + j.toNat))) u k v n.toNat).1 (zHnews (s.new t n n.toNat, zrow V s.sz (fun j => .ref (s.sz + 1 + j.toNat))) u k v n.toNat).2 := by
  obtain ⟨y1, y2, ⟨y3, y4, y5⟩, y6⟩ := zNe.is (s := s) (V := V) (t := t) (n := n) (k := n.toNat) (f := fun j => .ref (s.sz + 1 + j.toNat)) ha
  obtain ⟨z1, z2, z3, z4, z5⟩ := zHnews_f (s.new t n n.toNat, zrow V s.sz (fun j => .ref (s.sz + 1 + j.toNat))) u k v n.toNat
  generalize zHnews (s.new t n n.toNat, zrow V s.sz (fun j => .ref (s.sz + 1 + j.toNat))) u k v n.toNat = R at z1 z2 z3 z4 z5 ⊢
  have e : n.toNat = n' := by omega
  dsimp only at z1 z2 z3 z4 z5
  rw [y1, e] at z1
  rw [y2, e] at z2
  simp only [y1] at z3 z4 z5
  simp only [e] at z3 z4 z5
  refine ⟨z1, by omega, ⟨?_, ?_, fun j => ?_⟩, fun i hi => ?_, fun r hr => ?_⟩
  · rw [z3, if_neg (by omega)]; exact y3
  · rw [z4, if_neg (by omega)]; exact y4.trans hn
  · rw [z5, if_neg (by omega), y5]
    show Value.ref (s.sz + 1 + ((j : Int)).toNat) = _
    rw [ha, Int.toNat_natCast]
  · rw [z3, z4, z5, if_pos (by omega), if_pos (by omega), if_pos (by omega)]
    exact ⟨rfl, rfl, rfl⟩
  · rw [z3, z4, z5, if_neg (by omega), if_neg (by omega), if_neg (by omega)]
    exact y6 r hr
end
section
variable {d m : Nat} {Q : zO → zH → Prop} {r : List Instr} {L st : List Value} {s : zS} {V : zV}
theorem r_newQ (a : Nat) {t k : Nat} (ha : s.sz = a) (hk : zNf t = k) (hQ : ∀ s1 V1, zNe a t 0 k (zDf t) s V s1 V1 → zwp (zcall d) m Q r L (.ref a :: st) (s1, V1)) : zwp (zcall d) m Q (.new t :: r) L st (s, V) := by
  rw [zw]
  subst hk
  have := hQ _ _ (zNe.is ha)
  subst ha
  exact this
theorem r_intQ (a : Nat) {n : Int} {k : Nat} (ha : s.sz = a) (hk : n.toNat = k) (h1 : 0 ≤ n) (h2 : n ≤ 1000000) (hQ : ∀ s1 V1, zNe a 20 n k (fun _ => zi 0) s V s1 V1 → zwp (zcall d) m Q r L (.ref a :: st) (s1, V1)) : zwp (zcall d) m Q (.newarray .int :: r) L (zi n :: st) (s, V) := by
  rw [r_newa_int h1 h2]
  subst hk
  have := hQ _ _ (zNe.is ha)
  subst ha
  exact this
theorem r_longQ (a : Nat) {n : Int} {k : Nat} (ha : s.sz = a) (hk : n.toNat = k) (h1 : 0 ≤ n) (h2 : n ≤ 1000000) (hQ : ∀ s1 V1, zNe a 21 n k (fun _ => .long 0) s V s1 V1 → zwp (zcall d) m Q r L (.ref a :: st) (s1, V1)) : zwp (zcall d) m Q (.newarray .long :: r) L (zi n :: st) (s, V) := by
  rw [r_newa_long h1 h2]
  subst hk
  have := hQ _ _ (zNe.is ha)
  subst ha
  exact this
theorem r_doubleQ (a : Nat) {n : Int} {k : Nat} (ha : s.sz = a) (hk : n.toNat = k) (h1 : 0 ≤ n) (h2 : n ≤ 1000000) (hQ : ∀ s1 V1, zNe a 22 n k (fun _ => .double 0) s V s1 V1 → zwp (zcall d) m Q r L (.ref a :: st) (s1, V1)) : zwp (zcall d) m Q (.newarray .double :: r) L (zi n :: st) (s, V) := by
  rw [r_newa_double h1 h2]
  subst hk
  have := hQ _ _ (zNe.is ha)
  subst ha
  exact this
theorem r_booleanQ (a : Nat) {n : Int} {k : Nat} (ha : s.sz = a) (hk : n.toNat = k) (h1 : 0 ≤ n) (h2 : n ≤ 1000000) (hQ : ∀ s1 V1, zNe a 23 n k (fun _ => zi 0) s V s1 V1 → zwp (zcall d) m Q r L (.ref a :: st) (s1, V1)) : zwp (zcall d) m Q (.newarray .boolean :: r) L (zi n :: st) (s, V) := by
  rw [r_newa_boolean h1 h2]
  subst hk
  have := hQ _ _ (zNe.is ha)
  subst ha
  exact this
theorem r_anewQ (a : Nat) {n : Int} {k : Nat} {b : Nat} (ha : s.sz = a) (hk : n.toNat = k) (h1 : 0 ≤ n) (h2 : n ≤ 1000000) (hQ : ∀ s1 V1, zNe a 26 n k (fun _ => .null) s V s1 V1 → zwp (zcall d) m Q r L (.ref a :: st) (s1, V1)) : zwp (zcall d) m Q (.anewarray b :: r) L (zi n :: st) (s, V) := by
  rw [r_anew h1 h2]
  subst hk
  have := hQ _ _ (zNe.is ha)
  subst ha
  exact this
theorem r_mnaQ_0 (a n' c : Nat) {n k : Int} (ha : s.sz = a) (hn : n = (n' : Int)) (hc : n' + n' * k.toNat = c) (h1 : 0 ≤ n) (h2 : n ≤ 1000000) (h3 : 0 ≤ k) (h4 : k ≤ 1000000) (hQ : ∀ s1 V1, zNmm a 24 20 n' k c (zi 0) s V s1 V1 → zwp (zcall d) m Q r L (.ref a :: st) (s1, V1)) : zwp (zcall d) m Q (.multianewarray 0 2 :: r) L (zi k :: zi n :: st) (s, V) := by
  rw [r_mna_0 h1 h2 h3 h4]
  have := hQ _ _ (zNmm.is ha hn hc)
  subst ha
  exact this
theorem r_mnaQ_1 (a n' c : Nat) {n k : Int} (ha : s.sz = a) (hn : n = (n' : Int)) (hc : n' + n' * k.toNat = c) (h1 : 0 ≤ n) (h2 : n ≤ 1000000) (h3 : 0 ≤ k) (h4 : k ≤ 1000000) (hQ : ∀ s1 V1, zNmm a 25 21 n' k c (.long 0) s V s1 V1 → zwp (zcall d) m Q r L (.ref a :: st) (s1, V1)) : zwp (zcall d) m Q (.multianewarray 1 2 :: r) L (zi k :: zi n :: st) (s, V) := by
  rw [r_mna_1 h1 h2 h3 h4]
  have := hQ _ _ (zNmm.is ha hn hc)
  subst ha
  exact this
end
section
variable {d : Nat} {s : zS} {V : zV} {Q : zO → zH → Prop}
def zR0 : zR := (0, 0, fun _ _ => 0, fun _ _ => 0)
set_option maxRecDepth 20000 in
theorem i_Serving {a : Nat} (hd : 1 ≤ d) : zcall d 57 [.ref a] (s, V) Q = Q (.inl none) (s, V) := by
  obtain ⟨d, rfl⟩ : ∃ e, d = e + 1 := ⟨d - 1, by omega⟩
  simp (disch := first | assumption | omega) only [zc_57]
  simp (disch := first | assumption | exact zk_57 | ((repeat (first | exact z1n | refine z1I ?_ | refine z1R ?_)); done) | exact rfl | omega | decide) only [zb_57_0, r_aload_0, r_objI, r_ret, ↓reduceIte, not_true_eq_false, not_false_eq_true, Int.reduceEq, Int.reduceLE, Int.reduceLT, Int.reduceAdd, Int.reduceNeg, Int.reduceMul, Int.reduceSub, Int.reduceToNat]
set_option maxRecDepth 20000 in
theorem i_State {a : Nat} (hd : 2 ≤ d) (hsz : s.sz = a + 1) (ht : s.tg a = 7) (hQ : ∀ s' V', s'.sz = a + 18 → s'.sl = s.sl + 267 → zAg a (a + 1) s V s' V' → zStP s' V' a → zStC zR0 V' a → Q (.inl none) (s', V')) : zcall d 65 [.ref a] (s, V) Q := by
  obtain ⟨d, rfl⟩ : ∃ e, d = e + 1 := ⟨d - 1, by omega⟩
  simp (disch := first | assumption | omega) only [zc_65]
  have ta0 : s.tg a = 7 := ht
  simp (disch := first | assumption | exact zk_65 | ((repeat (first | exact z1n | refine z1I ?_ | refine z1R ?_)); done) | exact rfl | omega | decide) only [zb_65_0, r_aload_0, r_objI, r_iconst, r_pf_448, r_pf_449, r_pf_450, r_pf_451, r_ret, ↓reduceIte, not_true_eq_false, not_false_eq_true, Int.reduceEq, Int.reduceLE, Int.reduceLT, Int.reduceAdd, Int.reduceNeg, Int.reduceMul, Int.reduceSub, Int.reduceToNat]
  refine r_mnaQ_0 (a + 1) 9 117 (by omega) rfl rfl (by omega) (by omega) (by omega) (by omega) (fun s1 V1 z => ?_)
  obtain ⟨e1, k1, ⟨t1, n1, v1⟩, w1, g1⟩ := z
  have ta1 : s1.tg a = 7 := (g1 a (by omega)).1.trans ta0
  simp (disch := first | assumption | exact zk_65 | ((repeat (first | exact z1n | refine z1I ?_ | refine z1R ?_)); done) | exact rfl | omega | decide) only [r_aload_0, r_objI, r_iconst, r_pf_448, r_pf_449, r_pf_450, r_pf_451, r_ret, ↓reduceIte, not_true_eq_false, not_false_eq_true, Int.reduceEq, Int.reduceLE, Int.reduceLT, Int.reduceAdd, Int.reduceNeg, Int.reduceMul, Int.reduceSub, Int.reduceToNat]
  refine r_mnaQ_0 (a + 11) 6 150 (by omega) rfl rfl (by omega) (by omega) (by omega) (by omega) (fun s2 V2 z => ?_)
  obtain ⟨e2, k2, ⟨t2, n2, v2⟩, w2, g2⟩ := z
  have ta2 : s2.tg a = 7 := (g2 a (by omega)).1.trans ta1
  simp (disch := first | assumption | exact zk_65 | ((repeat (first | exact z1n | refine z1I ?_ | refine z1R ?_)); done) | exact rfl | omega | decide) only [r_aload_0, r_objI, r_iconst, r_pf_448, r_pf_449, r_pf_450, r_pf_451, r_ret, ↓reduceIte, not_true_eq_false, not_false_eq_true, Int.reduceEq, Int.reduceLE, Int.reduceLT, Int.reduceAdd, Int.reduceNeg, Int.reduceMul, Int.reduceSub, Int.reduceToNat]
  refine hQ _ _ (by omega) (by omega) (fun r hr => ⟨((g2 r (by omega)).1.trans ((g1 r (by omega)).1.trans rfl)), ((g2 r (by omega)).2.1.trans ((g1 r (by omega)).2.1.trans rfl)), fun n => (by rw [zput_row n, (g2 r (by omega)).2.2, zput_row n, (g1 r (by omega)).2.2, zput_row n, zput_row n])⟩) ⟨((g2 a (by omega)).1.trans ((g1 a (by omega)).1.trans ht)), (by rw [zput_k (k := 3) (k' := 2) (by decide), (g2 a (by omega)).2.2, zput_at]), ((g2 (a + 1) (by omega)).1.trans t1), ((g2 (a + 1) (by omega)).2.1.trans n1), (by rw [zput_at]), t2, n2, fun k hk => ?_, fun k hk => ?_⟩ ⟨(by rw [zput_k (k := 3) (k' := 0) (by decide), (g2 a (by omega)).2.2, zput_k (k := 2) (k' := 0) (by decide), (g1 a (by omega)).2.2, zput_k (k := 1) (k' := 0) (by decide), zput_at]; rfl), (by rw [zput_k (k := 3) (k' := 1) (by decide), (g2 a (by omega)).2.2, zput_k (k := 2) (k' := 1) (by decide), (g1 a (by omega)).2.2, zput_at]; rfl), fun k hk x x0 x1 => absurd x1 (by show ¬ x < 0; omega), fun k hk x x0 x1 => absurd x1 (by show ¬ x < 0; omega), fun x x0 x1 => absurd x1 (by show ¬ x < 0; omega)⟩
  · obtain ⟨w3, w4, w5⟩ := w1 k hk
    have e : a + 1 + 1 + k = a + 2 + k := by omega
    rw [e] at w3 w4
    exact ⟨by rw [zput_row (by omega), (g2 (a + 1) (by omega)).2.2, zput_row (by omega), v1 k, e], (g2 _ (by omega)).1.trans w3, (g2 _ (by omega)).2.1.trans w4⟩
  · obtain ⟨w3, w4, w5⟩ := w2 k hk
    have e : a + 11 + 1 + k = a + 12 + k := by omega
    rw [e] at w3 w4
    exact ⟨by rw [zput_row (by omega), v2 k, e], w3, w4⟩
set_option maxRecDepth 20000 in
theorem i_Graph (hd : 2 ≤ d) (hsz : s.sz = 117) (ht : s.tg 116 = 2) (hQ : ∀ s' V', s'.sz = 121 → s'.sl = s.sl + 48 → zAg 116 117 s V s' V' → zGP s' V' → Q (.inl none) (s', V')) : zcall d 17 [.ref 116] (s, V) Q := by
  obtain ⟨d, rfl⟩ : ∃ e, d = e + 1 := ⟨d - 1, by omega⟩
  simp (disch := first | assumption | omega) only [zc_17]
  have ta0 : s.tg 116 = 2 := ht
  simp (disch := first | assumption | exact zk_17 | ((repeat (first | exact z1n | refine z1I ?_ | refine z1R ?_)); done) | exact rfl | omega | decide) only [zb_17_0, r_aload_0, r_objI, r_iconst, r_pf_128, r_pf_129, r_pf_130, r_pf_131, r_pf_132, r_ret, ↓reduceIte, not_true_eq_false, not_false_eq_true, Int.reduceEq, Int.reduceLE, Int.reduceLT, Int.reduceAdd, Int.reduceNeg, Int.reduceMul, Int.reduceSub, Int.reduceToNat]
  refine r_intQ 117 (by omega) rfl (by omega) (by omega) (fun s1 V1 z => ?_)
  obtain ⟨e1, k1, ⟨t1, n1, v1⟩, g1⟩ := z
  have ta1 : s1.tg 116 = 2 := (g1 116 (by omega)).1.trans ta0
  simp (disch := first | assumption | exact zk_17 | ((repeat (first | exact z1n | refine z1I ?_ | refine z1R ?_)); done) | exact rfl | omega | decide) only [r_aload_0, r_objI, r_iconst, r_pf_128, r_pf_129, r_pf_130, r_pf_131, r_pf_132, r_ret, ↓reduceIte, not_true_eq_false, not_false_eq_true, Int.reduceEq, Int.reduceLE, Int.reduceLT, Int.reduceAdd, Int.reduceNeg, Int.reduceMul, Int.reduceSub, Int.reduceToNat]
  refine r_intQ 118 (by omega) rfl (by omega) (by omega) (fun s2 V2 z => ?_)
  obtain ⟨e2, k2, ⟨t2, n2, v2⟩, g2⟩ := z
  have ta2 : s2.tg 116 = 2 := (g2 116 (by omega)).1.trans ta1
  simp (disch := first | assumption | exact zk_17 | ((repeat (first | exact z1n | refine z1I ?_ | refine z1R ?_)); done) | exact rfl | omega | decide) only [r_aload_0, r_objI, r_iconst, r_pf_128, r_pf_129, r_pf_130, r_pf_131, r_pf_132, r_ret, ↓reduceIte, not_true_eq_false, not_false_eq_true, Int.reduceEq, Int.reduceLE, Int.reduceLT, Int.reduceAdd, Int.reduceNeg, Int.reduceMul, Int.reduceSub, Int.reduceToNat]
  refine r_intQ 119 (by omega) rfl (by omega) (by omega) (fun s3 V3 z => ?_)
  obtain ⟨e3, k3, ⟨t3, n3, v3⟩, g3⟩ := z
  have ta3 : s3.tg 116 = 2 := (g3 116 (by omega)).1.trans ta2
  simp (disch := first | assumption | exact zk_17 | ((repeat (first | exact z1n | refine z1I ?_ | refine z1R ?_)); done) | exact rfl | omega | decide) only [r_aload_0, r_objI, r_iconst, r_pf_128, r_pf_129, r_pf_130, r_pf_131, r_pf_132, r_ret, ↓reduceIte, not_true_eq_false, not_false_eq_true, Int.reduceEq, Int.reduceLE, Int.reduceLT, Int.reduceAdd, Int.reduceNeg, Int.reduceMul, Int.reduceSub, Int.reduceToNat]
  refine r_intQ 120 (by omega) rfl (by omega) (by omega) (fun s4 V4 z => ?_)
  obtain ⟨e4, k4, ⟨t4, n4, v4⟩, g4⟩ := z
  have ta4 : s4.tg 116 = 2 := (g4 116 (by omega)).1.trans ta3
  simp (disch := first | assumption | exact zk_17 | ((repeat (first | exact z1n | refine z1I ?_ | refine z1R ?_)); done) | exact rfl | omega | decide) only [r_aload_0, r_objI, r_iconst, r_pf_128, r_pf_129, r_pf_130, r_pf_131, r_pf_132, r_ret, ↓reduceIte, not_true_eq_false, not_false_eq_true, Int.reduceEq, Int.reduceLE, Int.reduceLT, Int.reduceAdd, Int.reduceNeg, Int.reduceMul, Int.reduceSub, Int.reduceToNat]
  refine hQ _ _ (by omega) (by omega) (fun r hr => ⟨((g4 r (by omega)).1.trans ((g3 r (by omega)).1.trans ((g2 r (by omega)).1.trans ((g1 r (by omega)).1.trans rfl)))), ((g4 r (by omega)).2.1.trans ((g3 r (by omega)).2.1.trans ((g2 r (by omega)).2.1.trans ((g1 r (by omega)).2.1.trans rfl)))), fun n => (by rw [zput_row n, (g4 r (by omega)).2.2, zput_row n, (g3 r (by omega)).2.2, zput_row n, zput_row n, (g2 r (by omega)).2.2, zput_row n, (g1 r (by omega)).2.2])⟩) ⟨((g4 116 (by omega)).1.trans ((g3 116 (by omega)).1.trans ((g2 116 (by omega)).1.trans ((g1 116 (by omega)).1.trans ht)))), ⟨(by rw [zput_k (k := 4) (k' := 0) (by decide), (g4 116 (by omega)).2.2, zput_k (k := 3) (k' := 0) (by decide), (g3 116 (by omega)).2.2, zput_k (k := 2) (k' := 0) (by decide), zput_k (k := 1) (k' := 0) (by decide), (g2 116 (by omega)).2.2, zput_at]), (by rw [zput_k (k := 4) (k' := 1) (by decide), (g4 116 (by omega)).2.2, zput_k (k := 3) (k' := 1) (by decide), (g3 116 (by omega)).2.2, zput_k (k := 2) (k' := 1) (by decide), zput_at]), (by rw [zput_k (k := 4) (k' := 3) (by decide), (g4 116 (by omega)).2.2, zput_at]), (by rw [zput_at])⟩, ⟨((g4 117 (by omega)).1.trans ((g3 117 (by omega)).1.trans ((g2 117 (by omega)).1.trans t1))), ((g4 118 (by omega)).1.trans ((g3 118 (by omega)).1.trans t2)), ((g4 119 (by omega)).1.trans t3), t4⟩, ((g4 117 (by omega)).2.1.trans ((g3 117 (by omega)).2.1.trans ((g2 117 (by omega)).2.1.trans n1))), ((g4 118 (by omega)).2.1.trans ((g3 118 (by omega)).2.1.trans n2)), ((g4 119 (by omega)).2.1.trans n3), n4⟩
set_option maxRecDepth 20000 in
theorem i_Request (hd : 2 ≤ d) (hsz : s.sz = 122) (ht : s.tg 121 = 5) (hQ : ∀ s' V', s'.sz = 132 → s'.sl = s.sl + 1048 → zAg 121 122 s V s' V' → zRqP s' V' → (V' 121 0 = zi 0 ∧ V' 121 6 = zi 0 ∧ V' 121 7 = zi 0) → Q (.inl none) (s', V')) : zcall d 46 [.ref 121] (s, V) Q := by
  obtain ⟨d, rfl⟩ : ∃ e, d = e + 1 := ⟨d - 1, by omega⟩
  simp (disch := first | assumption | omega) only [zc_46]
  have ta0 : s.tg 121 = 5 := ht
  simp (disch := first | assumption | exact zk_46 | ((repeat (first | exact z1n | refine z1I ?_ | refine z1R ?_)); done) | exact rfl | omega | decide) only [zb_46_0, r_aload_0, r_inv_1_0, r_inv_1_1, r_inv_1_2, r_inv_1_3, r_inv_1_4, r_K0, r_K1, r_iconst, r_pf_320_0, r_pf_320_1, r_pf_320, r_pf_321, r_pf_322, r_pf_323, r_pf_324, r_pf_325, r_pf_326, r_pf_327, r_pf_328, r_pf_329, r_ret, i_Serving (d := d), ↓reduceIte, not_true_eq_false, not_false_eq_true, Int.reduceEq, Int.reduceLE, Int.reduceLT, Int.reduceAdd, Int.reduceNeg, Int.reduceMul, Int.reduceSub, Int.reduceToNat]
  refine r_mnaQ_0 122 4 244 (by omega) rfl rfl (by omega) (by omega) (by omega) (by omega) (fun s1 V1 z => ?_)
  obtain ⟨e1, k1, ⟨t1, n1, v1⟩, w1, g1⟩ := z
  have ta1 : s1.tg 121 = 5 := (g1 121 (by omega)).1.trans ta0
  simp (disch := first | assumption | exact zk_46 | ((repeat (first | exact z1n | refine z1I ?_ | refine z1R ?_)); done) | exact rfl | omega | decide) only [r_aload_0, r_inv_1_0, r_inv_1_1, r_inv_1_2, r_inv_1_3, r_inv_1_4, r_K0, r_K1, r_iconst, r_pf_320_0, r_pf_320_1, r_pf_320, r_pf_321, r_pf_322, r_pf_323, r_pf_324, r_pf_325, r_pf_326, r_pf_327, r_pf_328, r_pf_329, r_ret, ↓reduceIte, not_true_eq_false, not_false_eq_true, Int.reduceEq, Int.reduceLE, Int.reduceLT, Int.reduceAdd, Int.reduceNeg, Int.reduceMul, Int.reduceSub, Int.reduceToNat]
  refine r_mnaQ_0 127 4 804 (by omega) rfl rfl (by omega) (by omega) (by omega) (by omega) (fun s2 V2 z => ?_)
  obtain ⟨e2, k2, ⟨t2, n2, v2⟩, w2, g2⟩ := z
  have ta2 : s2.tg 121 = 5 := (g2 121 (by omega)).1.trans ta1
  simp (disch := first | assumption | exact zk_46 | ((repeat (first | exact z1n | refine z1I ?_ | refine z1R ?_)); done) | exact rfl | omega | decide) only [r_aload_0, r_inv_1_0, r_inv_1_1, r_inv_1_2, r_inv_1_3, r_inv_1_4, r_K0, r_K1, r_iconst, r_pf_320_0, r_pf_320_1, r_pf_320, r_pf_321, r_pf_322, r_pf_323, r_pf_324, r_pf_325, r_pf_326, r_pf_327, r_pf_328, r_pf_329, r_ret, ↓reduceIte, not_true_eq_false, not_false_eq_true, Int.reduceEq, Int.reduceLE, Int.reduceLT, Int.reduceAdd, Int.reduceNeg, Int.reduceMul, Int.reduceSub, Int.reduceToNat]
  refine hQ _ _ (by omega) (by omega) (fun r hr => ⟨((g2 r (by omega)).1.trans ((g1 r (by omega)).1.trans rfl)), ((g2 r (by omega)).2.1.trans ((g1 r (by omega)).2.1.trans rfl)), fun n => (by rw [zput_row n, (g2 r (by omega)).2.2, zput_row n, (g1 r (by omega)).2.2, zput_row n, zput_row n, zput_row n, zput_row n, zput_row n, zput_row n, zput_row n, zput_row n])⟩) ⟨((g2 121 (by omega)).1.trans ((g1 121 (by omega)).1.trans ht)), ⟨(by rw [zput_k (k := 9) (k' := 8) (by decide), (g2 121 (by omega)).2.2, zput_at]), (by rw [zput_at])⟩, ⟨((g2 122 (by omega)).1.trans t1), ((g2 122 (by omega)).2.1.trans n1)⟩, ⟨t2, n2⟩, fun w hw => ?_, fun w hw => ?_⟩ ⟨(by rw [zput_k (k := 9) (k' := 0) (by decide), (g2 121 (by omega)).2.2, zput_k (k := 8) (k' := 0) (by decide), (g1 121 (by omega)).2.2, zput_k (k := 7) (k' := 0) (by decide), zput_k (k := 6) (k' := 0) (by decide), zput_k (k := 5) (k' := 0) (by decide), zput_k (k := 4) (k' := 0) (by decide), zput_k (k := 3) (k' := 0) (by decide), zput_k (k := 2) (k' := 0) (by decide), zput_k (k := 1) (k' := 0) (by decide), zput_at]), (by rw [zput_k (k := 9) (k' := 6) (by decide), (g2 121 (by omega)).2.2, zput_k (k := 8) (k' := 6) (by decide), (g1 121 (by omega)).2.2, zput_k (k := 7) (k' := 6) (by decide), zput_at]), (by rw [zput_k (k := 9) (k' := 7) (by decide), (g2 121 (by omega)).2.2, zput_k (k := 8) (k' := 7) (by decide), (g1 121 (by omega)).2.2, zput_at])⟩
  · obtain ⟨w3, w4, w5⟩ := w1 w hw
    have e : 122 + 1 + w = 123 + w := by omega
    rw [e] at w3 w4
    exact ⟨by rw [zput_row (by omega), (g2 122 (by omega)).2.2, zput_row (by omega), v1 w, e], (g2 _ (by omega)).1.trans w3, (g2 _ (by omega)).2.1.trans w4⟩
  · obtain ⟨w3, w4, w5⟩ := w2 w hw
    have e : 127 + 1 + w = 128 + w := by omega
    rw [e] at w3 w4
    exact ⟨by rw [zput_row (by omega), v2 w, e], w3, w4⟩
set_option maxRecDepth 20000 in
theorem i_BudgetSearch (hd : 2 ≤ d) (hsz : s.sz = 133) (ht : s.tg 132 = 0) (hQ : ∀ s' V', s'.sz = 134 → s'.sl = s.sl + 0 → zAg 132 133 s V s' V' → (s'.tg 132 = 0 ∧ V' 132 0 = .ref 133 ∧ s'.tg 133 = 20 ∧ s'.ln 133 = 0) → Q (.inl none) (s', V')) : zcall d 0 [.ref 132] (s, V) Q := by
  obtain ⟨d, rfl⟩ : ∃ e, d = e + 1 := ⟨d - 1, by omega⟩
  simp (disch := first | assumption | omega) only [zc_0]
  have ta0 : s.tg 132 = 0 := ht
  simp (disch := first | assumption | exact zk_0 | ((repeat (first | exact z1n | refine z1I ?_ | refine z1R ?_)); done) | exact rfl | omega | decide) only [zb_0_0, r_aload_0, r_inv_1_0, r_inv_1_1, r_inv_1_2, r_inv_1_3, r_inv_1_4, r_K0, r_K1, r_iconst, r_pf_0, r_ret, i_Serving (d := d), ↓reduceIte, not_true_eq_false, not_false_eq_true, Int.reduceEq, Int.reduceLE, Int.reduceLT, Int.reduceAdd, Int.reduceNeg, Int.reduceMul, Int.reduceSub, Int.reduceToNat]
  refine r_intQ 133 (by omega) rfl (by omega) (by omega) (fun s1 V1 z => ?_)
  obtain ⟨e1, k1, ⟨t1, n1, v1⟩, g1⟩ := z
  have ta1 : s1.tg 132 = 0 := (g1 132 (by omega)).1.trans ta0
  simp (disch := first | assumption | exact zk_0 | ((repeat (first | exact z1n | refine z1I ?_ | refine z1R ?_)); done) | exact rfl | omega | decide) only [r_aload_0, r_inv_1_0, r_inv_1_1, r_inv_1_2, r_inv_1_3, r_inv_1_4, r_K0, r_K1, r_iconst, r_pf_0, r_ret, ↓reduceIte, not_true_eq_false, not_false_eq_true, Int.reduceEq, Int.reduceLE, Int.reduceLT, Int.reduceAdd, Int.reduceNeg, Int.reduceMul, Int.reduceSub, Int.reduceToNat]
  refine hQ _ _ (by omega) (by omega) (fun r hr => ⟨((g1 r (by omega)).1.trans rfl), ((g1 r (by omega)).2.1.trans rfl), fun n => (by rw [zput_row n, (g1 r (by omega)).2.2])⟩) ⟨((g1 132 (by omega)).1.trans ht), (by rw [zput_at]), t1, n1⟩
set_option maxRecDepth 20000 in
theorem i_Recovery (hd : 2 ≤ d) (hsz : s.sz = 135) (ht : s.tg 134 = 4) (hQ : ∀ s' V', s'.sz = 139 → s'.sl = s.sl + 36 → zAg 134 135 s V s' V' → zRvP s' V' → (V' 134 3 = .ref 138 ∧ s'.tg 138 = 20 ∧ s'.ln 138 = 0) → Q (.inl none) (s', V')) : zcall d 36 [.ref 134] (s, V) Q := by
  obtain ⟨d, rfl⟩ : ∃ e, d = e + 1 := ⟨d - 1, by omega⟩
  simp (disch := first | assumption | omega) only [zc_36]
  have ta0 : s.tg 134 = 4 := ht
  simp (disch := first | assumption | exact zk_36 | ((repeat (first | exact z1n | refine z1I ?_ | refine z1R ?_)); done) | exact rfl | omega | decide) only [zb_36_0, r_aload_0, r_objI, r_iconst, r_pf_256, r_pf_257, r_pf_258, r_pf_259, r_ret, ↓reduceIte, not_true_eq_false, not_false_eq_true, Int.reduceEq, Int.reduceLE, Int.reduceLT, Int.reduceAdd, Int.reduceNeg, Int.reduceMul, Int.reduceSub, Int.reduceToNat]
  refine r_intQ 135 (by omega) rfl (by omega) (by omega) (fun s1 V1 z => ?_)
  obtain ⟨e1, k1, ⟨t1, n1, v1⟩, g1⟩ := z
  have ta1 : s1.tg 134 = 4 := (g1 134 (by omega)).1.trans ta0
  simp (disch := first | assumption | exact zk_36 | ((repeat (first | exact z1n | refine z1I ?_ | refine z1R ?_)); done) | exact rfl | omega | decide) only [r_aload_0, r_objI, r_iconst, r_pf_256, r_pf_257, r_pf_258, r_pf_259, r_ret, ↓reduceIte, not_true_eq_false, not_false_eq_true, Int.reduceEq, Int.reduceLE, Int.reduceLT, Int.reduceAdd, Int.reduceNeg, Int.reduceMul, Int.reduceSub, Int.reduceToNat]
  refine r_intQ 136 (by omega) rfl (by omega) (by omega) (fun s2 V2 z => ?_)
  obtain ⟨e2, k2, ⟨t2, n2, v2⟩, g2⟩ := z
  have ta2 : s2.tg 134 = 4 := (g2 134 (by omega)).1.trans ta1
  simp (disch := first | assumption | exact zk_36 | ((repeat (first | exact z1n | refine z1I ?_ | refine z1R ?_)); done) | exact rfl | omega | decide) only [r_aload_0, r_objI, r_iconst, r_pf_256, r_pf_257, r_pf_258, r_pf_259, r_ret, ↓reduceIte, not_true_eq_false, not_false_eq_true, Int.reduceEq, Int.reduceLE, Int.reduceLT, Int.reduceAdd, Int.reduceNeg, Int.reduceMul, Int.reduceSub, Int.reduceToNat]
  refine r_intQ 137 (by omega) rfl (by omega) (by omega) (fun s3 V3 z => ?_)
  obtain ⟨e3, k3, ⟨t3, n3, v3⟩, g3⟩ := z
  have ta3 : s3.tg 134 = 4 := (g3 134 (by omega)).1.trans ta2
  simp (disch := first | assumption | exact zk_36 | ((repeat (first | exact z1n | refine z1I ?_ | refine z1R ?_)); done) | exact rfl | omega | decide) only [r_aload_0, r_objI, r_iconst, r_pf_256, r_pf_257, r_pf_258, r_pf_259, r_ret, ↓reduceIte, not_true_eq_false, not_false_eq_true, Int.reduceEq, Int.reduceLE, Int.reduceLT, Int.reduceAdd, Int.reduceNeg, Int.reduceMul, Int.reduceSub, Int.reduceToNat]
  refine r_intQ 138 (by omega) rfl (by omega) (by omega) (fun s4 V4 z => ?_)
  obtain ⟨e4, k4, ⟨t4, n4, v4⟩, g4⟩ := z
  have ta4 : s4.tg 134 = 4 := (g4 134 (by omega)).1.trans ta3
  simp (disch := first | assumption | exact zk_36 | ((repeat (first | exact z1n | refine z1I ?_ | refine z1R ?_)); done) | exact rfl | omega | decide) only [r_aload_0, r_objI, r_iconst, r_pf_256, r_pf_257, r_pf_258, r_pf_259, r_ret, ↓reduceIte, not_true_eq_false, not_false_eq_true, Int.reduceEq, Int.reduceLE, Int.reduceLT, Int.reduceAdd, Int.reduceNeg, Int.reduceMul, Int.reduceSub, Int.reduceToNat]
  refine hQ _ _ (by omega) (by omega) (fun r hr => ⟨((g4 r (by omega)).1.trans ((g3 r (by omega)).1.trans ((g2 r (by omega)).1.trans ((g1 r (by omega)).1.trans rfl)))), ((g4 r (by omega)).2.1.trans ((g3 r (by omega)).2.1.trans ((g2 r (by omega)).2.1.trans ((g1 r (by omega)).2.1.trans rfl)))), fun n => (by rw [zput_row n, (g4 r (by omega)).2.2, zput_row n, (g3 r (by omega)).2.2, zput_row n, (g2 r (by omega)).2.2, zput_row n, (g1 r (by omega)).2.2])⟩) ⟨((g4 134 (by omega)).1.trans ((g3 134 (by omega)).1.trans ((g2 134 (by omega)).1.trans ((g1 134 (by omega)).1.trans ht)))), ⟨(by rw [zput_k (k := 3) (k' := 0) (by decide), (g4 134 (by omega)).2.2, zput_k (k := 2) (k' := 0) (by decide), (g3 134 (by omega)).2.2, zput_k (k := 1) (k' := 0) (by decide), (g2 134 (by omega)).2.2, zput_at]), (by rw [zput_k (k := 3) (k' := 1) (by decide), (g4 134 (by omega)).2.2, zput_k (k := 2) (k' := 1) (by decide), (g3 134 (by omega)).2.2, zput_at]), (by rw [zput_k (k := 3) (k' := 2) (by decide), (g4 134 (by omega)).2.2, zput_at])⟩, ⟨((g4 135 (by omega)).1.trans ((g3 135 (by omega)).1.trans ((g2 135 (by omega)).1.trans t1))), ((g4 135 (by omega)).2.1.trans ((g3 135 (by omega)).2.1.trans ((g2 135 (by omega)).2.1.trans n1)))⟩, ⟨((g4 136 (by omega)).1.trans ((g3 136 (by omega)).1.trans t2)), ((g4 136 (by omega)).2.1.trans ((g3 136 (by omega)).2.1.trans n2))⟩, ((g4 137 (by omega)).1.trans t3), ((g4 137 (by omega)).2.1.trans n3)⟩ ⟨(by rw [zput_at]), t4, n4⟩
set_option maxRecDepth 20000 in
theorem i_FailureSets (hd : 2 ≤ d) (hsz : s.sz = 140) (ht : s.tg 139 = 1) (hQ : ∀ s' V', s'.sz = 155 → s'.sl = s.sl + 844 → zAg 139 140 s V s' V' → zFP s' V' → (V' 139 2 = .ref 154 ∧ s'.tg 154 = 22 ∧ s'.ln 154 = 0) → Q (.inl none) (s', V')) : zcall d 6 [.ref 139] (s, V) Q := by
  obtain ⟨d, rfl⟩ : ∃ e, d = e + 1 := ⟨d - 1, by omega⟩
  simp (disch := first | assumption | omega) only [zc_6]
  have ta0 : s.tg 139 = 1 := ht
  simp (disch := first | assumption | exact zk_6 | ((repeat (first | exact z1n | refine z1I ?_ | refine z1R ?_)); done) | exact rfl | omega | decide) only [zb_6_0, r_aload_0, r_objI, r_iconst, r_pf_64, r_pf_65, r_pf_66, r_ret, ↓reduceIte, not_true_eq_false, not_false_eq_true, Int.reduceEq, Int.reduceLE, Int.reduceLT, Int.reduceAdd, Int.reduceNeg, Int.reduceMul, Int.reduceSub, Int.reduceToNat]
  refine r_mnaQ_1 140 12 780 (by omega) rfl rfl (by omega) (by omega) (by omega) (by omega) (fun s1 V1 z => ?_)
  obtain ⟨e1, k1, ⟨t1, n1, v1⟩, w1, g1⟩ := z
  have ta1 : s1.tg 139 = 1 := (g1 139 (by omega)).1.trans ta0
  simp (disch := first | assumption | exact zk_6 | ((repeat (first | exact z1n | refine z1I ?_ | refine z1R ?_)); done) | exact rfl | omega | decide) only [r_aload_0, r_objI, r_iconst, r_pf_64, r_pf_65, r_pf_66, r_ret, ↓reduceIte, not_true_eq_false, not_false_eq_true, Int.reduceEq, Int.reduceLE, Int.reduceLT, Int.reduceAdd, Int.reduceNeg, Int.reduceMul, Int.reduceSub, Int.reduceToNat]
  refine r_longQ 153 (by omega) rfl (by omega) (by omega) (fun s2 V2 z => ?_)
  obtain ⟨e2, k2, ⟨t2, n2, v2⟩, g2⟩ := z
  have ta2 : s2.tg 139 = 1 := (g2 139 (by omega)).1.trans ta1
  simp (disch := first | assumption | exact zk_6 | ((repeat (first | exact z1n | refine z1I ?_ | refine z1R ?_)); done) | exact rfl | omega | decide) only [r_aload_0, r_objI, r_iconst, r_pf_64, r_pf_65, r_pf_66, r_ret, ↓reduceIte, not_true_eq_false, not_false_eq_true, Int.reduceEq, Int.reduceLE, Int.reduceLT, Int.reduceAdd, Int.reduceNeg, Int.reduceMul, Int.reduceSub, Int.reduceToNat]
  refine r_doubleQ 154 (by omega) rfl (by omega) (by omega) (fun s3 V3 z => ?_)
  obtain ⟨e3, k3, ⟨t3, n3, v3⟩, g3⟩ := z
  have ta3 : s3.tg 139 = 1 := (g3 139 (by omega)).1.trans ta2
  simp (disch := first | assumption | exact zk_6 | ((repeat (first | exact z1n | refine z1I ?_ | refine z1R ?_)); done) | exact rfl | omega | decide) only [r_aload_0, r_objI, r_iconst, r_pf_64, r_pf_65, r_pf_66, r_ret, ↓reduceIte, not_true_eq_false, not_false_eq_true, Int.reduceEq, Int.reduceLE, Int.reduceLT, Int.reduceAdd, Int.reduceNeg, Int.reduceMul, Int.reduceSub, Int.reduceToNat]
  refine hQ _ _ (by omega) (by omega) (fun r hr => ⟨((g3 r (by omega)).1.trans ((g2 r (by omega)).1.trans ((g1 r (by omega)).1.trans rfl))), ((g3 r (by omega)).2.1.trans ((g2 r (by omega)).2.1.trans ((g1 r (by omega)).2.1.trans rfl))), fun n => (by rw [zput_row n, (g3 r (by omega)).2.2, zput_row n, (g2 r (by omega)).2.2, zput_row n, (g1 r (by omega)).2.2])⟩) ⟨((g3 139 (by omega)).1.trans ((g2 139 (by omega)).1.trans ((g1 139 (by omega)).1.trans ht))), ⟨(by rw [zput_k (k := 2) (k' := 0) (by decide), (g3 139 (by omega)).2.2, zput_k (k := 1) (k' := 0) (by decide), (g2 139 (by omega)).2.2, zput_at]), (by rw [zput_k (k := 2) (k' := 1) (by decide), (g3 139 (by omega)).2.2, zput_at])⟩, ⟨((g3 140 (by omega)).1.trans ((g2 140 (by omega)).1.trans t1)), ((g3 140 (by omega)).2.1.trans ((g2 140 (by omega)).2.1.trans n1))⟩, fun y hy => ?_, ((g3 153 (by omega)).1.trans t2), ((g3 153 (by omega)).2.1.trans n2)⟩ ⟨(by rw [zput_at]), t3, n3⟩
  · obtain ⟨w3, w4, w5⟩ := w1 y hy
    have e : 140 + 1 + y = 141 + y := by omega
    rw [e] at w3 w4
    exact ⟨by rw [zput_row (by omega), (g3 140 (by omega)).2.2, zput_row (by omega), (g2 140 (by omega)).2.2, zput_row (by omega), v1 y, e], (g3 _ (by omega)).1.trans ((g2 _ (by omega)).1.trans w3), (g3 _ (by omega)).2.1.trans ((g2 _ (by omega)).2.1.trans w4)⟩
set_option maxRecDepth 20000 in
theorem i_Text (hd : 2 ≤ d) (hsz : s.sz = 156) (ht : s.tg 155 = 8) (hQ : ∀ s' V', s'.sz = 164 → s'.sl = s.sl + 365 → zAg 155 156 s V s' V' → zTxP s' V' → zTxC (fun _ => 0) 0 V' → zTxI V' → Q (.inl none) (s', V')) : zcall d 102 [.ref 155] (s, V) Q := by
  obtain ⟨d, rfl⟩ : ∃ e, d = e + 1 := ⟨d - 1, by omega⟩
  simp (disch := first | assumption | omega) only [zc_102]
  have ta0 : s.tg 155 = 8 := ht
  simp (disch := first | assumption | exact zk_102 | ((repeat (first | exact z1n | refine z1I ?_ | refine z1R ?_)); done) | exact rfl | omega | decide) only [zb_102_0, r_aload_0, r_objI, r_iconst, r_pf_512, r_pf_513, r_pf_514, r_pf_515, r_ret, ↓reduceIte, not_true_eq_false, not_false_eq_true, Int.reduceEq, Int.reduceLE, Int.reduceLT, Int.reduceAdd, Int.reduceNeg, Int.reduceMul, Int.reduceSub, Int.reduceToNat]
  refine r_intQ 156 (by omega) rfl (by omega) (by omega) (fun s1 V1 z => ?_)
  obtain ⟨e1, k1, ⟨t1, n1, v1⟩, g1⟩ := z
  have ta1 : s1.tg 155 = 8 := (g1 155 (by omega)).1.trans ta0
  simp (disch := first | assumption | exact zk_102 | ((repeat (first | exact z1n | refine z1I ?_ | refine z1R ?_)); done) | exact rfl | omega | decide) only [r_aload_0, r_objI, r_iconst, r_pf_512, r_pf_513, r_pf_514, r_pf_515, r_ret, ↓reduceIte, not_true_eq_false, not_false_eq_true, Int.reduceEq, Int.reduceLE, Int.reduceLT, Int.reduceAdd, Int.reduceNeg, Int.reduceMul, Int.reduceSub, Int.reduceToNat]
  refine r_intQ 157 (by omega) rfl (by omega) (by omega) (fun s2 V2 z => ?_)
  obtain ⟨e2, k2, ⟨t2, n2, v2⟩, g2⟩ := z
  have ta2 : s2.tg 155 = 8 := (g2 155 (by omega)).1.trans ta1
  simp (disch := first | assumption | exact zk_102 | ((repeat (first | exact z1n | refine z1I ?_ | refine z1R ?_)); done) | exact rfl | omega | decide) only [r_aload_0, r_objI, r_iconst, r_pf_512, r_pf_513, r_pf_514, r_pf_515, r_ret, ↓reduceIte, not_true_eq_false, not_false_eq_true, Int.reduceEq, Int.reduceLE, Int.reduceLT, Int.reduceAdd, Int.reduceNeg, Int.reduceMul, Int.reduceSub, Int.reduceToNat]
  refine r_mnaQ_0 158 5 205 (by omega) rfl rfl (by omega) (by omega) (by omega) (by omega) (fun s3 V3 z => ?_)
  obtain ⟨e3, k3, ⟨t3, n3, v3⟩, w3, g3⟩ := z
  have ta3 : s3.tg 155 = 8 := (g3 155 (by omega)).1.trans ta2
  simp (disch := first | assumption | exact zk_102 | ((repeat (first | exact z1n | refine z1I ?_ | refine z1R ?_)); done) | exact rfl | omega | decide) only [r_aload_0, r_objI, r_iconst, r_pf_512, r_pf_513, r_pf_514, r_pf_515, r_ret, ↓reduceIte, not_true_eq_false, not_false_eq_true, Int.reduceEq, Int.reduceLE, Int.reduceLT, Int.reduceAdd, Int.reduceNeg, Int.reduceMul, Int.reduceSub, Int.reduceToNat]
  refine hQ _ _ (by omega) (by omega) (fun r hr => ⟨((g3 r (by omega)).1.trans ((g2 r (by omega)).1.trans ((g1 r (by omega)).1.trans rfl))), ((g3 r (by omega)).2.1.trans ((g2 r (by omega)).2.1.trans ((g1 r (by omega)).2.1.trans rfl))), fun n => (by rw [zput_row n, (g3 r (by omega)).2.2, zput_row n, (g2 r (by omega)).2.2, zput_row n, zput_row n, (g1 r (by omega)).2.2])⟩) ⟨((g3 155 (by omega)).1.trans ((g2 155 (by omega)).1.trans ((g1 155 (by omega)).1.trans ht))), ⟨(by rw [zput_k (k := 3) (k' := 0) (by decide), (g3 155 (by omega)).2.2, zput_k (k := 2) (k' := 0) (by decide), (g2 155 (by omega)).2.2, zput_k (k := 1) (k' := 0) (by decide), zput_at]), (by rw [zput_k (k := 3) (k' := 2) (by decide), (g3 155 (by omega)).2.2, zput_at]), (by rw [zput_at])⟩, ⟨((g3 156 (by omega)).1.trans ((g2 156 (by omega)).1.trans t1)), ((g3 156 (by omega)).2.1.trans ((g2 156 (by omega)).2.1.trans n1))⟩, ⟨((g3 157 (by omega)).1.trans t2), ((g3 157 (by omega)).2.1.trans n2)⟩, ⟨t3, n3⟩, fun w hw => ?_⟩ ⟨(by rw [zput_k (k := 3) (k' := 1) (by decide), (g3 155 (by omega)).2.2, zput_k (k := 2) (k' := 1) (by decide), (g2 155 (by omega)).2.2, zput_at]), fun k k0 k1 => absurd k1 (by omega)⟩ (fun w hw i i0 i1 => ?_)
  · obtain ⟨w4, w5, w6⟩ := w3 w hw
    have e : 158 + 1 + w = 159 + w := by omega
    rw [e] at w4 w5
    exact ⟨by rw [zput_row (by omega), v3 w, e], w4, w5⟩
  · obtain ⟨w4, w5, w6⟩ := w3 w hw
    have e : 158 + 1 + w = 159 + w := by omega
    rw [e] at w6
    exact ⟨0, by rw [zput_row (by omega), w6]⟩
end
