/-! GRAPH, 1: the class's order; the model's order -/
def zFrg (lo hi : Nat) (V V' : zV) : Prop := ∀ r : Nat, r < lo ∨ hi ≤ r → V' r = V r
theorem zFrg.rf {lo hi : Nat} {V : zV} : zFrg lo hi V V := fun _ _ => rfl
theorem zFrg.tr {lo hi : Nat} {V V' V'' : zV} (h : zFrg lo hi V V') (h' : zFrg lo hi V' V'') : zFrg lo hi V V'' := fun r hr => (h' r hr).trans (h r hr)
theorem zFrg.p {lo hi r : Nat} {V V1 : zV} {k : Int} {v : Value} (h0 : zFrg lo hi V V1) (h : lo ≤ r) (h' : r < hi) : zFrg lo hi V (zput V1 r k v) := fun q hq => (zput_row (by omega)).trans (h0 q hq)
theorem zStP.frg {s : zS} {V V' : zV} {a lo hi : Nat} (hP : zStP s V a) (h : zFrg lo hi V V') (hr : a + 18 ≤ lo ∨ hi ≤ a) : zStP s V' a :=
  hP.of (by rw [h a (by omega)]) (by rw [h a (by omega)]) (h _ (by omega)) (h _ (by omega))
theorem zStC.frg {ρ : zR} {V V' : zV} {a lo hi : Nat} (hC : zStC ρ V a) (h : zFrg lo hi V V') (hr : a + 18 ≤ lo ∨ hi ≤ a) : zStC ρ V' a := by
  obtain ⟨c1, c2, c3, c4, c5⟩ := hC
  exact ⟨by rw [h a (by omega)]; exact c1, by rw [h a (by omega)]; exact c2, fun k hk x => by rw [h _ (by omega)]; exact c3 k hk x, fun k hk x => by rw [h _ (by omega)]; exact c4 k hk x, fun x => by rw [h _ (by omega)]; exact c5 x⟩
/-- the Graph object -/
def zGP (s : zS) (V : zV) : Prop := s.tg 116 = 2 ∧ (V 116 0 = .ref 117 ∧ V 116 1 = .ref 118 ∧ V 116 3 = .ref 119 ∧ V 116 4 = .ref 120) ∧ (s.tg 117 = 20 ∧ s.tg 118 = 20 ∧ s.tg 119 = 20 ∧ s.tg 120 = 20) ∧ s.ln 117 = 12 ∧ s.ln 118 = 12 ∧ s.ln 119 = 12 ∧ s.ln 120 = 12
theorem zGP.of {s : zS} {V V' : zV} (h : zGP s V) (h' : V' 116 0 = V 116 0 ∧ V' 116 1 = V 116 1 ∧ V' 116 3 = V 116 3 ∧ V' 116 4 = V 116 4) : zGP s V' := by
  obtain ⟨g1, ⟨g2, g3, g4, g5⟩, g6⟩ := h
  obtain ⟨e1, e2, e3, e4⟩ := h'
  exact ⟨g1, ⟨e1.trans g2, e2.trans g3, e3.trans g4, e4.trans g5⟩, g6⟩
theorem zGP.p {s : zS} {V : zV} {r : Nat} {k : Int} {v : Value} (h : zGP s V) (hr : r ≠ 116) : zGP s (zput V r k v) := h.of ⟨zput_r (by omega), zput_r (by omega), zput_r (by omega), zput_r (by omega)⟩
theorem zGP.pf {s : zS} {V : zV} {v : Value} (h : zGP s V) : zGP s (zput V 116 2 v) := h.of ⟨zput_k (by omega), zput_k (by omega), zput_k (by omega), zput_k (by omega)⟩
/-- the callees of x -/
def zDir (ρ : zR) (x : Int) : Nat := zCal ρ (zone x) ρ.c
def zDirK (ρ : zR) (x k : Int) : Nat := zfo (fun j m => if ρ.K 0 j = x then m ||| zone (ρ.K 1 j) else m) 0 k
theorem zDirK_lt {ρ : zR} (hW : zWF ρ) (x : Int) {k : Int} (k0 : 0 ≤ k) (k1 : k ≤ ρ.c) : zDirK ρ x k < 4096 := by
  refine zfo_inv (fun _ m => m < 4096) (by decide) (fun j y h1 h2 hy => ?_) k0
  have w := (hW.2.2.1 j h1 (by omega)).2.1
  have := hW.1
  try dsimp only
  split
  · exact zor_lt hy (zone_lt (by omega))
  · exact hy
theorem zDirK_bit {ρ : zR} (hW : zWF ρ) {x y : Int} (y0 : 0 ≤ y) : zin (zDirK ρ x ρ.c) y = true ↔ zEd ρ x y := by
  have : ∀ n : Nat, (n : Int) ≤ ρ.c → (zin (zDirK ρ x n) y = true ↔ ∃ k, 0 ≤ k ∧ k < (n : Int) ∧ ρ.K 0 k = x ∧ ρ.K 1 k = y) := by
    intro n
    induction n with
    | zero =>
      intro _
      rw [show zDirK ρ x ((0 : Nat) : Int) = 0 from rfl, zin_zero]
      constructor
      · intro h; cases h
      · rintro ⟨k, a, b, -⟩; omega
    | succ n ih =>
      intro hn
      have w := (hW.2.2.1 n (by omega) (by omega)).2.1
      have hs : zDirK ρ x ((n : Int) + 1) = if ρ.K 0 n = x then zDirK ρ x n ||| zone (ρ.K 1 n) else zDirK ρ x n := zfo_s (by omega)
      rw [show ((n + 1 : Nat) : Int) = (n : Int) + 1 from rfl, hs]
      by_cases c : ρ.K 0 n = x
      · rw [if_pos c, zin_or, Bool.or_eq_true, ih (by omega), zone_bit w.1 y0, decide_eq_true_eq]
        constructor
        · rintro (⟨k, a, b, c1, c2⟩ | h)
          · exact ⟨k, a, by omega, c1, c2⟩
          · exact ⟨n, by omega, by omega, c, h⟩
        · rintro ⟨k, a, b, c1, c2⟩
          by_cases e : k = n
          · subst e; exact Or.inr c2
          · exact Or.inl ⟨k, a, by omega, c1, c2⟩
      · rw [if_neg c, ih (by omega)]
        constructor
        · rintro ⟨k, a, b, c1, c2⟩; exact ⟨k, a, by omega, c1, c2⟩
        · rintro ⟨k, a, b, c1, c2⟩
          by_cases e : k = n
          · subst e; exact absurd c1 c
          · exact ⟨k, a, by omega, c1, c2⟩
  have hc := hW.1
  have := this ρ.c.toNat (by omega)
  rw [Int.toNat_of_nonneg (by omega)] at this
  exact this
/-- behind a closed set the callees and all that is depended on tell the same -/
theorem zDir_df {ρ : zR} (hW : zWF ρ) {dn : Nat} (hd : dn < 4096) (hc : zClo ρ dn) {x : Int} (x0 : 0 ≤ x) (x1 : x < ρ.n) : zdf (zDirK ρ x ρ.c) dn = 0 ↔ zdf (zNeeds ρ x) dn = 0 := by
  have hl := zDirK_lt hW x hW.1.2.2.1 (Int.le_refl _)
  rw [zdf_zero hl, zdf_zero (zNeeds_lt hW x)]
  constructor
  · intro h y y0 y1 hy
    have hdep := (zNeeds_iff hW x0 x1 y0).mp hy
    refine (zDep_in (fun z => 0 ≤ z ∧ zin dn z = true) (fun z hz => ?_) (fun a z ha hz => ?_) hdep).2
    · have zr := (zDep_rng hW (Relation.TransGen.single hz)).2
      have := hW.1
      exact ⟨zr.1, h z zr.1 (by omega) ((zDirK_bit hW zr.1).mpr hz)⟩
    · exact ⟨(zDep_rng hW (Relation.TransGen.single hz)).2.1, hc a z ha.1 ha.2 (Relation.TransGen.single hz)⟩
  · intro h y y0 y1 hy
    exact h y y0 y1 ((zNeeds_iff hW x0 x1 y0).mpr (Relation.TransGen.single ((zDirK_bit hW y0).mp hy)))
section
variable {d : Nat} {s : zS} {V : zV} {Q : zO → zH → Prop} {a : Nat} {ρ : zR} {h : zH}
set_option maxRecDepth 20000 in
theorem c_fillDirect (hd : 1 ≤ d) (ha : a + 18 ≤ 116) (hG : zGP s V) (hP : zStP s V a) (hC : zStC ρ V a) (hW : zWF ρ) (hQ : ∀ V', zFrg 117 118 V V' → (∀ x, 0 ≤ x → x < ρ.n → V' 117 x = zi (zDirK ρ x ρ.c : Nat)) → Q (.inl none) (s, V')) : zcall d 19 [.ref 116, .ref a] (s, V) Q := by
  obtain ⟨n0, n1, c0, c1⟩ := hW.1
  obtain ⟨g1, ⟨g2, -, -, -⟩, ⟨g3, -, -, -⟩, g4, -⟩ := hG
  have tO := hP.1
  have vB := hP.2.2.2.2.1
  have tB := hP.2.2.2.2.2.1
  have lB := hP.2.2.2.2.2.2.1
  have vn := hC.1
  have vc := hC.2.1
  have vc0 : V (a + 11) 0 = .ref (a + 12) := (hP.2.2.2.2.2.2.2.2 0 (by omega)).1
  have tc0 : s.tg (a + 12) = 20 := (hP.2.2.2.2.2.2.2.2 0 (by omega)).2.1
  have lc0 : s.ln (a + 12) = 24 := (hP.2.2.2.2.2.2.2.2 0 (by omega)).2.2
  have ec0 : ∀ x : Int, 0 ≤ x → x < ρ.c → V (a + 12) x = zi (ρ.K 0 x) := hC.2.2.2.1 0 (by omega)
  have vc1 : V (a + 11) 1 = .ref (a + 13) := (hP.2.2.2.2.2.2.2.2 1 (by omega)).1
  have tc1 : s.tg (a + 13) = 20 := (hP.2.2.2.2.2.2.2.2 1 (by omega)).2.1
  have lc1 : s.ln (a + 13) = 24 := (hP.2.2.2.2.2.2.2.2 1 (by omega)).2.2
  have ec1 : ∀ x : Int, 0 ≤ x → x < ρ.c → V (a + 13) x = zi (ρ.K 1 x) := hC.2.2.2.1 1 (by omega)
  obtain ⟨d, rfl⟩ : ∃ e, d = e + 1 := ⟨d - 1, by omega⟩
  simp (disch := first | assumption | omega) only [zc_19]
  simp (disch := first | assumption | exact zk_19 | ((repeat (first | exact z1n | refine z1I ?_ | refine z1R ?_)); done) | exact rfl | omega | decide) only [zb_19_0, r_iconst, r_istore_2i, r_istore_2r, r_istore_2j, r_goto_w, r_iload_2, r_aload_1, r_gf_448, r_icmp_ge, r_aload_0, r_gf_128, r_iastore, r_iinc_2i, r_iinc_2r, r_iinc_2j, r_goto, r_gf_449, r_gf_451, r_aaload, r_ial, r_ial30, r_ial32, r_dup2, r_ishl, r_ior, r_ret, vB, vn, vc, vc0, ec0, vc1, ec1, ↓reduceIte, not_true_eq_false, not_false_eq_true, Int.reduceEq, Int.reduceLE, Int.reduceLT, Int.reduceAdd, Int.reduceNeg, Int.reduceMul, Int.reduceSub, Int.reduceToNat]
  have hx := z_iter (i := 0) (n := ρ.n) (I := fun k (q : zV) => zFrg 117 118 V q ∧ ∀ x, 0 ≤ x → x < k → q 117 x = zi 0) (P := fun k q => zwp (zcall d) 19 Q (zB 19 1) [.ref 116, .ref a, zi k] [] (s, q)) n0
  refine hx ?_ ?_ V ⟨zFrg.rf, fun x _ _ => by omega⟩
  · rintro k V1 k0 k1 ⟨f1, e1⟩ ih
    have u0 : V1 116 0 = .ref 117 := by rw [f1 116 (by omega)]; exact g2
    have un : V1 a 0 = zi ρ.n := by rw [f1 a (by omega)]; exact vn
    conv => rw [zb_19_1]
    simp (disch := first | assumption | exact zk_19 | ((repeat (first | exact z1n | refine z1I ?_ | refine z1R ?_)); done) | exact rfl | omega | decide) only [r_iconst, r_istore_2i, r_istore_2r, r_istore_2j, r_goto_w, r_iload_2, r_aload_1, r_gf_448, r_icmp_ge, r_aload_0, r_gf_128, r_iastore, r_iinc_2i, r_iinc_2r, r_iinc_2j, r_goto, r_gf_449, r_gf_451, r_aaload, r_ial, r_ial30, r_ial32, r_dup2, r_ishl, r_ior, r_ret, vB, vn, vc, vc0, ec0, vc1, ec1, u0, un, ↓reduceIte, not_true_eq_false, not_false_eq_true, Int.reduceEq, Int.reduceLE, Int.reduceLT, Int.reduceAdd, Int.reduceNeg, Int.reduceMul, Int.reduceSub, Int.reduceToNat]
    rw [if_neg (by omega)]
    refine ih _ ⟨f1.p (by omega) (by omega), fun x x0 x1 => ?_⟩
    by_cases q : x = k
    · rw [q, zput_at]
    · rw [zput_i q]; exact e1 x x0 (by omega)
  rintro V1 ⟨f1, e1⟩
  have un : V1 a 0 = zi ρ.n := by rw [f1 a (by omega)]; exact vn
  simp (disch := first | assumption | exact zk_19 | ((repeat (first | exact z1n | refine z1I ?_ | refine z1R ?_)); done) | exact rfl | omega | decide) only [zb_19_1, zb_19_2, r_iconst, r_istore_2i, r_istore_2r, r_istore_2j, r_goto_w, r_iload_2, r_aload_1, r_gf_448, r_icmp_ge, r_aload_0, r_gf_128, r_iastore, r_iinc_2i, r_iinc_2r, r_iinc_2j, r_goto, r_gf_449, r_gf_451, r_aaload, r_ial, r_ial30, r_ial32, r_dup2, r_ishl, r_ior, r_ret, vB, vn, vc, vc0, ec0, vc1, ec1, un, Int.le_refl, ↓reduceIte, not_true_eq_false, not_false_eq_true, Int.reduceEq, Int.reduceLE, Int.reduceLT, Int.reduceAdd, Int.reduceNeg, Int.reduceMul, Int.reduceSub, Int.reduceToNat]
  have hy := z_iter (i := 0) (n := ρ.c) (I := fun k (q : zV) => zFrg 117 118 V q ∧ ∀ x, 0 ≤ x → x < ρ.n → q 117 x = zi (zDirK ρ x k : Nat)) (P := fun k q => zwp (zcall d) 19 Q (zB 19 3) [.ref 116, .ref a, zi k] [] (s, q)) c0
  refine hy ?_ ?_ V1 ⟨f1, fun x x0 x1 => e1 x x0 x1⟩
  · rintro k V2 k0 k1 ⟨f2, e2⟩ ih
    have u0 : V2 116 0 = .ref 117 := by rw [f2 116 (by omega)]; exact g2
    have uc : V2 a 1 = zi ρ.c := by rw [f2 a (by omega)]; exact vc
    have uB : V2 a 3 = .ref (a + 11) := by rw [f2 a (by omega)]; exact vB
    have u1 : V2 (a + 11) 0 = .ref (a + 12) := by rw [f2 _ (by omega)]; exact vc0
    have u2 : V2 (a + 11) 1 = .ref (a + 13) := by rw [f2 _ (by omega)]; exact vc1
    have w := hW.2.2.1 k k0 k1
    have u3 : V2 (a + 12) k = zi (ρ.K 0 k) := by rw [f2 _ (by omega)]; exact ec0 k k0 k1
    have u4 : V2 (a + 13) k = zi (ρ.K 1 k) := by rw [f2 _ (by omega)]; exact ec1 k k0 k1
    generalize hx0 : ρ.K 0 k = x0 at w u3
    generalize hy0 : ρ.K 1 k = y0 at w u4
    have u5 := e2 x0 (by omega) (by omega)
    have hl := zDirK_lt hW x0 k0 (by omega : k ≤ ρ.c)
    have ho := zone_lt (x := y0) (by omega)
    conv => rw [zb_19_3]
    simp (disch := first | assumption | exact zk_19 | ((repeat (first | exact z1n | refine z1I ?_ | refine z1R ?_)); done) | exact rfl | omega | decide) only [r_iconst, r_istore_2i, r_istore_2r, r_istore_2j, r_goto_w, r_iload_2, r_aload_1, r_gf_448, r_icmp_ge, r_aload_0, r_gf_128, r_iastore, r_iinc_2i, r_iinc_2r, r_iinc_2j, r_goto, r_gf_449, r_gf_451, r_aaload, r_ial, r_ial30, r_ial32, r_dup2, r_ishl, r_ior, r_ret, vB, vn, vc, vc0, ec0, vc1, ec1, u0, uc, uB, u1, u2, u3, u4, u5, zshl_z, zor_n, ↓reduceIte, not_true_eq_false, not_false_eq_true, Int.reduceEq, Int.reduceLE, Int.reduceLT, Int.reduceAdd, Int.reduceNeg, Int.reduceMul, Int.reduceSub, Int.reduceToNat]
    rw [if_neg (by omega)]
    refine ih _ ⟨f2.p (by omega) (by omega), fun x z0 z1 => ?_⟩
    have hs : zDirK ρ x (k + 1) = if ρ.K 0 k = x then zDirK ρ x k ||| zone (ρ.K 1 k) else zDirK ρ x k := zfo_s k0
    rw [hs, hx0, hy0]
    by_cases q : x0 = x
    · subst q; rw [if_pos rfl, zput_at]
    · rw [if_neg q, zput_i (fun c => q c.symm)]; exact e2 x z0 z1
  · rintro V2 ⟨f2, e2⟩
    have uc : V2 a 1 = zi ρ.c := by rw [f2 a (by omega)]; exact vc
    simp (disch := first | assumption | exact zk_19 | ((repeat (first | exact z1n | refine z1I ?_ | refine z1R ?_)); done) | exact rfl | omega | decide) only [zb_19_3, zb_19_4, r_iconst, r_istore_2i, r_istore_2r, r_istore_2j, r_goto_w, r_iload_2, r_aload_1, r_gf_448, r_icmp_ge, r_aload_0, r_gf_128, r_iastore, r_iinc_2i, r_iinc_2r, r_iinc_2j, r_goto, r_gf_449, r_gf_451, r_aaload, r_ial, r_ial30, r_ial32, r_dup2, r_ishl, r_ior, r_ret, vB, vn, vc, vc0, ec0, vc1, ec1, uc, Int.le_refl, ↓reduceIte, not_true_eq_false, not_false_eq_true, Int.reduceEq, Int.reduceLE, Int.reduceLT, Int.reduceAdd, Int.reduceNeg, Int.reduceMul, Int.reduceSub, Int.reduceToNat]
    exact hQ V2 f2 e2
set_option maxRecDepth 20000 in
theorem c_lowestNext (hd : 2 ≤ d) (hG : zGP s V) (hP : zStP s V a) (hC : zStC ρ V a) (hW : zWF ρ) {dn : Nat} (hdn : dn < 4096) (hcl : zClo ρ dn) (hdir : ∀ x, 0 ≤ x → x < ρ.n → V 117 x = zi (zDirK ρ x ρ.c : Nat)) : zcall d 20 [.ref 116, .ref a, zi (dn : Nat)] (s, V) Q = if zNx ρ dn < ρ.n then Q (.inl (some (zi (zNx ρ dn)))) (s, V) else Q (.inl (some (zi (-1)))) (s, V) := by
  obtain ⟨n0, n1, c0, c1⟩ := hW.1
  obtain ⟨g1, ⟨g2, -, -, -⟩, ⟨g3, -, -, -⟩, g4, -⟩ := hG
  have tO := hP.1
  have vn := hC.1
  have vc := hC.2.1
  obtain ⟨d, rfl⟩ : ∃ e, d = e + 1 := ⟨d - 1, by omega⟩
  simp (disch := first | assumption | omega) only [zc_20]
  simp (disch := first | assumption | exact zk_20 | ((repeat (first | exact z1n | refine z1I ?_ | refine z1R ?_)); done) | exact rfl | omega | decide) only [zb_20_0, r_iconst, r_istore_3i, r_istore_3r, r_istore_3j, r_goto_w, r_iload_3, r_aload_1, r_gf_448, r_icmp_ge, r_iload_2, r_inv_2_0, r_inv_2_1, r_inv_2_2, r_inv_2_3, r_inv_2_4, r_K0, r_K1, r_if_ne, r_aload_0, r_gf_128, r_ial, r_ial30, r_ial32, r_ixor, r_iand, r_iret, r_bret_0, r_bret_1, r_iinc_3i, r_iinc_3r, r_iinc_3j, r_goto, vn, vc, ↓reduceIte, not_true_eq_false, not_false_eq_true, Int.reduceEq, Int.reduceLE, Int.reduceLT, Int.reduceAdd, Int.reduceNeg, Int.reduceMul, Int.reduceSub, Int.reduceToNat]
  obtain ⟨r1, r2⟩ := z_search (F := fun j => zwp (zcall d) 20 Q (zB 20 1) [.ref 116, .ref a, zi (dn : Nat), zi j] [] (s, V)) (E := fun j => Q (.inl (some (zi j))) (s, V)) (p := fun x => !zin dn x && decide (zdf (zNeeds ρ x) dn = 0)) (i := 0) (n := ρ.n) n0 (fun j j0 j1 => by
    have hl := zDirK_lt hW j c0 (Int.le_refl _)
    have hdf := zdf_lt (b := dn) hl
    have hj := hdir j j0 j1
    have hiff := zDir_df hW hdn hcl j0 j1
    constructor
    · intro q
      rw [Bool.and_eq_true] at q
      have q1 : ¬ zin dn j = true := by simpa using q.1
      have q2 : zdf (zDirK ρ j ρ.c) dn = 0 := hiff.mpr (by simpa using q.2)
      conv => lhs; rw [zb_20_1]
      simp (disch := first | assumption | exact zk_20 | ((repeat (first | exact z1n | refine z1I ?_ | refine z1R ?_)); done) | exact rfl | omega | decide) only [r_iconst, r_istore_3i, r_istore_3r, r_istore_3j, r_goto_w, r_iload_3, r_aload_1, r_gf_448, r_icmp_ge, r_iload_2, r_inv_2_0, r_inv_2_1, r_inv_2_2, r_inv_2_3, r_inv_2_4, r_K0, r_K1, r_if_ne, r_aload_0, r_gf_128, r_ial, r_ial30, r_ial32, r_ixor, r_iand, r_iret, r_bret_0, r_bret_1, r_iinc_3i, r_iinc_3r, r_iinc_3j, r_goto, vn, vc, c_contains, g2, hj, zandn_n, ↓reduceIte, not_true_eq_false, not_false_eq_true, Int.reduceEq, Int.reduceLE, Int.reduceLT, Int.reduceAdd, Int.reduceNeg, Int.reduceMul, Int.reduceSub, Int.reduceToNat]
      rw [if_neg (by omega), if_neg q1, if_neg (by omega)]
    · intro q
      conv => lhs; rw [zb_20_1]
      simp (disch := first | assumption | exact zk_20 | ((repeat (first | exact z1n | refine z1I ?_ | refine z1R ?_)); done) | exact rfl | omega | decide) only [zb_20_2, r_iconst, r_istore_3i, r_istore_3r, r_istore_3j, r_goto_w, r_iload_3, r_aload_1, r_gf_448, r_icmp_ge, r_iload_2, r_inv_2_0, r_inv_2_1, r_inv_2_2, r_inv_2_3, r_inv_2_4, r_K0, r_K1, r_if_ne, r_aload_0, r_gf_128, r_ial, r_ial30, r_ial32, r_ixor, r_iand, r_iret, r_bret_0, r_bret_1, r_iinc_3i, r_iinc_3r, r_iinc_3j, r_goto, vn, vc, c_contains, g2, hj, zandn_n, ↓reduceIte, not_true_eq_false, not_false_eq_true, Int.reduceEq, Int.reduceLE, Int.reduceLT, Int.reduceAdd, Int.reduceNeg, Int.reduceMul, Int.reduceSub, Int.reduceToNat]
      rw [if_neg (by omega)]
      split
      · rfl
      · rename_i q1
        rw [if_pos]
        intro q2
        have : zdf (zNeeds ρ j) dn = 0 := hiff.mp (by omega)
        rw [this] at q
        simp [q1] at q)
  obtain ⟨b1, b2, -, -⟩ := zfst_is (fun x => !zin dn x && decide (zdf (zNeeds ρ x) dn = 0)) n0
  by_cases q : zNx ρ dn < ρ.n
  · rw [if_pos q]
    exact r1 q
  · rw [if_neg q]
    refine (r2 (by unfold zNx at q; omega)).trans ?_
    simp (disch := first | assumption | exact zk_20 | ((repeat (first | exact z1n | refine z1I ?_ | refine z1R ?_)); done) | exact rfl | omega | decide) only [zb_20_1, zb_20_3, r_iconst, r_istore_3i, r_istore_3r, r_istore_3j, r_goto_w, r_iload_3, r_aload_1, r_gf_448, r_icmp_ge, r_iload_2, r_inv_2_0, r_inv_2_1, r_inv_2_2, r_inv_2_3, r_inv_2_4, r_K0, r_K1, r_if_ne, r_aload_0, r_gf_128, r_ial, r_ial30, r_ial32, r_ixor, r_iand, r_iret, r_bret_0, r_bret_1, r_iinc_3i, r_iinc_3r, r_iinc_3j, r_goto, vn, vc, Int.le_refl, ↓reduceIte, not_true_eq_false, not_false_eq_true, Int.reduceEq, Int.reduceLE, Int.reduceLT, Int.reduceAdd, Int.reduceNeg, Int.reduceMul, Int.reduceSub, Int.reduceToNat]
/-- the sorted services stand in their row -/
def zSrd (ρ : zR) (V : zV) : Prop := V 116 2 = zi ρ.n ∧ ∀ k, 0 ≤ k → k < ρ.n → V 118 k = zi (zPlc ρ k)
set_option maxRecDepth 20000 in
theorem c_sort (hd : 3 ≤ d) (ha : a + 18 ≤ 116) (hG : zGP s V) (hP : zStP s V a) (hC : zStC ρ V a) (hW : zWF ρ) (hQ : ∀ V', zFrg 116 119 V V' → zGP s V' → zSrd ρ V' → Q (.inl none) (s, V')) : zcall d 18 [.ref 116, .ref a] (s, V) Q := by
  obtain ⟨n0, n1, c0, c1⟩ := hW.1
  have tG := hG.1
  have tO := hP.1
  obtain ⟨d, rfl⟩ : ∃ e, d = e + 1 := ⟨d - 1, by omega⟩
  simp (disch := first | assumption | omega) only [zc_18]
  simp (disch := first | assumption | exact zk_18 | ((repeat (first | exact z1n | refine z1I ?_ | refine z1R ?_)); done) | exact rfl | omega | decide) only [zb_18_0, r_aload_0, r_aload_1, r_inv_2_0, r_inv_2_1, r_inv_2_2, r_inv_2_3, r_inv_2_4, r_K0, r_K1, r_iconst, r_pf_130, r_istore_2i, r_istore_2r, r_istore_2j, r_istore_3i, r_istore_3r, r_istore_3j, r_goto_w, r_iload_3, r_gf_448, r_icmp_ge, r_iload_2, r_inv_3_0, r_inv_3_1, r_inv_3_2, r_inv_3_3, r_inv_3_4, r_istore_4i, r_istore_4r, r_istore_4j, r_iload_4, r_icmp_ne, r_ret, r_gf_129, r_iastore, r_ishl, r_ior, r_dup_i, r_dup_r, r_gf_130, r_iadd, r_iinc_3i, r_iinc_3r, r_iinc_3j, r_goto, ↓reduceIte, not_true_eq_false, not_false_eq_true, Int.reduceEq, Int.reduceLE, Int.reduceLT, Int.reduceAdd, Int.reduceNeg, Int.reduceMul, Int.reduceSub, Int.reduceToNat]
  refine c_fillDirect (by omega) ha hG hP hC hW (fun V1 f1 e1 => ?_)
  simp (disch := first | assumption | exact zk_18 | ((repeat (first | exact z1n | refine z1I ?_ | refine z1R ?_)); done) | exact rfl | omega | decide) only [r_aload_0, r_aload_1, r_inv_2_0, r_inv_2_1, r_inv_2_2, r_inv_2_3, r_inv_2_4, r_K0, r_K1, r_iconst, r_pf_130, r_istore_2i, r_istore_2r, r_istore_2j, r_istore_3i, r_istore_3r, r_istore_3j, r_goto_w, r_iload_3, r_gf_448, r_icmp_ge, r_iload_2, r_inv_3_0, r_inv_3_1, r_inv_3_2, r_inv_3_3, r_inv_3_4, r_istore_4i, r_istore_4r, r_istore_4j, r_iload_4, r_icmp_ne, r_ret, r_gf_129, r_iastore, r_ishl, r_ior, r_dup_i, r_dup_r, r_gf_130, r_iadd, r_iinc_3i, r_iinc_3r, r_iinc_3j, r_goto, ↓reduceIte, not_true_eq_false, not_false_eq_true, Int.reduceEq, Int.reduceLE, Int.reduceLT, Int.reduceAdd, Int.reduceNeg, Int.reduceMul, Int.reduceSub, Int.reduceToNat]
  have hx := z_iter (i := 0) (n := ρ.n) (I := fun k (q : zV × Value) => zFrg 116 119 V q.1 ∧ zGP s q.1 ∧ (∀ x, 0 ≤ x → x < ρ.n → q.1 117 x = zi (zDirK ρ x ρ.c : Nat)) ∧ q.1 116 2 = zi k ∧ (∀ j, 0 ≤ j → j < k → q.1 118 j = zi (zPlc ρ j)) ∧ (q.2 = zJ ∨ ∃ y, q.2 = zi y)) (P := fun k q => zwp (zcall d) 18 Q (zB 18 1) [.ref 116, .ref a, zi (zDone ρ k.toNat : Nat), zi k, q.2] [] (s, q.1)) n0
  refine hx ?_ ?_ (zput V1 116 2 (zi 0), zJ) ⟨?_, ?_, ?_, (zput_at : zput V1 116 2 (zi 0) 116 2 = zi 0), fun j _ _ => by omega, Or.inl rfl⟩
  · rintro k ⟨V2, w⟩ k0 k1 ⟨f2, hG2, e2, p2, s2, -⟩ ih
    dsimp only at f2 hG2 e2 p2 s2 ih ⊢
    obtain ⟨i1, i2, i3, i4, i5⟩ := zDone_ok hW k.toNat (by omega)
    obtain ⟨⟨x0, x1⟩, x2, x3, x4⟩ := zPlc_ok hW k0 k1
    have hP2 := hP.frg f2 (by omega)
    have hC2 := hC.frg f2 (by omega)
    have un : V2 a 0 = zi ρ.n := hC2.1
    have tO2 := hP2.1
    have hG3 := hG2
    obtain ⟨g1, ⟨-, g3, -, -⟩, ⟨-, g5, -, -⟩, -, g6, -⟩ := hG3
    have hplc : zNx ρ (zDone ρ k.toNat) = zPlc ρ k := rfl
    have ho := zone_lt (x := zPlc ρ k) (by omega)
    conv => rw [zb_18_1]
    simp (disch := first | assumption | omega) only [r_iload_3, r_iload_2, r_aload_0, r_aload_1, r_gf_448, un, r_icmp_ge]
    rw [if_neg (by omega : ¬ ρ.n ≤ k), r_inv_3_0 (z1I (z1R (z1R z1n))), c_lowestNext (d := d) (by omega) hG2 hP2 hC2 hW i1 i4 e2, hplc, if_pos x1]
    simp (disch := first | assumption | exact zk_18 | ((repeat (first | exact z1n | refine z1I ?_ | refine z1R ?_)); done) | exact rfl | omega | decide) only [zb_18_2, r_aload_0, r_aload_1, r_inv_2_0, r_inv_2_1, r_inv_2_2, r_inv_2_3, r_inv_2_4, r_K0, r_K1, r_iconst, r_pf_130, r_istore_2i, r_istore_2r, r_istore_2j, r_istore_3i, r_istore_3r, r_istore_3j, r_goto_w, r_iload_3, r_gf_448, r_icmp_ge, r_iload_2, r_inv_3_0, r_inv_3_1, r_inv_3_2, r_inv_3_3, r_inv_3_4, r_istore_4i, r_istore_4r, r_istore_4j, r_iload_4, r_icmp_ne, r_ret, r_gf_129, r_iastore, r_ishl, r_ior, r_dup_i, r_dup_r, r_gf_130, r_iadd, r_iinc_3i, r_iinc_3r, r_iinc_3j, r_goto, g3, p2, zshl_z, zor_n, zput_r, ↓reduceIte, not_true_eq_false, not_false_eq_true, Int.reduceEq, Int.reduceLE, Int.reduceLT, Int.reduceAdd, Int.reduceNeg, Int.reduceMul, Int.reduceSub, Int.reduceToNat]
    rw [if_pos (by omega)]
    have n1 : ∀ x, 0 ≤ x → x < ρ.n → zput (zput V2 118 k (zi (zPlc ρ k))) 116 2 (zi (k + 1)) 117 x = zi (zDirK ρ x ρ.c : Nat) := fun x y0 y1 => by
      rw [zput_r (by omega), zput_r (by omega)]; exact e2 x y0 y1
    have n2 : zput (zput V2 118 k (zi (zPlc ρ k))) 116 2 (zi (k + 1)) 116 2 = zi (k + 1) := zput_at
    have n3 : ∀ j, 0 ≤ j → j < k + 1 → zput (zput V2 118 k (zi (zPlc ρ k))) 116 2 (zi (k + 1)) 118 j = zi (zPlc ρ j) := fun j j0 j1 => by
      rw [zput_r (by omega)]
      by_cases q : j = k
      · rw [q, zput_at]
      · rw [zput_i q]; exact s2 j j0 (by omega)
    have hnext := ih (zput (zput V2 118 k (zi (zPlc ρ k))) 116 2 (zi (k + 1)), zi (zPlc ρ k)) ⟨(f2.p (by omega) (by omega)).p (by omega) (by omega), (hG2.p (by omega)).pf, n1, n2, n3, Or.inr ⟨_, rfl⟩⟩
    rw [show (k + 1).toNat = k.toNat + 1 by omega] at hnext
    exact hnext
  · rintro ⟨V2, w⟩ ⟨f2, hG2, e2, p2, s2, -⟩
    dsimp only at f2 hG2 e2 p2 s2 ⊢
    have hC2 := hC.frg f2 (by omega)
    have un : V2 a 0 = zi ρ.n := hC2.1
    simp (disch := first | assumption | exact zk_18 | ((repeat (first | exact z1n | refine z1I ?_ | refine z1R ?_)); done) | exact rfl | omega | decide) only [zb_18_1, zb_18_3, r_aload_0, r_aload_1, r_inv_2_0, r_inv_2_1, r_inv_2_2, r_inv_2_3, r_inv_2_4, r_K0, r_K1, r_iconst, r_pf_130, r_istore_2i, r_istore_2r, r_istore_2j, r_istore_3i, r_istore_3r, r_istore_3j, r_goto_w, r_iload_3, r_gf_448, r_icmp_ge, r_iload_2, r_inv_3_0, r_inv_3_1, r_inv_3_2, r_inv_3_3, r_inv_3_4, r_istore_4i, r_istore_4r, r_istore_4j, r_iload_4, r_icmp_ne, r_ret, r_gf_129, r_iastore, r_ishl, r_ior, r_dup_i, r_dup_r, r_gf_130, r_iadd, r_iinc_3i, r_iinc_3r, r_iinc_3j, r_goto, un, Int.le_refl, ↓reduceIte, not_true_eq_false, not_false_eq_true, Int.reduceEq, Int.reduceLE, Int.reduceLT, Int.reduceAdd, Int.reduceNeg, Int.reduceMul, Int.reduceSub, Int.reduceToNat]
    exact hQ V2 f2 hG2 ⟨p2, s2⟩
  · refine zFrg.p (fun r hr => ?_) (by omega) (by omega)
    exact f1 r (by omega)
  · refine (hG.of ?_).pf
    rw [f1 116 (by omega)]
    exact ⟨rfl, rfl, rfl, rfl⟩
  · intro x x0 x1
    show zput V1 116 2 (zi 0) 117 x = _
    rw [zput_r (by omega)]
    exact e1 x x0 x1
end
