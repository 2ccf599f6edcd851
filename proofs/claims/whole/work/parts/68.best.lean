/-! BEST ORDER, 2: in the class -/
theorem zsub_and {u v : Nat} (hu : u < 4096) : zSub u v ↔ u &&& v = u := by
  constructor
  · intro h
    refine zset_ext (zand_lt hu) hu (fun x x0 x1 => ?_)
    rw [zin_and]
    cases c : zin u x
    · rfl
    · rw [h x x0 x1 c]; rfl
  · intro h x x0 x1 hx
    have : zin (u &&& v) x = true := by rw [h]; exact hx
    rw [zin_and, Bool.and_eq_true] at this
    exact this.2
theorem zYs_rng {ρ : zR} (hW : zWF ρ) {u : Nat} (hu : u < 4096) (hs : zSub u (zDown ρ)) {k : Int} (k0 : 0 ≤ k) (k1 : k ≤ ρ.n) : (-1 ≤ (zYs ρ u k).1 ∧ (zYs ρ u k).1 < 12) ∧ 0 ≤ (zYs ρ u k).2 ∧ (zYs ρ u k).2 < 100000000 := by
  have hn := hW.1
  rcases zYs_is (ρ := ρ) (u := u) k0 with ⟨i1, i2, i3⟩ | ⟨⟨i1, i2⟩, i3, i4, i5, i6⟩
  · omega
  · have := zYq_rng hW hu hs i1 (by omega) i3
    omega
section
variable {d : Nat} {s : zS} {V : zV} {Q : zO → zH → Prop} {a r : Nat} {ρ : zR} {h : zH}
/-- the class's Recovery -/
def zRvP (s : zS) (V : zV) : Prop := s.tg 134 = 4 ∧ (V 134 0 = .ref 135 ∧ V 134 1 = .ref 136 ∧ V 134 2 = .ref 137) ∧ (s.tg 135 = 20 ∧ s.ln 135 = 12) ∧ (s.tg 136 = 20 ∧ s.ln 136 = 12) ∧ s.tg 137 = 20 ∧ s.ln 137 = 12
def zBf (ρ : zR) (V : zV) : Prop := ∀ x, 0 ≤ x → x < ρ.n → zin (zDown ρ) x = true → V 135 x = zi ((zNeeds ρ x &&& zDown ρ : Nat) : Int)
set_option maxRecDepth 20000 in
theorem c_fillBefore (hd : 4 ≤ d) (hR : zRvP s V) (hP : zStP s V a) (hC : zStC ρ V a) (hW : zWF ρ) (ha : a + 18 ≤ 134) (hQ : ∀ V', (∀ q : Nat, q ≠ 135 → V' q = V q) → zBf ρ V' → Q (.inl (some (zi (zDown ρ : Nat)))) (s, V')) : zcall d 37 [.ref 134, .ref a] (s, V) Q := by
  obtain ⟨n0, n1, cc0, cc1⟩ := hW.1
  obtain ⟨t1, ⟨v0, -, -⟩, ⟨t2, l2⟩, -⟩ := id hR
  have tO := hP.1
  have hD := zDown_lt hW
  obtain ⟨d, rfl⟩ : ∃ e, d = e + 1 := ⟨d - 1, by omega⟩
  rw [zc_37 t1]
  simp (disch := first | assumption | exact zk_37 | ((repeat (first | exact z1n | refine z1I ?_ | refine z1R ?_)); done) | exact rfl | omega | decide) only [zb_37_0, r_aload_1, r_inv_1_0, r_inv_1_1, r_inv_1_2, r_inv_1_3, r_inv_1_4, r_K0, r_K1, r_istore_2i, r_istore_2r, r_istore_2j, r_iconst, r_istore_3i, r_istore_3r, r_istore_3j, r_goto_w, r_iload_3, r_gf_448, r_icmp_ge, r_iload_2, r_inv_2_0, r_inv_2_1, r_inv_2_2, r_inv_2_3, r_inv_2_4, r_if_eq, r_aload_0, r_gf_256, r_iand, r_iastore, r_iinc_3i, r_iinc_3r, r_iinc_3j, r_goto, r_iret, r_bret_0, r_bret_1, c_downSet (hC := hC), ↓reduceIte, not_true_eq_false, not_false_eq_true, Int.reduceEq, Int.reduceLE, Int.reduceLT, Int.reduceAdd, Int.reduceNeg, Int.reduceMul, Int.reduceSub, Int.reduceToNat]
  have hlp := z_iter (i := 0) (n := ρ.n) (I := fun k (q : zV) => (∀ z : Nat, z ≠ 135 → q z = V z) ∧ ∀ x, 0 ≤ x → x < k → zin (zDown ρ) x = true → q 135 x = zi ((zNeeds ρ x &&& zDown ρ : Nat) : Int)) (P := fun k q => zwp (zcall d) 37 Q (zB 37 1) [.ref 134, .ref a, zi (zDown ρ : Nat), zi k] [] (s, q)) n0
  refine hlp ?_ ?_ V ⟨fun _ _ => rfl, fun x _ _ => by omega⟩
  · rintro k V1 k0 k1 ⟨f1, e1⟩ ih
    have hP1 : zStP s V1 a := hP.of (by rw [f1 a (by omega)]) (by rw [f1 a (by omega)]) (f1 _ (by omega)) (f1 _ (by omega))
    have hC1 : zStC ρ V1 a := hC.rows (fun z z0 z1 => f1 z (by omega))
    have vn := hC1.1
    have w0 : V1 134 0 = .ref 135 := by rw [f1 134 (by omega)]; exact v0
    have hnl := zNeeds_lt hW k
    by_cases c : zin (zDown ρ) k = true
    · have := ih (zput V1 135 k (zi ((zNeeds ρ k &&& zDown ρ : Nat) : Int))) ⟨fun z hz => (zput_row hz).trans (f1 z hz), fun x x0 x1 hx => by
        by_cases e : x = k
        · rw [e, zput_at]
        · rw [zput_i e]; exact e1 x x0 (by omega) hx⟩
      conv => rw [zb_37_1]
      simp (disch := first | assumption | exact zk_37 | ((repeat (first | exact z1n | refine z1I ?_ | refine z1R ?_)); done) | exact rfl | omega | decide) only [zb_37_2, r_aload_1, r_inv_1_0, r_inv_1_1, r_inv_1_2, r_inv_1_3, r_inv_1_4, r_K0, r_K1, r_istore_2i, r_istore_2r, r_istore_2j, r_iconst, r_istore_3i, r_istore_3r, r_istore_3j, r_goto_w, r_iload_3, r_gf_448, r_icmp_ge, r_iload_2, r_inv_2_0, r_inv_2_1, r_inv_2_2, r_inv_2_3, r_inv_2_4, r_if_eq, r_aload_0, r_gf_256, r_iand, r_iastore, r_iinc_3i, r_iinc_3r, r_iinc_3j, r_goto, r_iret, r_bret_0, r_bret_1, vn, w0, c_contains, c, c_needs (hC := hC1), zand_n, ↓reduceIte, not_true_eq_false, not_false_eq_true, Int.reduceEq, Int.reduceLE, Int.reduceLT, Int.reduceAdd, Int.reduceNeg, Int.reduceMul, Int.reduceSub, Int.reduceToNat]
      rw [if_neg (by omega)]
      exact this
    · have := ih V1 ⟨f1, fun x x0 x1 hx => by
        by_cases e : x = k
        · rw [e] at hx; exact absurd hx c
        · exact e1 x x0 (by omega) hx⟩
      conv => rw [zb_37_1]
      simp (disch := first | assumption | exact zk_37 | ((repeat (first | exact z1n | refine z1I ?_ | refine z1R ?_)); done) | exact rfl | omega | decide) only [zb_37_2, r_aload_1, r_inv_1_0, r_inv_1_1, r_inv_1_2, r_inv_1_3, r_inv_1_4, r_K0, r_K1, r_istore_2i, r_istore_2r, r_istore_2j, r_iconst, r_istore_3i, r_istore_3r, r_istore_3j, r_goto_w, r_iload_3, r_gf_448, r_icmp_ge, r_iload_2, r_inv_2_0, r_inv_2_1, r_inv_2_2, r_inv_2_3, r_inv_2_4, r_if_eq, r_aload_0, r_gf_256, r_iand, r_iastore, r_iinc_3i, r_iinc_3r, r_iinc_3j, r_goto, r_iret, r_bret_0, r_bret_1, vn, w0, c_contains, c, ↓reduceIte, not_true_eq_false, not_false_eq_true, Int.reduceEq, Int.reduceLE, Int.reduceLT, Int.reduceAdd, Int.reduceNeg, Int.reduceMul, Int.reduceSub, Int.reduceToNat]
      rw [if_neg (by omega)]
      exact this
  · rintro V1 ⟨f1, e1⟩
    have vn : V1 a 0 = zi ρ.n := by rw [f1 a (by omega)]; exact hC.1
    simp (disch := first | assumption | exact zk_37 | ((repeat (first | exact z1n | refine z1I ?_ | refine z1R ?_)); done) | exact rfl | omega | decide) only [zb_37_1, zb_37_3, r_aload_1, r_inv_1_0, r_inv_1_1, r_inv_1_2, r_inv_1_3, r_inv_1_4, r_K0, r_K1, r_istore_2i, r_istore_2r, r_istore_2j, r_iconst, r_istore_3i, r_istore_3r, r_istore_3j, r_goto_w, r_iload_3, r_gf_448, r_icmp_ge, r_iload_2, r_inv_2_0, r_inv_2_1, r_inv_2_2, r_inv_2_3, r_inv_2_4, r_if_eq, r_aload_0, r_gf_256, r_iand, r_iastore, r_iinc_3i, r_iinc_3r, r_iinc_3j, r_goto, r_iret, r_bret_0, r_bret_1, vn, Int.le_refl, ↓reduceIte, not_true_eq_false, not_false_eq_true, Int.reduceEq, Int.reduceLE, Int.reduceLT, Int.reduceAdd, Int.reduceNeg, Int.reduceMul, Int.reduceSub, Int.reduceToNat]
    exact hQ V1 f1 e1
set_option maxRecDepth 20000 in
theorem c_timeFor (hd : 2 ≤ d) (hP : zStP s V a) (hC : zStC ρ V a) (hW : zWF ρ) {u : Nat} (hu : u < 4096) : zcall d 44 [.ref a, zi (u : Nat)] (s, V) Q = Q (.inl (some (zi (zYt ρ u)))) (s, V) := by
  obtain ⟨n0, n1, cc0, cc1⟩ := hW.1
  have tO := hP.1
  have vA := hP.2.1
  have tA := hP.2.2.1
  have lA := hP.2.2.2.1
  have vn := hC.1
  have vc := hC.2.1
  have vs3 : V (a + 1) 3 = .ref (a + 5) := (hP.2.2.2.2.2.2.2.1 3 (by omega)).1
  have ts3 : s.tg (a + 5) = 20 := (hP.2.2.2.2.2.2.2.1 3 (by omega)).2.1
  have ls3 : s.ln (a + 5) = 12 := (hP.2.2.2.2.2.2.2.1 3 (by omega)).2.2
  have es3 : ∀ x : Int, 0 ≤ x → x < ρ.n → V (a + 5) x = zi (ρ.S 3 x) := hC.2.2.1 3 (by omega)
  obtain ⟨d, rfl⟩ : ∃ e, d = e + 1 := ⟨d - 1, by omega⟩
  simp (disch := first | assumption | omega) only [zc_44]
  simp (disch := first | assumption | exact zk_44 | ((repeat (first | exact z1n | refine z1I ?_ | refine z1R ?_)); done) | exact rfl | omega | decide) only [zb_44_0, r_iconst, r_istore_2i, r_istore_2r, r_istore_2j, r_istore_3i, r_istore_3r, r_istore_3j, r_goto_w, r_iload_3, r_aload_0, r_gf_448, r_icmp_ge, r_iload_1, r_inv_2_0, r_inv_2_1, r_inv_2_2, r_inv_2_3, r_inv_2_4, r_K0, r_K1, r_if_eq, r_iload_2, r_gf_450, r_aaload, r_ial, r_ial30, r_ial32, r_iadd, r_iinc_3i, r_iinc_3r, r_iinc_3j, r_goto, r_iret, r_bret_0, r_bret_1, vA, vn, vc, vs3, es3, ↓reduceIte, not_true_eq_false, not_false_eq_true, Int.reduceEq, Int.reduceLE, Int.reduceLT, Int.reduceAdd, Int.reduceNeg, Int.reduceMul, Int.reduceSub, Int.reduceToNat]
  have hch := z_chainI (F := fun k => zwp (zcall d) 44 Q (zB 44 1) [.ref a, zi (u : Nat), zi (zfo (fun x t => t + (if zin u x = true then ρ.S 3 x else 0)) 0 k), zi k] [] (s, V)) n0 (fun k k0 k1 => by
    have w := (hW.2.1 k k0 k1).2.2.2.1
    have hv := es3 k k0 k1
    conv => lhs; rw [zb_44_1]
    rw [zfo_s k0]
    by_cases c : zin u k = true
    · rw [if_pos c]
      simp (disch := first | assumption | exact zk_44 | ((repeat (first | exact z1n | refine z1I ?_ | refine z1R ?_)); done) | exact rfl | omega | decide) only [zb_44_2, r_iconst, r_istore_2i, r_istore_2r, r_istore_2j, r_istore_3i, r_istore_3r, r_istore_3j, r_goto_w, r_iload_3, r_aload_0, r_gf_448, r_icmp_ge, r_iload_1, r_inv_2_0, r_inv_2_1, r_inv_2_2, r_inv_2_3, r_inv_2_4, r_K0, r_K1, r_if_eq, r_iload_2, r_gf_450, r_aaload, r_ial, r_ial30, r_ial32, r_iadd, r_iinc_3i, r_iinc_3r, r_iinc_3j, r_goto, r_iret, r_bret_0, r_bret_1, vA, vn, vc, vs3, es3, c_contains, c, hv, ↓reduceIte, not_true_eq_false, not_false_eq_true, Int.reduceEq, Int.reduceLE, Int.reduceLT, Int.reduceAdd, Int.reduceNeg, Int.reduceMul, Int.reduceSub, Int.reduceToNat]
      rw [if_neg (by omega)]
    · rw [if_neg c, Int.add_zero]
      simp (disch := first | assumption | exact zk_44 | ((repeat (first | exact z1n | refine z1I ?_ | refine z1R ?_)); done) | exact rfl | omega | decide) only [zb_44_2, r_iconst, r_istore_2i, r_istore_2r, r_istore_2j, r_istore_3i, r_istore_3r, r_istore_3j, r_goto_w, r_iload_3, r_aload_0, r_gf_448, r_icmp_ge, r_iload_1, r_inv_2_0, r_inv_2_1, r_inv_2_2, r_inv_2_3, r_inv_2_4, r_K0, r_K1, r_if_eq, r_iload_2, r_gf_450, r_aaload, r_ial, r_ial30, r_ial32, r_iadd, r_iinc_3i, r_iinc_3r, r_iinc_3j, r_goto, r_iret, r_bret_0, r_bret_1, vA, vn, vc, vs3, es3, c_contains, c, hv, Bool.false_eq_true, ↓reduceIte, not_true_eq_false, not_false_eq_true, Int.reduceEq, Int.reduceLE, Int.reduceLT, Int.reduceAdd, Int.reduceNeg, Int.reduceMul, Int.reduceSub, Int.reduceToNat]
      rw [if_neg (by omega)])
  rw [zfo_0] at hch
  rw [hch]
  simp (disch := first | assumption | exact zk_44 | ((repeat (first | exact z1n | refine z1I ?_ | refine z1R ?_)); done) | exact rfl | omega | decide) only [zb_44_1, zb_44_3, r_iconst, r_istore_2i, r_istore_2r, r_istore_2j, r_istore_3i, r_istore_3r, r_istore_3j, r_goto_w, r_iload_3, r_aload_0, r_gf_448, r_icmp_ge, r_iload_1, r_inv_2_0, r_inv_2_1, r_inv_2_2, r_inv_2_3, r_inv_2_4, r_K0, r_K1, r_if_eq, r_iload_2, r_gf_450, r_aaload, r_ial, r_ial30, r_ial32, r_iadd, r_iinc_3i, r_iinc_3r, r_iinc_3j, r_goto, r_iret, r_bret_0, r_bret_1, vA, vn, vc, vs3, es3, Int.le_refl, ↓reduceIte, not_true_eq_false, not_false_eq_true, Int.reduceEq, Int.reduceLE, Int.reduceLT, Int.reduceAdd, Int.reduceNeg, Int.reduceMul, Int.reduceSub, Int.reduceToNat]
  rfl
set_option maxRecDepth 20000 in
theorem c_settle (hd : 3 ≤ d) (hR : zRvP s V) (hP : zStP s V a) (hC : zStC ρ V a) (hW : zWF ρ) (hB : zBf ρ V) (hr : V 134 3 = .ref r) (hrt : s.tg r = 20) (hrl : s.ln r = 4096) {u : Nat} (hu : u < 4096) (hs : zSub u (zDown ρ)) (hT : ∀ x, 0 ≤ x → x < ρ.n → zYc ρ u x = true → V r ((u ||| zone x : Nat) : Int) = zi (zYr ρ (u ||| zone x))) (hQ : Q (.inl (some (zi (if u = zDown ρ then -1 else zYx ρ u)))) (s, zput V r (u : Nat) (zi (zYr ρ u)))) : zcall d 43 [.ref 134, .ref a, zi (zDown ρ : Nat), zi (u : Nat)] (s, V) Q := by
  obtain ⟨n0, n1, cc0, cc1⟩ := hW.1
  obtain ⟨t1, ⟨v0, -, -⟩, ⟨t2, l2⟩, -⟩ := id hR
  have hD := zDown_lt hW
  have hDf : zdf (zDown ρ) u < 4096 := zdf_lt hD
  have hti := zYt_rng hW (u := u)
  have tO := hP.1
  have vA := hP.2.1
  have tA := hP.2.2.1
  have lA := hP.2.2.2.1
  have vn := hC.1
  have vc := hC.2.1
  have vs3 : V (a + 1) 3 = .ref (a + 5) := (hP.2.2.2.2.2.2.2.1 3 (by omega)).1
  have ts3 : s.tg (a + 5) = 20 := (hP.2.2.2.2.2.2.2.1 3 (by omega)).2.1
  have ls3 : s.ln (a + 5) = 12 := (hP.2.2.2.2.2.2.2.1 3 (by omega)).2.2
  have es3 : ∀ x : Int, 0 ≤ x → x < ρ.n → V (a + 5) x = zi (ρ.S 3 x) := hC.2.2.1 3 (by omega)
  have vs4 : V (a + 1) 4 = .ref (a + 6) := (hP.2.2.2.2.2.2.2.1 4 (by omega)).1
  have ts4 : s.tg (a + 6) = 20 := (hP.2.2.2.2.2.2.2.1 4 (by omega)).2.1
  have ls4 : s.ln (a + 6) = 12 := (hP.2.2.2.2.2.2.2.1 4 (by omega)).2.2
  have es4 : ∀ x : Int, 0 ≤ x → x < ρ.n → V (a + 6) x = zi (ρ.S 4 x) := hC.2.2.1 4 (by omega)
  obtain ⟨d, rfl⟩ : ∃ e, d = e + 1 := ⟨d - 1, by omega⟩
  rw [zc_43 t1]
  simp (disch := first | assumption | exact zk_43 | ((repeat (first | exact z1n | refine z1I ?_ | refine z1R ?_)); done) | exact rfl | omega | decide) only [zb_43_0, r_aload_1, r_iload_3, r_inv_2_0, r_inv_2_1, r_inv_2_2, r_inv_2_3, r_inv_2_4, r_K0, r_K1, r_istore_4i, r_istore_4r, r_istore_4j, r_iconst, r_istore_5i, r_istore_5r, r_istore_5j, r_istore_6i, r_istore_6r, r_istore_6j, r_istore_7i, r_istore_7r, r_istore_7j, r_goto_w, r_iload_7, r_gf_448, r_icmp_ge, r_iload_2, r_ixor, r_iand, r_if_eq, r_aload_0, r_gf_256, r_ial, r_ial30, r_ial32, r_goto, r_iload_4, r_gf_450, r_aaload, r_iadd, r_istore_8i, r_istore_8r, r_istore_8j, r_iload_8, r_imul, r_gf_259, r_ishl, r_ior, r_istore_9i, r_istore_9r, r_istore_9j, r_iload_5, r_icmp_eq, r_iload_9, r_iload_6, r_iinc_7i, r_iinc_7r, r_iinc_7j, r_iastore, r_iret, r_bret_0, r_bret_1, vA, vn, vc, vs3, es3, vs4, es4, c_timeFor (hC := hC), ↓reduceIte, not_true_eq_false, not_false_eq_true, Int.reduceEq, Int.reduceLE, Int.reduceLT, Int.reduceAdd, Int.reduceNeg, Int.reduceMul, Int.reduceSub, Int.reduceToNat]
  have hlp := z_iter (i := 0) (n := ρ.n) (I := fun _ (_ : Value × Value) => True) (P := fun k q => zwp (zcall d) 43 Q (zB 43 1) [.ref 134, .ref a, zi (zDown ρ : Nat), zi (u : Nat), zi (zYt ρ u), zi (zYs ρ u k).1, zi (zYs ρ u k).2, zi k, q.1, q.2] [] (s, V)) n0
  refine hlp ?_ ?_ (zJ, zJ) trivial
  · rintro k ⟨x8, x9⟩ k0 k1 - ih
    have hv3 := es3 k k0 k1
    have hv4 := es4 k k0 k1
    have w3 := (hW.2.1 k k0 k1).2.2.2.1
    have w4 := (hW.2.1 k k0 k1).2.2.2.2.1
    have hrg := zYs_rng hW hu hs k0 (by omega)
    have hup : u ||| zone k < 4096 := zor_lt hu (zone_lt (by omega))
    have hzo : zone k < 4096 := zone_lt (by omega)
    have hnl : zNeeds ρ k &&& zDown ρ < 4096 := zand_lt (zNeeds_lt hW k)
    have hzl : zdf (zNeeds ρ k &&& zDown ρ) u < 4096 := zdf_lt hnl
    show zwp (zcall d) 43 Q (zB 43 1) [.ref 134, .ref a, zi (zDown ρ : Nat), zi (u : Nat), zi (zYt ρ u), zi (zYs ρ u k).1, zi (zYs ρ u k).2, zi k, x8, x9] [] (s, V)
    conv => rw [zb_43_1]
    have ih' : ∀ x8 x9 : Value, zwp (zcall d) 43 Q (zB 43 1) [.ref 134, .ref a, zi (zDown ρ : Nat), zi (u : Nat), zi (zYt ρ u), zi (zYs ρ u (k + 1)).1, zi (zYs ρ u (k + 1)).2, zi (k + 1), x8, x9] [] (s, V) := fun x8 x9 => ih (x8, x9) trivial
    rw [zYs_s k0] at ih'
    by_cases c1 : zin (zdf (zDown ρ) u) k = true
    · have hcd : zin (zDown ρ) k = true := by rw [zin_df, Bool.and_eq_true] at c1; exact c1.1
      have hb := hB k k0 k1 hcd
      by_cases c2 : zdf (zNeeds ρ k &&& zDown ρ) u = 0
      · have hc : zYc ρ u k = true := by unfold zYc; rw [c1, decide_eq_true c2]; rfl
        have hk := hT k k0 k1 hc
        have hq := zYq_rng hW hu hs k0 k1 hc
        have hpr := zYp hW (u := u) k0 k1
        have hyr := zYr_rng hW 4096 (u ||| zone k) hup (by omega) (zSub_up k0 hs hc)
        have hqe : zYq ρ u k = ρ.S 4 k * (zYt ρ u + ρ.S 3 k) + zYr ρ (u ||| zone k) := zYk_can hc
        have c2' : ((zdf (zNeeds ρ k &&& zDown ρ) u : Nat) : Int) = 0 := by rw [c2]; rfl
        rw [if_pos hc] at ih'
        rw [hqe] at hq ih'
        simp (disch := first | assumption | exact zk_43 | ((repeat (first | exact z1n | refine z1I ?_ | refine z1R ?_)); done) | exact rfl | omega | decide) only [zb_43_2, r_aload_1, r_iload_3, r_inv_2_0, r_inv_2_1, r_inv_2_2, r_inv_2_3, r_inv_2_4, r_K0, r_K1, r_istore_4i, r_istore_4r, r_istore_4j, r_iconst, r_istore_5i, r_istore_5r, r_istore_5j, r_istore_6i, r_istore_6r, r_istore_6j, r_istore_7i, r_istore_7r, r_istore_7j, r_goto_w, r_iload_7, r_gf_448, r_icmp_ge, r_iload_2, r_ixor, r_iand, r_if_eq, r_aload_0, r_gf_256, r_ial, r_ial30, r_ial32, r_goto, r_iload_4, r_gf_450, r_aaload, r_iadd, r_istore_8i, r_istore_8r, r_istore_8j, r_iload_8, r_imul, r_gf_259, r_ishl, r_ior, r_istore_9i, r_istore_9r, r_istore_9j, r_iload_5, r_icmp_eq, r_iload_9, r_iload_6, r_iinc_7i, r_iinc_7r, r_iinc_7j, r_iastore, r_iret, r_bret_0, r_bret_1, vA, vn, vc, vs3, es3, vs4, es4, zandn_n, c_contains, c1, hb, c2', v0, hr, hv3, hv4, zshl_z, zor_n, hk, ↓reduceIte, not_true_eq_false, not_false_eq_true, Int.reduceEq, Int.reduceLE, Int.reduceLT, Int.reduceAdd, Int.reduceNeg, Int.reduceMul, Int.reduceSub, Int.reduceToNat]
        rw [if_neg (by omega)]
        generalize ρ.S 4 k * (zYt ρ u + ρ.S 3 k) + zYr ρ (u ||| zone k) = co at *
        by_cases q1 : (zYs ρ u k).1 = -1
        · rw [if_pos q1]
          rw [if_pos (Or.inl q1)] at ih'
          have := ih' (zi (zYt ρ u + ρ.S 3 k)) (zi co)
          simp (disch := first | assumption | exact zk_43 | ((repeat (first | exact z1n | refine z1I ?_ | refine z1R ?_)); done) | exact rfl | omega | decide) only [zb_43_3, zb_43_4, r_aload_1, r_iload_3, r_inv_2_0, r_inv_2_1, r_inv_2_2, r_inv_2_3, r_inv_2_4, r_K0, r_K1, r_istore_4i, r_istore_4r, r_istore_4j, r_iconst, r_istore_5i, r_istore_5r, r_istore_5j, r_istore_6i, r_istore_6r, r_istore_6j, r_istore_7i, r_istore_7r, r_istore_7j, r_goto_w, r_iload_7, r_gf_448, r_icmp_ge, r_iload_2, r_ixor, r_iand, r_if_eq, r_aload_0, r_gf_256, r_ial, r_ial30, r_ial32, r_goto, r_iload_4, r_gf_450, r_aaload, r_iadd, r_istore_8i, r_istore_8r, r_istore_8j, r_iload_8, r_imul, r_gf_259, r_ishl, r_ior, r_istore_9i, r_istore_9r, r_istore_9j, r_iload_5, r_icmp_eq, r_iload_9, r_iload_6, r_iinc_7i, r_iinc_7r, r_iinc_7j, r_iastore, r_iret, r_bret_0, r_bret_1, vA, vn, vc, vs3, es3, vs4, es4, ↓reduceIte, not_true_eq_false, not_false_eq_true, Int.reduceEq, Int.reduceLE, Int.reduceLT, Int.reduceAdd, Int.reduceNeg, Int.reduceMul, Int.reduceSub, Int.reduceToNat]
          exact this
        · rw [if_neg q1]
          by_cases q2 : (zYs ρ u k).2 ≤ co
          · rw [if_pos q2]
            rw [if_neg (by omega)] at ih'
            have := ih' (zi (zYt ρ u + ρ.S 3 k)) (zi co)
            simp (disch := first | assumption | exact zk_43 | ((repeat (first | exact z1n | refine z1I ?_ | refine z1R ?_)); done) | exact rfl | omega | decide) only [zb_43_3, zb_43_4, r_aload_1, r_iload_3, r_inv_2_0, r_inv_2_1, r_inv_2_2, r_inv_2_3, r_inv_2_4, r_K0, r_K1, r_istore_4i, r_istore_4r, r_istore_4j, r_iconst, r_istore_5i, r_istore_5r, r_istore_5j, r_istore_6i, r_istore_6r, r_istore_6j, r_istore_7i, r_istore_7r, r_istore_7j, r_goto_w, r_iload_7, r_gf_448, r_icmp_ge, r_iload_2, r_ixor, r_iand, r_if_eq, r_aload_0, r_gf_256, r_ial, r_ial30, r_ial32, r_goto, r_iload_4, r_gf_450, r_aaload, r_iadd, r_istore_8i, r_istore_8r, r_istore_8j, r_iload_8, r_imul, r_gf_259, r_ishl, r_ior, r_istore_9i, r_istore_9r, r_istore_9j, r_iload_5, r_icmp_eq, r_iload_9, r_iload_6, r_iinc_7i, r_iinc_7r, r_iinc_7j, r_iastore, r_iret, r_bret_0, r_bret_1, vA, vn, vc, vs3, es3, vs4, es4, ↓reduceIte, not_true_eq_false, not_false_eq_true, Int.reduceEq, Int.reduceLE, Int.reduceLT, Int.reduceAdd, Int.reduceNeg, Int.reduceMul, Int.reduceSub, Int.reduceToNat]
            exact this
          · rw [if_neg q2]
            rw [if_pos (by omega)] at ih'
            have := ih' (zi (zYt ρ u + ρ.S 3 k)) (zi co)
            simp (disch := first | assumption | exact zk_43 | ((repeat (first | exact z1n | refine z1I ?_ | refine z1R ?_)); done) | exact rfl | omega | decide) only [zb_43_3, zb_43_4, r_aload_1, r_iload_3, r_inv_2_0, r_inv_2_1, r_inv_2_2, r_inv_2_3, r_inv_2_4, r_K0, r_K1, r_istore_4i, r_istore_4r, r_istore_4j, r_iconst, r_istore_5i, r_istore_5r, r_istore_5j, r_istore_6i, r_istore_6r, r_istore_6j, r_istore_7i, r_istore_7r, r_istore_7j, r_goto_w, r_iload_7, r_gf_448, r_icmp_ge, r_iload_2, r_ixor, r_iand, r_if_eq, r_aload_0, r_gf_256, r_ial, r_ial30, r_ial32, r_goto, r_iload_4, r_gf_450, r_aaload, r_iadd, r_istore_8i, r_istore_8r, r_istore_8j, r_iload_8, r_imul, r_gf_259, r_ishl, r_ior, r_istore_9i, r_istore_9r, r_istore_9j, r_iload_5, r_icmp_eq, r_iload_9, r_iload_6, r_iinc_7i, r_iinc_7r, r_iinc_7j, r_iastore, r_iret, r_bret_0, r_bret_1, vA, vn, vc, vs3, es3, vs4, es4, ↓reduceIte, not_true_eq_false, not_false_eq_true, Int.reduceEq, Int.reduceLE, Int.reduceLT, Int.reduceAdd, Int.reduceNeg, Int.reduceMul, Int.reduceSub, Int.reduceToNat]
            exact this
      · have hc : ¬ zYc ρ u k = true := fun e => c2 (zYc_in e).2.2
        have c2' : ¬ ((zdf (zNeeds ρ k &&& zDown ρ) u : Nat) : Int) = 0 := by omega
        rw [if_neg hc] at ih'
        have := ih' x8 x9
        simp (disch := first | assumption | exact zk_43 | ((repeat (first | exact z1n | refine z1I ?_ | refine z1R ?_)); done) | exact rfl | omega | decide) only [zb_43_4, r_aload_1, r_iload_3, r_inv_2_0, r_inv_2_1, r_inv_2_2, r_inv_2_3, r_inv_2_4, r_K0, r_K1, r_istore_4i, r_istore_4r, r_istore_4j, r_iconst, r_istore_5i, r_istore_5r, r_istore_5j, r_istore_6i, r_istore_6r, r_istore_6j, r_istore_7i, r_istore_7r, r_istore_7j, r_goto_w, r_iload_7, r_gf_448, r_icmp_ge, r_iload_2, r_ixor, r_iand, r_if_eq, r_aload_0, r_gf_256, r_ial, r_ial30, r_ial32, r_goto, r_iload_4, r_gf_450, r_aaload, r_iadd, r_istore_8i, r_istore_8r, r_istore_8j, r_iload_8, r_imul, r_gf_259, r_ishl, r_ior, r_istore_9i, r_istore_9r, r_istore_9j, r_iload_5, r_icmp_eq, r_iload_9, r_iload_6, r_iinc_7i, r_iinc_7r, r_iinc_7j, r_iastore, r_iret, r_bret_0, r_bret_1, vA, vn, vc, vs3, es3, vs4, es4, zandn_n, c_contains, c1, hb, c2', v0, ↓reduceIte, not_true_eq_false, not_false_eq_true, Int.reduceEq, Int.reduceLE, Int.reduceLT, Int.reduceAdd, Int.reduceNeg, Int.reduceMul, Int.reduceSub, Int.reduceToNat]
        rw [if_neg (by omega)]
        exact this
    · have hc : ¬ zYc ρ u k = true := fun e => c1 (by unfold zYc at e; rw [Bool.and_eq_true] at e; exact e.1)
      rw [if_neg hc] at ih'
      have := ih' x8 x9
      simp (disch := first | assumption | exact zk_43 | ((repeat (first | exact z1n | refine z1I ?_ | refine z1R ?_)); done) | exact rfl | omega | decide) only [zb_43_4, r_aload_1, r_iload_3, r_inv_2_0, r_inv_2_1, r_inv_2_2, r_inv_2_3, r_inv_2_4, r_K0, r_K1, r_istore_4i, r_istore_4r, r_istore_4j, r_iconst, r_istore_5i, r_istore_5r, r_istore_5j, r_istore_6i, r_istore_6r, r_istore_6j, r_istore_7i, r_istore_7r, r_istore_7j, r_goto_w, r_iload_7, r_gf_448, r_icmp_ge, r_iload_2, r_ixor, r_iand, r_if_eq, r_aload_0, r_gf_256, r_ial, r_ial30, r_ial32, r_goto, r_iload_4, r_gf_450, r_aaload, r_iadd, r_istore_8i, r_istore_8r, r_istore_8j, r_iload_8, r_imul, r_gf_259, r_ishl, r_ior, r_istore_9i, r_istore_9r, r_istore_9j, r_iload_5, r_icmp_eq, r_iload_9, r_iload_6, r_iinc_7i, r_iinc_7r, r_iinc_7j, r_iastore, r_iret, r_bret_0, r_bret_1, vA, vn, vc, vs3, es3, vs4, es4, zandn_n, c_contains, c1, ↓reduceIte, not_true_eq_false, not_false_eq_true, Int.reduceEq, Int.reduceLE, Int.reduceLT, Int.reduceAdd, Int.reduceNeg, Int.reduceMul, Int.reduceSub, Int.reduceToNat]
      rw [if_neg (by omega)]
      exact this
  · rintro ⟨x8, x9⟩ -
    rw [zYs_fin hW hu hs]
    simp (disch := first | assumption | exact zk_43 | ((repeat (first | exact z1n | refine z1I ?_ | refine z1R ?_)); done) | exact rfl | omega | decide) only [zb_43_1, zb_43_5, r_aload_1, r_iload_3, r_inv_2_0, r_inv_2_1, r_inv_2_2, r_inv_2_3, r_inv_2_4, r_K0, r_K1, r_istore_4i, r_istore_4r, r_istore_4j, r_iconst, r_istore_5i, r_istore_5r, r_istore_5j, r_istore_6i, r_istore_6r, r_istore_6j, r_istore_7i, r_istore_7r, r_istore_7j, r_goto_w, r_iload_7, r_gf_448, r_icmp_ge, r_iload_2, r_ixor, r_iand, r_if_eq, r_aload_0, r_gf_256, r_ial, r_ial30, r_ial32, r_goto, r_iload_4, r_gf_450, r_aaload, r_iadd, r_istore_8i, r_istore_8r, r_istore_8j, r_iload_8, r_imul, r_gf_259, r_ishl, r_ior, r_istore_9i, r_istore_9r, r_istore_9j, r_iload_5, r_icmp_eq, r_iload_9, r_iload_6, r_iinc_7i, r_iinc_7r, r_iinc_7j, r_iastore, r_iret, r_bret_0, r_bret_1, vA, vn, vc, vs3, es3, vs4, es4, hr, Int.le_refl, ↓reduceIte, not_true_eq_false, not_false_eq_true, Int.reduceEq, Int.reduceLE, Int.reduceLT, Int.reduceAdd, Int.reduceNeg, Int.reduceMul, Int.reduceSub, Int.reduceToNat]
    exact hQ
/-- the row of costs -/
def zCs (s : zS) (V : zV) (r : Nat) : Prop := V 134 3 = .ref r ∧ (r = 138 ∨ 192 ≤ r) ∧ r < s.sz ∧ s.tg r = 20 ∧ s.ln r = 4096
def zCt (ρ : zR) (V : zV) (r : Nat) (f : Nat) : Prop := ∀ t : Nat, t < 4096 → f ≤ t → zSub t (zDown ρ) → V r (t : Int) = zi (zYr ρ t)
set_option maxRecDepth 20000 in
theorem c_least3 (hd : 4 ≤ d) (hR : zRvP s V) (hP : zStP s V a) (hC : zStC ρ V a) (hW : zWF ρ) (ha : a + 18 ≤ 134) (hB : zBf ρ V) (hr : zCs s V r) (hQ : ∀ V', (∀ q : Nat, q ≠ r → V' q = V q) → zCt ρ V' r 0 → Q (.inl (some (zi (zYr ρ 0)))) (s, V')) : zwp (zcall d) 42 Q (zB 42 1) [.ref 134, .ref a, zi (zDown ρ : Nat), zJ] [] (s, V) := by
  obtain ⟨n0, n1, cc0, cc1⟩ := hW.1
  obtain ⟨r1, r2, r3, r4, r5⟩ := hr
  have t1 := hR.1
  have hD := zDown_lt hW
  simp (disch := first | assumption | exact zk_42 | ((repeat (first | exact z1n | refine z1I ?_ | refine z1R ?_)); done) | exact rfl | omega | decide) only [zb_42_1, r_aload_0, r_aload_1, r_inv_2_0, r_inv_2_1, r_inv_2_2, r_inv_2_3, r_inv_2_4, r_K0, r_K1, r_istore_2i, r_istore_2r, r_istore_2j, r_gf_259, r_alen, r_if_ne, r_iconst, r_newa_int, r_pf_259, r_goto_w, r_iload_2, r_iastore, r_istore_3i, r_istore_3r, r_istore_3j, r_iload_3, r_if_le, r_isub, r_iand, r_inv_4_0, r_inv_4_1, r_inv_4_2, r_inv_4_3, r_inv_4_4, r_pop_i, r_pop_r, r_goto, r_ial, r_ial30, r_ial32, r_iret, r_bret_0, r_bret_1, r1, ↓reduceIte, not_true_eq_false, not_false_eq_true, Int.reduceEq, Int.reduceLE, Int.reduceLT, Int.reduceAdd, Int.reduceNeg, Int.reduceMul, Int.reduceSub, Int.reduceToNat]
  have main : ∀ (f : Nat), f < 4096 → zSub f (zDown ρ) → ∀ V1 : zV, (∀ q : Nat, q ≠ r → V1 q = V q) → zCt ρ V1 r f → zwp (zcall d) 42 Q (zB 42 2) [.ref 134, .ref a, zi (zDown ρ : Nat), zi (f : Nat)] [] (s, V1) := by
    intro f
    induction f using Nat.strongRecOn with
    | ind f ih =>
      intro hf hs V1 f1 ht
      have w3 : V1 134 3 = .ref r := by rw [f1 134 (by omega)]; exact r1
      by_cases hz : f = 0
      · have h0 := ht 0 (by omega) (by omega) (fun x _ _ hx => by rw [zin_zero] at hx; cases hx)
        have h0 : V1 r 0 = zi (zYr ρ 0) := h0
        have := hQ V1 f1 (by rw [hz] at ht; exact ht)
        rw [hz]
        have e0 : ((0 : Nat) : Int) = 0 := rfl
        simp (disch := first | assumption | exact zk_42 | ((repeat (first | exact z1n | refine z1I ?_ | refine z1R ?_)); done) | exact rfl | omega | decide) only [zb_42_2, zb_42_3, r_aload_0, r_aload_1, r_inv_2_0, r_inv_2_1, r_inv_2_2, r_inv_2_3, r_inv_2_4, r_K0, r_K1, r_istore_2i, r_istore_2r, r_istore_2j, r_gf_259, r_alen, r_if_ne, r_iconst, r_newa_int, r_pf_259, r_goto_w, r_iload_2, r_iastore, r_istore_3i, r_istore_3r, r_istore_3j, r_iload_3, r_if_le, r_isub, r_iand, r_inv_4_0, r_inv_4_1, r_inv_4_2, r_inv_4_3, r_inv_4_4, r_pop_i, r_pop_r, r_goto, r_ial, r_ial30, r_ial32, r_iret, r_bret_0, r_bret_1, w3, h0, e0, Int.le_refl, ↓reduceIte, not_true_eq_false, not_false_eq_true, Int.reduceEq, Int.reduceLE, Int.reduceLT, Int.reduceAdd, Int.reduceNeg, Int.reduceMul, Int.reduceSub, Int.reduceToNat]
        exact this
      · have hand : f &&& zDown ρ = f := (zsub_and hf).mp hs
        have hlt : (f - 1) &&& zDown ρ < f := by have : (f - 1) &&& zDown ρ ≤ f - 1 := Nat.and_le_left; omega
        have hg : (f - 1) &&& zDown ρ < 4096 := by omega
        have hgs : zSub ((f - 1) &&& zDown ρ) (zDown ρ) := fun x x0 x1 hx => by rw [zin_and, Bool.and_eq_true] at hx; exact hx.2
        have hge : ∀ t : Nat, t < 4096 → zSub t (zDown ρ) → (f - 1) &&& zDown ρ < t → f ≤ t := fun t ht4 hts h1 => by
          rcases Nat.lt_or_ge t f with q | q
          · have := zsub_next (zDown ρ) f t hand ((zsub_and ht4).mp hts) q
            omega
          · exact q
        have e1 : ((f : Nat) : Int) - 1 = ((f - 1 : Nat) : Int) := by omega
        have fl : f - 1 < 2147483648 := by omega
        have fD : zDown ρ < 2147483648 := by omega
        have hand2 := zand_n fl fD
        conv => rw [zb_42_2]
        simp (disch := first | assumption | exact zk_42 | ((repeat (first | exact z1n | refine z1I ?_ | refine z1R ?_)); done) | exact rfl | omega | decide) only [r_aload_0, r_aload_1, r_inv_2_0, r_inv_2_1, r_inv_2_2, r_inv_2_3, r_inv_2_4, r_K0, r_K1, r_istore_2i, r_istore_2r, r_istore_2j, r_gf_259, r_alen, r_if_ne, r_iconst, r_newa_int, r_pf_259, r_goto_w, r_iload_2, r_iastore, r_istore_3i, r_istore_3r, r_istore_3j, r_iload_3, r_if_le, r_isub, r_iand, r_inv_4_0, r_inv_4_1, r_inv_4_2, r_inv_4_3, r_inv_4_4, r_pop_i, r_pop_r, r_goto, r_ial, r_ial30, r_ial32, r_iret, r_bret_0, r_bret_1, e1, hand2, ↓reduceIte, not_true_eq_false, not_false_eq_true, Int.reduceEq, Int.reduceLE, Int.reduceLT, Int.reduceAdd, Int.reduceNeg, Int.reduceMul, Int.reduceSub, Int.reduceToNat]
        rw [if_neg (by omega)]
        generalize hgg : (f - 1) &&& zDown ρ = g at *
        have hP1 : zStP s V1 a := hP.of (by rw [f1 a (by omega)]) (by rw [f1 a (by omega)]) (f1 _ (by omega)) (f1 _ (by omega))
        have hC1 : zStC ρ V1 a := hC.rows (fun z z0 z1 => f1 z (by omega))
        have hR1 : zRvP s V1 := by unfold zRvP; rw [f1 134 (by omega)]; exact hR
        have hB1 : zBf ρ V1 := by unfold zBf; rw [f1 135 (by omega)]; exact hB
        refine c_settle (by omega) hR1 hP1 hC1 hW hB1 w3 r4 r5 hg hgs (fun x x0 x1 hx => ?_) ?_
        · have hl := zor_lt hg (zone_lt (x := x) (by omega))
          have hss := zSub_up x0 hgs hx
          exact ht _ hl (hge _ hl hss (zup_lt x0 (zYc_in hx).2.1)) hss
        · have := ih g hlt hg hgs (zput V1 r (g : Nat) (zi (zYr ρ g))) (fun q hq => (zput_row hq).trans (f1 q hq)) (fun t t4 tg ts => by
            by_cases e : t = g
            · rw [e, zput_at]
            · rw [zput_k (by omega)]; exact ht t t4 (hge t t4 ts (by omega)) ts)
          simp (disch := first | assumption | exact zk_42 | ((repeat (first | exact z1n | refine z1I ?_ | refine z1R ?_)); done) | exact rfl | omega | decide) only [r_aload_0, r_aload_1, r_inv_2_0, r_inv_2_1, r_inv_2_2, r_inv_2_3, r_inv_2_4, r_K0, r_K1, r_istore_2i, r_istore_2r, r_istore_2j, r_gf_259, r_alen, r_if_ne, r_iconst, r_newa_int, r_pf_259, r_goto_w, r_iload_2, r_iastore, r_istore_3i, r_istore_3r, r_istore_3j, r_iload_3, r_if_le, r_isub, r_iand, r_inv_4_0, r_inv_4_1, r_inv_4_2, r_inv_4_3, r_inv_4_4, r_pop_i, r_pop_r, r_goto, r_ial, r_ial30, r_ial32, r_iret, r_bret_0, r_bret_1, ↓reduceIte, not_true_eq_false, not_false_eq_true, Int.reduceEq, Int.reduceLE, Int.reduceLT, Int.reduceAdd, Int.reduceNeg, Int.reduceMul, Int.reduceSub, Int.reduceToNat]
          exact this
  refine main (zDown ρ) hD (fun x _ _ hx => hx) _ (fun q hq => zput_row hq) (fun t t4 tg ts => ?_)
  have : t = zDown ρ := by
    have h1 : t ≤ zDown ρ := by
      have := (zsub_and t4).mp ts
      rw [← this]
      exact Nat.and_le_right
    omega
  rw [this, zput_at, (zYr_end hW).1]
set_option maxRecDepth 20000 in
theorem c_leastCost (hd : 5 ≤ d) (hR : zRvP s V) (hP : zStP s V a) (hC : zStC ρ V a) (hW : zWF ρ) (ha : a + 18 ≤ 134) (hsz : 192 ≤ s.sz) (hL : zLz s V 134 3 20 138 4096) (hQ : ∀ s' V' r, zExt s s' 1 4096 → (∀ q : Nat, q < 192 → q ≠ 134 → q ≠ 135 → q ≠ 138 → V' q = V q) → zRvP s' V' → zBf ρ V' → zCs s' V' r → zCt ρ V' r 0 → Q (.inl (some (zi (zYr ρ 0)))) (s', V')) : zcall d 42 [.ref 134, .ref a] (s, V) Q := by
  obtain ⟨n0, n1, cc0, cc1⟩ := hW.1
  obtain ⟨r, r1, r2, r3, r4, r5⟩ := hL
  have t1 := hR.1
  have hD := zDown_lt hW
  obtain ⟨d, rfl⟩ : ∃ e, d = e + 1 := ⟨d - 1, by omega⟩
  rw [zc_42 t1]
  simp (disch := first | assumption | exact zk_42 | ((repeat (first | exact z1n | refine z1I ?_ | refine z1R ?_)); done) | exact rfl | omega | decide) only [zb_42_0, r_aload_0, r_aload_1, r_inv_2_0, r_inv_2_1, r_inv_2_2, r_inv_2_3, r_inv_2_4, r_K0, r_K1, r_istore_2i, r_istore_2r, r_istore_2j, r_gf_259, r_alen, r_if_ne, r_iconst, r_newa_int, r_pf_259, r_goto_w, r_iload_2, r_iastore, r_istore_3i, r_istore_3r, r_istore_3j, r_iload_3, r_if_le, r_isub, r_iand, r_inv_4_0, r_inv_4_1, r_inv_4_2, r_inv_4_3, r_inv_4_4, r_pop_i, r_pop_r, r_goto, r_ial, r_ial30, r_ial32, r_iret, r_bret_0, r_bret_1, ↓reduceIte, not_true_eq_false, not_false_eq_true, Int.reduceEq, Int.reduceLE, Int.reduceLT, Int.reduceAdd, Int.reduceNeg, Int.reduceMul, Int.reduceSub, Int.reduceToNat]
  refine c_fillBefore (by omega) hR hP hC hW ha (fun V1 f1 hB1 => ?_)
  have hP1 : zStP s V1 a := hP.of (by rw [f1 a (by omega)]) (by rw [f1 a (by omega)]) (f1 _ (by omega)) (f1 _ (by omega))
  have hC1 : zStC ρ V1 a := hC.rows (fun z z0 z1 => f1 z (by omega))
  have hR1 : zRvP s V1 := by unfold zRvP; rw [f1 134 (by omega)]; exact hR
  have w3 : V1 134 3 = .ref r := by rw [f1 134 (by omega)]; exact r1
  rcases r5 with r5 | r5
  · simp (disch := first | assumption | exact zk_42 | ((repeat (first | exact z1n | refine z1I ?_ | refine z1R ?_)); done) | exact rfl | omega | decide) only [r_aload_0, r_aload_1, r_inv_2_0, r_inv_2_1, r_inv_2_2, r_inv_2_3, r_inv_2_4, r_K0, r_K1, r_istore_2i, r_istore_2r, r_istore_2j, r_gf_259, r_alen, r_if_ne, r_iconst, r_newa_int, r_pf_259, r_goto_w, r_iload_2, r_iastore, r_istore_3i, r_istore_3r, r_istore_3j, r_iload_3, r_if_le, r_isub, r_iand, r_inv_4_0, r_inv_4_1, r_inv_4_2, r_inv_4_3, r_inv_4_4, r_pop_i, r_pop_r, r_goto, r_ial, r_ial30, r_ial32, r_iret, r_bret_0, r_bret_1, w3, r5, ↓reduceIte, not_true_eq_false, not_false_eq_true, Int.reduceEq, Int.reduceLE, Int.reduceLT, Int.reduceAdd, Int.reduceNeg, Int.reduceMul, Int.reduceSub, Int.reduceToNat]
    have hx : zExt s (s.new 20 4096 4096) 1 4096 := zExt.new (by omega) (by omega)
    have e1 : ∀ q, q ≠ s.sz → q ≠ 134 → zput (zrow V1 s.sz (fun _ => zi 0)) 134 3 (.ref s.sz) q = V1 q := fun q q1 q2 => (zput_row q2).trans (zrow_r q1)
    have hP' := hP1.ext hx (by omega) (V' := zput (zrow V1 s.sz (fun _ => zi 0)) 134 3 (.ref s.sz)) (fun q q0 q1 => e1 q (by omega) (by omega))
    have hC' := hC1.rows (V' := zput (zrow V1 s.sz (fun _ => zi 0)) 134 3 (.ref s.sz)) (fun q q0 q1 => e1 q (by omega) (by omega))
    have t20 : (s.new 20 4096 4096).tg s.sz = 20 := if_pos rfl
    have l20 : (s.new 20 4096 4096).ln s.sz = 4096 := if_pos rfl
    have t134 : (s.new 20 4096 4096).tg 134 = 4 := (hx.2.2 134 (by omega)).1.trans t1
    have hV4 : ∀ k : Int, k ≠ 3 → zput (zrow V1 s.sz (fun _ => zi 0)) 134 3 (.ref s.sz) 134 k = V1 134 k := fun k hk => by rw [zput_k hk, zrow_r (by omega)]
    have hR' : zRvP (s.new 20 4096 4096) (zput (zrow V1 s.sz (fun _ => zi 0)) 134 3 (.ref s.sz)) := by
      obtain ⟨a1, ⟨a2, a3, a4⟩, ⟨a5, a6⟩, ⟨a7, a8⟩, a9, a10⟩ := hR1
      exact ⟨t134, ⟨by rw [hV4 0 (by omega)]; exact a2, by rw [hV4 1 (by omega)]; exact a3, by rw [hV4 2 (by omega)]; exact a4⟩, ⟨(hx.2.2 135 (by omega)).1.trans a5, (hx.2.2 135 (by omega)).2.trans a6⟩, ⟨(hx.2.2 136 (by omega)).1.trans a7, (hx.2.2 136 (by omega)).2.trans a8⟩, (hx.2.2 137 (by omega)).1.trans a9, (hx.2.2 137 (by omega)).2.trans a10⟩
    have hB' : zBf ρ (zput (zrow V1 s.sz (fun _ => zi 0)) 134 3 (.ref s.sz)) := by unfold zBf; rw [e1 135 (by omega) (by omega)]; exact hB1
    have hsz' : (s.new 20 4096 4096).sz = s.sz + 1 := rfl
    have key := c_least3 (Q := Q) (d := d) (r := s.sz) (by omega) hR' hP' hC' hW ha hB' ⟨zput_at, Or.inr hsz, by omega, t20, l20⟩ (fun V2 f2 ht2 => hQ _ V2 s.sz hx (fun q q1 q2 q3 q4 => by rw [f2 q (by omega), e1 q (by omega) q2]; exact f1 q q3) (by unfold zRvP; rw [f2 134 (by omega)]; exact hR') (by unfold zBf; rw [f2 135 (by omega)]; exact hB') ⟨by rw [f2 134 (by omega)]; exact zput_at, Or.inr hsz, by omega, t20, l20⟩ ht2)
    have e7 : (4096 : Int).toNat = 4096 := rfl
    first
      | exact key
      | (simp (disch := first | assumption | exact t134 | omega) only [r_pf_259, r_goto_w, e7]
         exact key)
  · simp (disch := first | assumption | exact zk_42 | ((repeat (first | exact z1n | refine z1I ?_ | refine z1R ?_)); done) | exact rfl | omega | decide) only [r_aload_0, r_aload_1, r_inv_2_0, r_inv_2_1, r_inv_2_2, r_inv_2_3, r_inv_2_4, r_K0, r_K1, r_istore_2i, r_istore_2r, r_istore_2j, r_gf_259, r_alen, r_if_ne, r_iconst, r_newa_int, r_pf_259, r_goto_w, r_iload_2, r_iastore, r_istore_3i, r_istore_3r, r_istore_3j, r_iload_3, r_if_le, r_isub, r_iand, r_inv_4_0, r_inv_4_1, r_inv_4_2, r_inv_4_3, r_inv_4_4, r_pop_i, r_pop_r, r_goto, r_ial, r_ial30, r_ial32, r_iret, r_bret_0, r_bret_1, w3, r5, ↓reduceIte, not_true_eq_false, not_false_eq_true, Int.reduceEq, Int.reduceLE, Int.reduceLT, Int.reduceAdd, Int.reduceNeg, Int.reduceMul, Int.reduceSub, Int.reduceToNat]
    refine c_least3 (d := d) (r := r) (by omega) hR1 hP1 hC1 hW ha hB1 ⟨w3, r2, r3, r4, r5⟩ (fun V2 f2 ht2 => hQ s V2 r zExt.rf (fun q q1 q2 q3 q4 => by rw [f2 q (by omega)]; exact f1 q q3) (by unfold zRvP; rw [f2 134 (by omega)]; exact hR1) (by unfold zBf; rw [f2 135 (by omega)]; exact hB1) ⟨by rw [f2 134 (by omega)]; exact w3, r2, r3, r4, r5⟩ ht2)
end
