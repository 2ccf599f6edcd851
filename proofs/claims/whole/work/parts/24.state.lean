/-! STATE, 2: needs; reasons against; counting -/
def zCal (ρ : zR) (v : Nat) (k : Int) : Nat := zfo (fun k m => if zin v (ρ.K 0 k) = true then m ||| zone (ρ.K 1 k) else m) 0 k
theorem zCal_lt {ρ : zR} (hW : zWF ρ) (v : Nat) {k : Int} (k0 : 0 ≤ k) (k1 : k ≤ ρ.c) : zCal ρ v k < 4096 := by
  refine zfo_inv (fun _ m => m < 4096) (by decide) (fun j y h1 h2 hy => ?_) k0
  try dsimp only
  have w := (hW.2.2.1 j h1 (by omega)).2.1
  have := hW.1
  split
  · exact zor_lt hy (zone_lt (by omega))
  · exact hy
def zNd (ρ : zR) : Nat → Nat → Nat → Nat
  | 0, _, nd => nd
  | k + 1, cs, nd => if zdf (zCal ρ cs ρ.c) nd = 0 then nd else zNd ρ k (cs ||| zCal ρ cs ρ.c) (nd ||| zCal ρ cs ρ.c)
def zNeeds (ρ : zR) (x : Int) : Nat := zNd ρ ρ.n.toNat (zone x) 0
theorem zNd_lt {ρ : zR} (hW : zWF ρ) : ∀ (k cs nd : Nat), nd < 4096 → zNd ρ k cs nd < 4096
  | 0, _, _, h => h
  | k + 1, cs, nd, h => by
    show (if zdf (zCal ρ cs ρ.c) nd = 0 then nd else zNd ρ k (cs ||| zCal ρ cs ρ.c) (nd ||| zCal ρ cs ρ.c)) < 4096
    split
    · exact h
    · exact zNd_lt hW k _ _ (zor_lt h (zCal_lt hW cs hW.1.2.2.1 (Int.le_refl _)))
theorem zNeeds_lt {ρ : zR} (hW : zWF ρ) (x : Int) : zNeeds ρ x < 4096 := zNd_lt hW _ _ _ (by decide)
section
variable {d : Nat} {s : zS} {V : zV} {Q : zO → zH → Prop} {a : Nat} {ρ : zR} {h : zH}
set_option maxRecDepth 20000 in
theorem c_callees (hd : 2 ≤ d) (hP : zStP s V a) (hC : zStC ρ V a) (hW : zWF ρ) {v : Nat} (hv : v < 4096) : zcall d 88 [.ref a, zi (v : Nat)] (s, V) Q = Q (.inl (some (zi (zCal ρ v ρ.c : Nat)))) (s, V) := by
  obtain ⟨n0, n1, c0, c1⟩ := hW.1
  have tO := hP.1
  have vB := hP.2.2.2.2.1
  have tB := hP.2.2.2.2.2.1
  have lB := hP.2.2.2.2.2.2.1
  have vn := hC.1
  have vc := hC.2.1
  have vc0 : V (a + 11) 0 = .ref (a + 12) := (hP.2.2.2.2.2.2.2.2 0 (by omega)).1
  have tc0 : s.tg (a + 12) = 20 := (hP.2.2.2.2.2.2.2.2 0 (by omega)).2.1
  have lc0 : s.ln (a + 12) = 24 := (hP.2.2.2.2.2.2.2.2 0 (by omega)).2.2
  have ec0 : ∀ x : Int, 0 ≤ x → x < ρ.c → V (a + 12) x = zi (ρ.K 0 x) := hC.2.2.2.1 0 (by omega)
  have vc1 : V (a + 11) 1 = .ref (a + 13) := (hP.2.2.2.2.2.2.2.2 1 (by omega)).1
  have tc1 : s.tg (a + 13) = 20 := (hP.2.2.2.2.2.2.2.2 1 (by omega)).2.1
  have lc1 : s.ln (a + 13) = 24 := (hP.2.2.2.2.2.2.2.2 1 (by omega)).2.2
  have ec1 : ∀ x : Int, 0 ≤ x → x < ρ.c → V (a + 13) x = zi (ρ.K 1 x) := hC.2.2.2.1 1 (by omega)
  obtain ⟨d, rfl⟩ : ∃ e, d = e + 1 := ⟨d - 1, by omega⟩
  simp (disch := first | assumption | omega) only [zc_88]
  simp (disch := first | assumption | exact zk_88 | ((repeat (first | exact z1n | refine z1I ?_ | refine z1R ?_)); done) | exact rfl | omega | decide) only [zb_88_0, r_iconst, r_istore_2i, r_istore_2r, r_istore_2j, r_istore_3i, r_istore_3r, r_istore_3j, r_goto_w, r_iload_3, r_aload_0, r_gf_449, r_icmp_ge, r_iload_1, r_gf_451, r_aaload, r_ial, r_ial30, r_ial32, r_inv_2_0, r_inv_2_1, r_inv_2_2, r_inv_2_3, r_inv_2_4, r_K0, r_K1, r_if_eq, r_iload_2, r_ishl, r_ior, r_iinc_3i, r_iinc_3r, r_iinc_3j, r_goto, r_iret, r_bret_0, r_bret_1, vB, vn, vc, vc0, ec0, vc1, ec1, ↓reduceIte, not_true_eq_false, not_false_eq_true, Int.reduceEq, Int.reduceLE, Int.reduceLT, Int.reduceAdd, Int.reduceNeg, Int.reduceMul, Int.reduceSub, Int.reduceToNat]
  refine (z_chainI (F := fun k => zwp (zcall d) 88 Q (zB 88 1) [.ref a, zi (v : Nat), zi (zCal ρ v k : Nat), zi k] [] (s, V)) c0 (fun k k0 k1 => ?_)).trans ?_
  · have w := hW.2.2.1 k k0 k1
    have wl := zCal_lt hW v k0 (by omega : k ≤ ρ.c)
    have wo := zone_lt (x := ρ.K 1 k) (by omega)
    conv => lhs; rw [zb_88_1]
    simp (disch := first | assumption | exact zk_88 | ((repeat (first | exact z1n | refine z1I ?_ | refine z1R ?_)); done) | exact rfl | omega | decide) only [zb_88_2, zb_88_3, r_iconst, r_istore_2i, r_istore_2r, r_istore_2j, r_istore_3i, r_istore_3r, r_istore_3j, r_goto_w, r_iload_3, r_aload_0, r_gf_449, r_icmp_ge, r_iload_1, r_gf_451, r_aaload, r_ial, r_ial30, r_ial32, r_inv_2_0, r_inv_2_1, r_inv_2_2, r_inv_2_3, r_inv_2_4, r_K0, r_K1, r_if_eq, r_iload_2, r_ishl, r_ior, r_iinc_3i, r_iinc_3r, r_iinc_3j, r_goto, r_iret, r_bret_0, r_bret_1, vB, vn, vc, vc0, ec0, vc1, ec1, c_contains, zshl_z, zor_n, ↓reduceIte, not_true_eq_false, not_false_eq_true, Int.reduceEq, Int.reduceLE, Int.reduceLT, Int.reduceAdd, Int.reduceNeg, Int.reduceMul, Int.reduceSub, Int.reduceToNat]
    rw [if_neg (by omega : ¬ ρ.c ≤ k)]
    unfold zCal at wl ⊢
    rw [zfo_s k0]
    split <;> rfl
  · simp (disch := first | assumption | exact zk_88 | ((repeat (first | exact z1n | refine z1I ?_ | refine z1R ?_)); done) | exact rfl | omega | decide) only [zb_88_0, zb_88_1, zb_88_2, zb_88_3, r_iconst, r_istore_2i, r_istore_2r, r_istore_2j, r_istore_3i, r_istore_3r, r_istore_3j, r_goto_w, r_iload_3, r_aload_0, r_gf_449, r_icmp_ge, r_iload_1, r_gf_451, r_aaload, r_ial, r_ial30, r_ial32, r_inv_2_0, r_inv_2_1, r_inv_2_2, r_inv_2_3, r_inv_2_4, r_K0, r_K1, r_if_eq, r_iload_2, r_ishl, r_ior, r_iinc_3i, r_iinc_3r, r_iinc_3j, r_goto, r_iret, r_bret_0, r_bret_1, vB, vn, vc, vc0, ec0, vc1, ec1, Int.le_refl, ↓reduceIte, not_true_eq_false, not_false_eq_true, Int.reduceEq, Int.reduceLE, Int.reduceLT, Int.reduceAdd, Int.reduceNeg, Int.reduceMul, Int.reduceSub, Int.reduceToNat]
set_option maxRecDepth 20000 in
theorem c_needs (hd : 3 ≤ d) (hP : zStP s V a) (hC : zStC ρ V a) (hW : zWF ρ) {x : Int} (h1 : 0 ≤ x) (h2 : x < ρ.n) : zcall d 87 [.ref a, zi x] (s, V) Q = Q (.inl (some (zi (zNeeds ρ x : Nat)))) (s, V) := by
  obtain ⟨n0, n1, c0, c1⟩ := hW.1
  have tO := hP.1
  have vn := hC.1
  have vc := hC.2.1
  obtain ⟨d, rfl⟩ : ∃ e, d = e + 1 := ⟨d - 1, by omega⟩
  simp (disch := first | assumption | omega) only [zc_87]
  have loop : ∀ (k cs nd : Nat) (j : Int) (w : Value), (w = zJ ∨ ∃ y, w = zi y) → j + k = ρ.n → 0 ≤ j → cs < 4096 → nd < 4096 → zwp (zcall d) 87 Q (zB 87 1) [.ref a, zi x, zi (cs : Nat), zi (nd : Nat), zi j, w] [] (s, V) = Q (.inl (some (zi (zNd ρ k cs nd : Nat)))) (s, V) := by
    intro k
    induction k with
    | zero =>
      intro cs nd j w hw hj j0 hcs hnd
      have e : j = ρ.n := by omega
      subst e
      simp (disch := first | assumption | exact zk_87 | ((repeat (first | exact z1n | refine z1I ?_ | refine z1R ?_)); done) | exact rfl | omega | decide) only [zb_87_0, zb_87_1, zb_87_2, zb_87_3, r_iconst, r_iload_1, r_ishl, r_istore_2i, r_istore_2r, r_istore_2j, r_istore_3i, r_istore_3r, r_istore_3j, r_istore_4i, r_istore_4r, r_istore_4j, r_goto_w, r_iload_4, r_aload_0, r_gf_448, r_icmp_ge, r_iload_2, r_inv_2_0, r_inv_2_1, r_inv_2_2, r_inv_2_3, r_inv_2_4, r_K0, r_K1, r_istore_5i, r_istore_5r, r_istore_5j, r_iload_5, r_iload_3, r_ixor, r_iand, r_if_ne, r_iret, r_bret_0, r_bret_1, r_ior, r_iinc_4i, r_iinc_4r, r_iinc_4j, r_goto, vn, vc, Int.le_refl, zNd, ↓reduceIte, not_true_eq_false, not_false_eq_true, Int.reduceEq, Int.reduceLE, Int.reduceLT, Int.reduceAdd, Int.reduceNeg, Int.reduceMul, Int.reduceSub, Int.reduceToNat]
    | succ k ih =>
      intro cs nd j w hw hj j0 hcs hnd
      have hl := zCal_lt hW cs c0 (Int.le_refl _)
      have hf := zdf_lt (b := nd) hl
      conv => lhs; rw [zb_87_1]
      simp (disch := first | assumption | exact zk_87 | ((repeat (first | exact z1n | refine z1I ?_ | refine z1R ?_)); done) | exact rfl | omega | decide) only [zb_87_2, zb_87_3, r_iconst, r_iload_1, r_ishl, r_istore_2i, r_istore_2r, r_istore_2j, r_istore_3i, r_istore_3r, r_istore_3j, r_istore_4i, r_istore_4r, r_istore_4j, r_goto_w, r_iload_4, r_aload_0, r_gf_448, r_icmp_ge, r_iload_2, r_inv_2_0, r_inv_2_1, r_inv_2_2, r_inv_2_3, r_inv_2_4, r_K0, r_K1, r_istore_5i, r_istore_5r, r_istore_5j, r_iload_5, r_iload_3, r_ixor, r_iand, r_if_ne, r_iret, r_bret_0, r_bret_1, r_ior, r_iinc_4i, r_iinc_4r, r_iinc_4j, r_goto, vn, vc, c_callees (hC := hC), zandn_n, zor_n, ↓reduceIte, not_true_eq_false, not_false_eq_true, Int.reduceEq, Int.reduceLE, Int.reduceLT, Int.reduceAdd, Int.reduceNeg, Int.reduceMul, Int.reduceSub, Int.reduceToNat]
      rw [if_neg (by omega : ¬ ρ.n ≤ j), show zNd ρ (k + 1) cs nd = if zdf (zCal ρ cs ρ.c) nd = 0 then nd else zNd ρ k (cs ||| zCal ρ cs ρ.c) (nd ||| zCal ρ cs ρ.c) from rfl]
      by_cases e : zdf (zCal ρ cs ρ.c) nd = 0
      · rw [if_pos e, if_neg (by rw [e]; simp)]
      · rw [if_neg e, if_pos (by omega)]
        exact ih _ _ (j + 1) _ (Or.inr ⟨_, rfl⟩) (by omega) (by omega) (zor_lt hcs hl) (zor_lt hnd hl)
  simp (disch := first | assumption | exact zk_87 | ((repeat (first | exact z1n | refine z1I ?_ | refine z1R ?_)); done) | exact rfl | omega | decide) only [zb_87_0, r_iconst, r_iload_1, r_ishl, r_istore_2i, r_istore_2r, r_istore_2j, r_istore_3i, r_istore_3r, r_istore_3j, r_istore_4i, r_istore_4r, r_istore_4j, r_goto_w, r_iload_4, r_aload_0, r_gf_448, r_icmp_ge, r_iload_2, r_inv_2_0, r_inv_2_1, r_inv_2_2, r_inv_2_3, r_inv_2_4, r_K0, r_K1, r_istore_5i, r_istore_5r, r_istore_5j, r_iload_5, r_iload_3, r_ixor, r_iand, r_if_ne, r_iret, r_bret_0, r_bret_1, r_ior, r_iinc_4i, r_iinc_4r, r_iinc_4j, r_goto, vn, vc, zshl_z, ↓reduceIte, not_true_eq_false, not_false_eq_true, Int.reduceEq, Int.reduceLE, Int.reduceLT, Int.reduceAdd, Int.reduceNeg, Int.reduceMul, Int.reduceSub, Int.reduceToNat]
  exact loop ρ.n.toNat (zone x) 0 0 zJ (Or.inl rfl) (by omega) (by omega) (zone_lt (by omega)) (by decide)
end
