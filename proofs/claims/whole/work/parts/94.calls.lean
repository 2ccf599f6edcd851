/-! CALLS OF THE CLASS, 6: when all are recovered; digest -/
theorem zQE_ok {ρ : zR} (hW : zWF ρ) {c : Int} (c1 : 1 ≤ c) : ∀ (f : Nat) (b : Int → Int) (F : Nat) (t : Int), zQI ρ b F t → (ρ.n + 1 ≤ f + zpop F ∨ (ρ.n ≤ f + zpop F ∧ zQo ρ b F t ≠ 0)) → (0 ≤ (zQE ρ c f b F t).1 ∧ (zQE ρ c f b F t).1 ≤ t + 20 * f) ∧ (∀ x, (zQE ρ c f b F t).2 x ≠ -1 → (0 ≤ x ∧ x < ρ.n) ∧ zin (zDown ρ) x = true ∧ 0 ≤ (zQE ρ c f b F t).2 x ∧ (zQE ρ c f b F t).2 x ≤ (zQE ρ c f b F t).1) ∧ ∀ x, 0 ≤ x → zin (zDown ρ) x = true → (zQE ρ c f b F t).2 x ≠ -1 := by
  intro f
  induction f with
  | zero =>
    intro b F t hI hm
    refine ⟨⟨hI.2.2.2, by show t ≤ t + 20 * ((0 : Nat) : Int); omega⟩, hI.2.2.1, fun x x0 hx => ?_⟩
    by_cases e : F = zDown ρ
    · exact hI.2.1 x x0 (by rw [e]; exact hx)
    · have := zQ_lt hW hI e
      omega
  | succ f ih =>
    intro b F t hI hm
    have hI' := hI.b hW (c := c)
    have hz : zQE ρ c (f + 1) b F t = if zQr ρ (zQb ρ c b F t) (zQF ρ b F t) = 0 then (t, zQb ρ c b F t) else zQE ρ c f (zQb ρ c b F t) (zQF ρ b F t) (zQe ρ (zQb ρ c b F t) (zQF ρ b F t)) := rfl
    rw [hz]
    by_cases h0 : zQr ρ (zQb ρ c b F t) (zQF ρ b F t) = 0
    · rw [if_pos h0]
      have hd := (zQ_done hW c1 hI).mp h0
      exact ⟨⟨hI.2.2.2, by dsimp only; omega⟩, hI'.2.2.1, fun x x0 hx => hI'.2.1 x x0 (by rw [hd]; exact hx)⟩
    · rw [if_neg h0]
      obtain ⟨g1, g2⟩ := zQe_gt hW hI h0
      obtain ⟨p1, p2⟩ := zQ_pop hW (b := b) (F := F) (t := t)
      have ho := zQ_over hW hI' h0
      have := ih (zQb ρ c b F t) (zQF ρ b F t) (zQe ρ (zQb ρ c b F t) (zQF ρ b F t)) (hI'.mono (by omega)) (Or.inr ⟨by
        rcases hm with hm | ⟨hm, hm2⟩
        · omega
        · have := p2 hm2
          omega, ho⟩)
      obtain ⟨⟨a1, a2⟩, a3, a4⟩ := this
      exact ⟨⟨a1, by omega⟩, a3, a4⟩
theorem zQR_ok {ρ : zR} (hW : zWF ρ) {c : Int} (c1 : 1 ≤ c) : (0 ≤ (zQR ρ c).1 ∧ (zQR ρ c).1 ≤ 260) ∧ (∀ x, (zQR ρ c).2 x ≠ -1 → (0 ≤ x ∧ x < ρ.n) ∧ zin (zDown ρ) x = true ∧ 0 ≤ (zQR ρ c).2 x ∧ (zQR ρ c).2 x ≤ (zQR ρ c).1) ∧ ∀ x, 0 ≤ x → zin (zDown ρ) x = true → (zQR ρ c).2 x ≠ -1 := by
  obtain ⟨n0, n1, -, -⟩ := hW.1
  have hp0 : zpop 0 = 0 := by decide
  obtain ⟨⟨a1, a2⟩, a3, a4⟩ := zQE_ok hW c1 (ρ.n + 1).toNat (fun _ => -1) 0 0 ⟨by omega, fun x _ h => (by rw [zin_zero] at h; cases h), fun x h => absurd rfl h, by omega⟩ (Or.inl (by rw [hp0]; omega))
  exact ⟨⟨a1, by unfold zQR; omega⟩, a3, a4⟩
theorem zDown_in {ρ : zR} (hW : zWF ρ) {x : Int} (x0 : 0 ≤ x) : zin (zDown ρ) x = true ↔ x < ρ.n ∧ ρ.S 6 x ≠ 1 := by
  unfold zDown
  rw [zms_bit hW.1.1 x0, decide_eq_true_eq]
theorem zRst_all {ρ : zR} (hW : zWF ρ) {c : Int} (c1 : 1 ≤ c) {x : Int} (x0 : 0 ≤ x) (x1 : x < ρ.n) : zRst ρ c x = (zQR ρ c).2 x := by
  obtain ⟨-, a3, a4⟩ := zQR_ok hW c1
  unfold zRst
  by_cases e : ρ.S 6 x = 1
  · rw [if_pos e]
    apply Classical.byContradiction
    intro h
    have := (zDown_in hW x0).mp (a3 x (fun k => h k.symm)).2.1
    exact this.2 e
  · rw [if_neg e]
def zdgS (ρ : zR) (x h : Int) : Int := 31 * zfo (fun w h => 31 * h + zTell ρ x w) h 11 + zBnd ρ x
def zdgK (ρ : zR) (k h : Int) : Int := zfo (fun w h => 31 * h + zTelK ρ k w) h 6
def zdg1 (ρ : zR) : Int := zfo (zdgS ρ) (57381 + ρ.n) ρ.n
def zdg2 (ρ : zR) : Int := zfo (zdgK ρ) (31 * zdg1 ρ + ρ.c) ρ.c
def zdg (σ : zσ) : Int := 31 * (31 * (31 * (31 * (31 * (31 * zdg2 σ.r + zUns σ.r) + (zDown σ.r : Nat)) + (zQR σ.r 2).1) + zYr σ.r 0) + σ.m) + σ.p
theorem zTell_rng {ρ : zR} (hW : zWF ρ) {x w : Int} (x0 : 0 ≤ x) (x1 : x < ρ.n) (w0 : 0 ≤ w) (w1 : w ≤ 10) : -1 ≤ zTell ρ x w ∧ zTell ρ x w ≤ 100000 := by
  have hn := hW.1
  unfold zTell
  by_cases h8 : w ≤ 8
  · rw [if_pos h8]
    obtain ⟨a0, a1, a2, a3, a4, a5, a6, a7, a8⟩ := hW.2.1 x x0 x1
    rcases (by omega : w = 0 ∨ w = 1 ∨ w = 2 ∨ w = 3 ∨ w = 4 ∨ w = 5 ∨ w = 6 ∨ w = 7 ∨ w = 8) with rfl | rfl | rfl | rfl | rfl | rfl | rfl | rfl | rfl <;> omega
  · rw [if_neg h8]
    by_cases h9 : w = 9
    · rw [if_pos h9]
      have := zOwn_rng hW x0 x1
      unfold zOwn at this
      omega
    · rw [if_neg h9]
      have : 0 ≤ zCnt ρ x ∧ zCnt ρ x ≤ ρ.c := zfo_inv (fun k m => 0 ≤ m ∧ m ≤ k) ⟨by omega, by omega⟩ (fun j y h1 h2 hy => by
        (try dsimp only)
        split <;> omega) hn.2.2.1
      omega
theorem zTelK_rng {ρ : zR} (hW : zWF ρ) {x w : Int} (x0 : 0 ≤ x) (x1 : x < ρ.c) (w0 : 0 ≤ w) (w1 : w ≤ 5) : -1 ≤ zTelK ρ x w ∧ zTelK ρ x w ≤ 100000 := by
  have hn := hW.1
  unfold zTelK
  by_cases h8 : w < 5
  · rw [if_pos h8]
    obtain ⟨a0, a1, a2, a3, a4⟩ := hW.2.2.1 x x0 x1
    rcases (by omega : w = 0 ∨ w = 1 ∨ w = 2 ∨ w = 3 ∨ w = 4) with rfl | rfl | rfl | rfl | rfl <;> omega
  · rw [if_neg h8]
    have := zLead_rng ρ x0
    omega
theorem zUns_rng {ρ : zR} (hW : zWF ρ) : 0 ≤ zUns ρ ∧ zUns ρ ≤ 24 := by
  have hn := hW.1
  have : 0 ≤ zUns ρ ∧ zUns ρ ≤ ρ.c := zfo_inv (fun k m => 0 ≤ m ∧ m ≤ k) ⟨by omega, by omega⟩ (fun j y h1 h2 hy => by
        (try dsimp only)
        split <;> omega) hn.2.2.1
  omega
section
variable {d : Nat} {s : zS} {V : zV} {Q : zO → zH → Prop} {σ : zσ} {h : zH}
set_option maxRecDepth 20000 in
theorem w_digest (hd : 20 ≤ d) (hw : zWc σ s V) (ho : zOK σ) (h0 : ∀ s' V', zSte s V s' V' → zWc σ s' V' → Q (.inl (some (zl (zdg σ)))) (s', V')) : zcall d 155 [.ref 5] (s, V) Q := by
  have hw0 := hw
  obtain ⟨hA, ⟨hP, hC⟩, hB2, hHH, hD, hE, hF, hG, hI, hJ, hs, t1, l1⟩ := hw
  obtain ⟨κ, hHP, hHC⟩ := id hHH
  have hW := ho.1
  obtain ⟨n0, n1, c0, c1⟩ := hW.1
  obtain ⟨⟨s1, s2, s3, s4, s5, s6, s7, s8, s9, s10⟩, hSA, hSM⟩ := id hA
  have tO := hP.1
  have tH := hHP.1
  have tG := hD.1
  have z := zExt.rf (s := s) (n := 1) (k := 6012)
  have tR := hG.1.1
  have tX := hJ.1.1
  obtain ⟨d, rfl⟩ : ∃ e, d = e + 1 := ⟨d - 1, by omega⟩
  simp (disch := first | assumption | omega) only [zc_155]
  simp (disch := first | assumption | exact zk_155 | ((repeat (first | exact z1n | refine z1I ?_ | refine z1R ?_)); done) | exact rfl | omega | decide) only [zb_155_0, r_aload_0, r_gf_579, r_gf_576, r_inv_2_0, r_inv_2_1, r_inv_2_2, r_inv_2_3, r_inv_2_4, r_K0, r_K1, r_lconst, r_gf_448, r_i2l, r_ladd, r_lstore_1i, r_lstore_1r, r_lstore_1j, r_iconst, r_istore_3i, r_istore_3r, r_istore_3j, r_goto_w, r_iload_3, r_icmp_ge, r_istore_4i, r_istore_4r, r_istore_4j, r_iload_4, r_icmp_gt, r_lload_1, r_lmul, r_inv_3_0, r_inv_3_1, r_inv_3_2, r_inv_3_3, r_inv_3_4, r_iinc_4i, r_iinc_4r, r_iinc_4j, r_goto, r_gf_132, r_ial, r_ial30, r_ial32, r_iinc_3i, r_iinc_3r, r_iinc_3j, r_gf_449, r_gf_451, r_aaload, r_inv_1_0, r_inv_1_1, r_inv_1_2, r_inv_1_3, r_inv_1_4, r_gf_582, r_gf_584, r_gf_513, r_gf_578, r_gf_193, r_lreturn, r_lretI, r_KX, s2, s5, ↓reduceIte, not_true_eq_false, not_false_eq_true, Int.reduceEq, Int.reduceLE, Int.reduceLT, Int.reduceAdd, Int.reduceNeg, Int.reduceMul, Int.reduceSub, Int.reduceToNat]
  refine c_measureBounds (by omega) (by omega) hD hP hC hW (fun V1 f1 hD1 hb => ?_)
  obtain ⟨y1, y2⟩ := hw0.q1 ho (V' := V1) (fun r r1 r2 r3 => f1 r (by omega)) (hB2.ext z (by omega) (fun r r0 r1 => f1 r (by omega))) hD1
  have u2 : V1 5 0 = .ref 6 := by rw [f1 5 (by omega)]; exact s2
  have u4 : V1 5 2 = .ref 42 := by rw [f1 5 (by omega)]; exact s4
  have u5 : V1 5 3 = .ref 116 := by rw [f1 5 (by omega)]; exact s5
  have u8 : V1 5 6 = .ref 134 := by rw [f1 5 (by omega)]; exact s8
  have u10 : V1 5 8 = .ref 155 := by rw [f1 5 (by omega)]; exact s10
  have hP1 := hP.frg f1 (by omega)
  have hC1 := hC.frg f1 (by omega)
  have vn := hC1.1
  have vc := hC1.2.1
  have hbr := zBnK_rng hW σ.r.n.toNat (by omega)
  obtain ⟨-, ⟨-, -, -, g3⟩, ⟨-, -, -, g4⟩, -, -, -, g5⟩ := id hD1
  simp (disch := first | assumption | exact zk_155 | ((repeat (first | exact z1n | refine z1I ?_ | refine z1R ?_)); done) | exact rfl | omega | decide) only [r_aload_0, r_gf_579, r_gf_576, r_inv_2_0, r_inv_2_1, r_inv_2_2, r_inv_2_3, r_inv_2_4, r_K0, r_K1, r_lconst, r_gf_448, r_i2l, r_ladd, r_lstore_1i, r_lstore_1r, r_lstore_1j, r_iconst, r_istore_3i, r_istore_3r, r_istore_3j, r_goto_w, r_iload_3, r_icmp_ge, r_istore_4i, r_istore_4r, r_istore_4j, r_iload_4, r_icmp_gt, r_lload_1, r_lmul, r_inv_3_0, r_inv_3_1, r_inv_3_2, r_inv_3_3, r_inv_3_4, r_iinc_4i, r_iinc_4r, r_iinc_4j, r_goto, r_gf_132, r_ial, r_ial30, r_ial32, r_iinc_3i, r_iinc_3r, r_iinc_3j, r_gf_449, r_gf_451, r_aaload, r_inv_1_0, r_inv_1_1, r_inv_1_2, r_inv_1_3, r_inv_1_4, r_gf_582, r_gf_584, r_gf_513, r_gf_578, r_gf_193, r_lreturn, r_lretI, r_KX, u2, vn, ↓reduceIte, not_true_eq_false, not_false_eq_true, Int.reduceEq, Int.reduceLE, Int.reduceLT, Int.reduceAdd, Int.reduceNeg, Int.reduceMul, Int.reduceSub, Int.reduceToNat]
  have l1 := z_iter (i := 0) (n := σ.r.n) (I := fun _ (_ : Unit) => True) (P := fun k _ => ∀ w4, zwp (zcall d) 155 Q (zB 155 1) [.ref 5, zl (zfo (zdgS σ.r) (57381 + σ.r.n) k), zJ, zi k, w4] [] (s, V1)) n0
  refine l1 ?_ ?_ () trivial zJ
  · intro k _ k0 k1 _ ih w4
    have ih2 := ih () trivial (zi 11)
    have ev := hb k k0 k1
    have hbk := hbr k
    have hbk : 0 ≤ zBnd σ.r k ∧ zBnd σ.r k ≤ 100000 := hbk
    rw [zfo_s k0] at ih2
    generalize zfo (zdgS σ.r) (57381 + σ.r.n) k = H at ih2
    unfold zdgS at ih2
    have inner := z_chainI (F := fun w => zwp (zcall d) 155 Q (zB 155 2) [.ref 5, zl (zfo (fun w h => 31 * h + zTell σ.r k w) H w), zJ, zi k, zi w] [] (s, V1)) (n := 11) (by omega) (fun w a0 a1 => by
      have ht := fun K => c_tell (Q := K) (d := d) (by omega) hP1 hC1 hW k0 k1 a0 (by omega : w ≤ 10)
      have htr := zTell_rng hW k0 k1 a0 (by omega : w ≤ 10)
      have htd : (if w ≤ 8 then σ.r.S w k else if w = 9 then zdiv (σ.r.S 0 k * σ.r.S 1 k + 99) 100 else zCnt σ.r k) = zTell σ.r k w := rfl
      rw [htd] at ht
      rw [zfo_s a0]
      generalize zfo (fun w h => 31 * h + zTell σ.r k w) H w = G
      generalize zTell σ.r k w = A at ht htr
      conv => lhs; rw [zb_155_2]
      simp (disch := first | assumption | exact zk_155 | ((repeat (first | exact z1n | refine z1I ?_ | refine z1R ?_)); done) | exact rfl | omega | decide) only [r_aload_0, r_gf_579, r_gf_576, r_inv_2_0, r_inv_2_1, r_inv_2_2, r_inv_2_3, r_inv_2_4, r_K0, r_K1, r_lconst, r_gf_448, r_i2l, r_ladd, r_lstore_1i, r_lstore_1r, r_lstore_1j, r_iconst, r_istore_3i, r_istore_3r, r_istore_3j, r_goto_w, r_iload_3, r_icmp_ge, r_istore_4i, r_istore_4r, r_istore_4j, r_iload_4, r_icmp_gt, r_lload_1, r_lmul, r_inv_3_0, r_inv_3_1, r_inv_3_2, r_inv_3_3, r_inv_3_4, r_iinc_4i, r_iinc_4r, r_iinc_4j, r_goto, r_gf_132, r_ial, r_ial30, r_ial32, r_iinc_3i, r_iinc_3r, r_iinc_3j, r_gf_449, r_gf_451, r_aaload, r_inv_1_0, r_inv_1_1, r_inv_1_2, r_inv_1_3, r_inv_1_4, r_gf_582, r_gf_584, r_gf_513, r_gf_578, r_gf_193, r_lreturn, r_lretI, r_KX, u2, ht, ↓reduceIte, not_true_eq_false, not_false_eq_true, Int.reduceEq, Int.reduceLE, Int.reduceLT, Int.reduceAdd, Int.reduceNeg, Int.reduceMul, Int.reduceSub, Int.reduceToNat]
      rw [if_neg (by omega)])
    rw [show zfo (fun w h => 31 * h + zTell σ.r k w) H 0 = H from rfl] at inner
    conv => rw [zb_155_1]
    simp (disch := first | assumption | exact zk_155 | ((repeat (first | exact z1n | refine z1I ?_ | refine z1R ?_)); done) | exact rfl | omega | decide) only [r_aload_0, r_gf_579, r_gf_576, r_inv_2_0, r_inv_2_1, r_inv_2_2, r_inv_2_3, r_inv_2_4, r_K0, r_K1, r_lconst, r_gf_448, r_i2l, r_ladd, r_lstore_1i, r_lstore_1r, r_lstore_1j, r_iconst, r_istore_3i, r_istore_3r, r_istore_3j, r_goto_w, r_iload_3, r_icmp_ge, r_istore_4i, r_istore_4r, r_istore_4j, r_iload_4, r_icmp_gt, r_lload_1, r_lmul, r_inv_3_0, r_inv_3_1, r_inv_3_2, r_inv_3_3, r_inv_3_4, r_iinc_4i, r_iinc_4r, r_iinc_4j, r_goto, r_gf_132, r_ial, r_ial30, r_ial32, r_iinc_3i, r_iinc_3r, r_iinc_3j, r_gf_449, r_gf_451, r_aaload, r_inv_1_0, r_inv_1_1, r_inv_1_2, r_inv_1_3, r_inv_1_4, r_gf_582, r_gf_584, r_gf_513, r_gf_578, r_gf_193, r_lreturn, r_lretI, r_KX, u2, vn, ↓reduceIte, not_true_eq_false, not_false_eq_true, Int.reduceEq, Int.reduceLE, Int.reduceLT, Int.reduceAdd, Int.reduceNeg, Int.reduceMul, Int.reduceSub, Int.reduceToNat]
    rw [if_neg (by omega), inner]
    generalize zfo (fun w h => 31 * h + zTell σ.r k w) H 11 = G at ih2
    generalize zBnd σ.r k = B at ev hbk ih2
    simp (disch := first | assumption | exact zk_155 | ((repeat (first | exact z1n | refine z1I ?_ | refine z1R ?_)); done) | exact rfl | omega | decide) only [zb_155_2, zb_155_3, r_aload_0, r_gf_579, r_gf_576, r_inv_2_0, r_inv_2_1, r_inv_2_2, r_inv_2_3, r_inv_2_4, r_K0, r_K1, r_lconst, r_gf_448, r_i2l, r_ladd, r_lstore_1i, r_lstore_1r, r_lstore_1j, r_iconst, r_istore_3i, r_istore_3r, r_istore_3j, r_goto_w, r_iload_3, r_icmp_ge, r_istore_4i, r_istore_4r, r_istore_4j, r_iload_4, r_icmp_gt, r_lload_1, r_lmul, r_inv_3_0, r_inv_3_1, r_inv_3_2, r_inv_3_3, r_inv_3_4, r_iinc_4i, r_iinc_4r, r_iinc_4j, r_goto, r_gf_132, r_ial, r_ial30, r_ial32, r_iinc_3i, r_iinc_3r, r_iinc_3j, r_gf_449, r_gf_451, r_aaload, r_inv_1_0, r_inv_1_1, r_inv_1_2, r_inv_1_3, r_inv_1_4, r_gf_582, r_gf_584, r_gf_513, r_gf_578, r_gf_193, r_lreturn, r_lretI, r_KX, u5, g3, ev, ↓reduceIte, not_true_eq_false, not_false_eq_true, Int.reduceEq, Int.reduceLE, Int.reduceLT, Int.reduceAdd, Int.reduceNeg, Int.reduceMul, Int.reduceSub, Int.reduceToNat]
    exact ih2
  · intro _ _ w4
    have e1 : zfo (zdgS σ.r) (57381 + σ.r.n) σ.r.n = zdg1 σ.r := rfl
    rw [e1]
    have l2 := z_iter (i := 0) (n := σ.r.c) (I := fun _ (_ : Unit) => True) (P := fun k _ => ∀ w4, zwp (zcall d) 155 Q (zB 155 5) [.ref 5, zl (zfo (zdgK σ.r) (31 * zdg1 σ.r + σ.r.c) k), zJ, zi k, w4] [] (s, V1)) c0
    have key := l2 ?_ ?_ () trivial w4
    · rw [show zfo (zdgK σ.r) (31 * zdg1 σ.r + σ.r.c) 0 = 31 * zdg1 σ.r + σ.r.c from rfl] at key
      generalize zdg1 σ.r = G at key
      simp (disch := first | assumption | exact zk_155 | ((repeat (first | exact z1n | refine z1I ?_ | refine z1R ?_)); done) | exact rfl | omega | decide) only [zb_155_1, zb_155_4, r_aload_0, r_gf_579, r_gf_576, r_inv_2_0, r_inv_2_1, r_inv_2_2, r_inv_2_3, r_inv_2_4, r_K0, r_K1, r_lconst, r_gf_448, r_i2l, r_ladd, r_lstore_1i, r_lstore_1r, r_lstore_1j, r_iconst, r_istore_3i, r_istore_3r, r_istore_3j, r_goto_w, r_iload_3, r_icmp_ge, r_istore_4i, r_istore_4r, r_istore_4j, r_iload_4, r_icmp_gt, r_lload_1, r_lmul, r_inv_3_0, r_inv_3_1, r_inv_3_2, r_inv_3_3, r_inv_3_4, r_iinc_4i, r_iinc_4r, r_iinc_4j, r_goto, r_gf_132, r_ial, r_ial30, r_ial32, r_iinc_3i, r_iinc_3r, r_iinc_3j, r_gf_449, r_gf_451, r_aaload, r_inv_1_0, r_inv_1_1, r_inv_1_2, r_inv_1_3, r_inv_1_4, r_gf_582, r_gf_584, r_gf_513, r_gf_578, r_gf_193, r_lreturn, r_lretI, r_KX, u2, vn, vc, Int.le_refl, ↓reduceIte, not_true_eq_false, not_false_eq_true, Int.reduceEq, Int.reduceLE, Int.reduceLT, Int.reduceAdd, Int.reduceNeg, Int.reduceMul, Int.reduceSub, Int.reduceToNat]
      exact key
    · intro k _ k0 k1 _ ih w4
      have ih2 := ih () trivial (zi 6)
      rw [zfo_s k0] at ih2
      generalize zfo (zdgK σ.r) (31 * zdg1 σ.r + σ.r.c) k = H at ih2
      unfold zdgK at ih2
      have vB := hP1.2.2.2.2.1
      have tB := hP1.2.2.2.2.2.1
      have lB := hP1.2.2.2.2.2.2.1
      have hB3 : s.tg (6 + 11) = 24 ∨ s.tg (6 + 11) = 25 ∨ s.tg (6 + 11) = 26 := Or.inl tB
      have inner := z_chainI (F := fun w => zwp (zcall d) 155 Q (zB 155 6) [.ref 5, zl (zfo (fun w h => 31 * h + zTelK σ.r k w) H w), zJ, zi k, zi w] [] (s, V1)) (n := 6) (by omega) (fun w a0 a1 => by
        obtain ⟨y, rfl⟩ : ∃ y : Nat, w = y := ⟨w.toNat, by omega⟩
        obtain ⟨v1, v2, v3⟩ := hP1.2.2.2.2.2.2.2.2 y (by omega)
        have htr := zTelK_rng hW k0 k1 a0 (by omega : (y : Int) ≤ 5)
        have ev : V1 (6 + 12 + y) k = zi (zTelK σ.r k y) := by
          unfold zTelK
          by_cases c : (y : Int) < 5
          · rw [if_pos c]
            exact hC1.2.2.2.1 y (by omega) k k0 k1
          · rw [if_neg c, show y = 5 by omega]
            exact hC1.2.2.2.2 k k0 k1
        rw [zfo_s a0]
        generalize zfo (fun w h => 31 * h + zTelK σ.r k w) H (y : Int) = G
        generalize zTelK σ.r k y = A at ev htr
        conv => lhs; rw [zb_155_6]
        simp (disch := first | assumption | exact zk_155 | ((repeat (first | exact z1n | refine z1I ?_ | refine z1R ?_)); done) | exact rfl | omega | decide) only [r_aload_0, r_gf_579, r_gf_576, r_inv_2_0, r_inv_2_1, r_inv_2_2, r_inv_2_3, r_inv_2_4, r_K0, r_K1, r_lconst, r_gf_448, r_i2l, r_ladd, r_lstore_1i, r_lstore_1r, r_lstore_1j, r_iconst, r_istore_3i, r_istore_3r, r_istore_3j, r_goto_w, r_iload_3, r_icmp_ge, r_istore_4i, r_istore_4r, r_istore_4j, r_iload_4, r_icmp_gt, r_lload_1, r_lmul, r_inv_3_0, r_inv_3_1, r_inv_3_2, r_inv_3_3, r_inv_3_4, r_iinc_4i, r_iinc_4r, r_iinc_4j, r_goto, r_gf_132, r_ial, r_ial30, r_ial32, r_iinc_3i, r_iinc_3r, r_iinc_3j, r_gf_449, r_gf_451, r_aaload, r_inv_1_0, r_inv_1_1, r_inv_1_2, r_inv_1_3, r_inv_1_4, r_gf_582, r_gf_584, r_gf_513, r_gf_578, r_gf_193, r_lreturn, r_lretI, r_KX, u2, vB, v1, ev, ↓reduceIte, not_true_eq_false, not_false_eq_true, Int.reduceEq, Int.reduceLE, Int.reduceLT, Int.reduceAdd, Int.reduceNeg, Int.reduceMul, Int.reduceSub, Int.reduceToNat]
        rw [if_neg (by omega)])
      rw [show zfo (fun w h => 31 * h + zTelK σ.r k w) H 0 = H from rfl] at inner
      conv => rw [zb_155_5]
      simp (disch := first | assumption | exact zk_155 | ((repeat (first | exact z1n | refine z1I ?_ | refine z1R ?_)); done) | exact rfl | omega | decide) only [r_aload_0, r_gf_579, r_gf_576, r_inv_2_0, r_inv_2_1, r_inv_2_2, r_inv_2_3, r_inv_2_4, r_K0, r_K1, r_lconst, r_gf_448, r_i2l, r_ladd, r_lstore_1i, r_lstore_1r, r_lstore_1j, r_iconst, r_istore_3i, r_istore_3r, r_istore_3j, r_goto_w, r_iload_3, r_icmp_ge, r_istore_4i, r_istore_4r, r_istore_4j, r_iload_4, r_icmp_gt, r_lload_1, r_lmul, r_inv_3_0, r_inv_3_1, r_inv_3_2, r_inv_3_3, r_inv_3_4, r_iinc_4i, r_iinc_4r, r_iinc_4j, r_goto, r_gf_132, r_ial, r_ial30, r_ial32, r_iinc_3i, r_iinc_3r, r_iinc_3j, r_gf_449, r_gf_451, r_aaload, r_inv_1_0, r_inv_1_1, r_inv_1_2, r_inv_1_3, r_inv_1_4, r_gf_582, r_gf_584, r_gf_513, r_gf_578, r_gf_193, r_lreturn, r_lretI, r_KX, u2, vc, ↓reduceIte, not_true_eq_false, not_false_eq_true, Int.reduceEq, Int.reduceLE, Int.reduceLT, Int.reduceAdd, Int.reduceNeg, Int.reduceMul, Int.reduceSub, Int.reduceToNat]
      rw [if_neg (by omega), inner]
      generalize zfo (fun w h => 31 * h + zTelK σ.r k w) H 6 = G at ih2
      simp (disch := first | assumption | exact zk_155 | ((repeat (first | exact z1n | refine z1I ?_ | refine z1R ?_)); done) | exact rfl | omega | decide) only [zb_155_6, zb_155_7, r_aload_0, r_gf_579, r_gf_576, r_inv_2_0, r_inv_2_1, r_inv_2_2, r_inv_2_3, r_inv_2_4, r_K0, r_K1, r_lconst, r_gf_448, r_i2l, r_ladd, r_lstore_1i, r_lstore_1r, r_lstore_1j, r_iconst, r_istore_3i, r_istore_3r, r_istore_3j, r_goto_w, r_iload_3, r_icmp_ge, r_istore_4i, r_istore_4r, r_istore_4j, r_iload_4, r_icmp_gt, r_lload_1, r_lmul, r_inv_3_0, r_inv_3_1, r_inv_3_2, r_inv_3_3, r_inv_3_4, r_iinc_4i, r_iinc_4r, r_iinc_4j, r_goto, r_gf_132, r_ial, r_ial30, r_ial32, r_iinc_3i, r_iinc_3r, r_iinc_3j, r_gf_449, r_gf_451, r_aaload, r_inv_1_0, r_inv_1_1, r_inv_1_2, r_inv_1_3, r_inv_1_4, r_gf_582, r_gf_584, r_gf_513, r_gf_578, r_gf_193, r_lreturn, r_lretI, r_KX, ↓reduceIte, not_true_eq_false, not_false_eq_true, Int.reduceEq, Int.reduceLE, Int.reduceLT, Int.reduceAdd, Int.reduceNeg, Int.reduceMul, Int.reduceSub, Int.reduceToNat]
      exact ih2
    · intro _ _ w4
      have e2 : zfo (zdgK σ.r) (31 * zdg1 σ.r + σ.r.c) σ.r.c = zdg2 σ.r := rfl
      rw [e2]
      have h0' := h0
      unfold zdg at h0'
      generalize zdg2 σ.r = G at h0'
      have hcu := fun K => c_countUnsound (Q := K) (d := d) (by omega) hD1 hP1 hC1 hW hb
      have hds := fun K => c_downSet (Q := K) (d := d) (by omega) hP1 hC1 hW
      have hur := zUns_rng hW
      have hdr := zDown_lt hW
      have hqr := (zQR_ok hW (c := 2) (by omega)).1
      have hyr := zYr_rng hW 4096 0 (by omega) (by omega) (fun x _ _ h => by rw [zin_zero] at h; cases h)
      obtain ⟨⟨m0, m1⟩, -⟩ := ho.2.2.2.1
      obtain ⟨p0, p1⟩ := ho.2.1
      have hw1 := y2
      obtain ⟨hA1, -, hB21, hHH1, -, hE1, hF1, hG1, hI1, hJ1, -, -, -⟩ := y2
      have tO1 := hP1.1
      generalize zUns σ.r = U at hcu hur h0'
      simp (disch := first | assumption | exact zk_155 | ((repeat (first | exact z1n | refine z1I ?_ | refine z1R ?_)); done) | exact rfl | omega | decide) only [zb_155_5, zb_155_8, r_aload_0, r_gf_579, r_gf_576, r_inv_2_0, r_inv_2_1, r_inv_2_2, r_inv_2_3, r_inv_2_4, r_K0, r_K1, r_lconst, r_gf_448, r_i2l, r_ladd, r_lstore_1i, r_lstore_1r, r_lstore_1j, r_iconst, r_istore_3i, r_istore_3r, r_istore_3j, r_goto_w, r_iload_3, r_icmp_ge, r_istore_4i, r_istore_4r, r_istore_4j, r_iload_4, r_icmp_gt, r_lload_1, r_lmul, r_inv_3_0, r_inv_3_1, r_inv_3_2, r_inv_3_3, r_inv_3_4, r_iinc_4i, r_iinc_4r, r_iinc_4j, r_goto, r_gf_132, r_ial, r_ial30, r_ial32, r_iinc_3i, r_iinc_3r, r_iinc_3j, r_gf_449, r_gf_451, r_aaload, r_inv_1_0, r_inv_1_1, r_inv_1_2, r_inv_1_3, r_inv_1_4, r_gf_582, r_gf_584, r_gf_513, r_gf_578, r_gf_193, r_lreturn, r_lretI, r_KX, u2, u5, u8, vc, Int.le_refl, hcu, hds, ↓reduceIte, not_true_eq_false, not_false_eq_true, Int.reduceEq, Int.reduceLE, Int.reduceLT, Int.reduceAdd, Int.reduceNeg, Int.reduceMul, Int.reduceSub, Int.reduceToNat]
      refine c_byCrews (by omega) hG1.1 hP1 hC1 hW (by omega) (by omega) (by omega) (fun V2 f2 _ => ?_)
      have e2 : ∀ q : Nat, q ≠ 135 → q ≠ 136 → q ≠ 137 → V2 q = V1 q := f2
      have hP2 : zStP s V2 6 := hP1.ext z (by omega) (fun r r0 r1 => f2 r (by omega) (by omega) (by omega))
      have hC2 : zStC σ.r V2 6 := hC1.rows (fun r r0 r1 => f2 r (by omega) (by omega) (by omega))
      have hG2 := hG1.cg (s' := s) (V' := V2) (n := 0) (k := 0) zExt.rf hs (f2 _ (by omega) (by omega) (by omega))
      have x2 : V2 5 0 = .ref 6 := by rw [f2 5 (by omega) (by omega) (by omega)]; exact u2
      have x8 : V2 5 6 = .ref 134 := by rw [f2 5 (by omega) (by omega) (by omega)]; exact u8
      generalize (zQR σ.r 2).1 = W at hqr h0'
      simp (disch := first | assumption | exact zk_155 | ((repeat (first | exact z1n | refine z1I ?_ | refine z1R ?_)); done) | exact rfl | omega | decide) only [r_aload_0, r_gf_579, r_gf_576, r_inv_2_0, r_inv_2_1, r_inv_2_2, r_inv_2_3, r_inv_2_4, r_K0, r_K1, r_lconst, r_gf_448, r_i2l, r_ladd, r_lstore_1i, r_lstore_1r, r_lstore_1j, r_iconst, r_istore_3i, r_istore_3r, r_istore_3j, r_goto_w, r_iload_3, r_icmp_ge, r_istore_4i, r_istore_4r, r_istore_4j, r_iload_4, r_icmp_gt, r_lload_1, r_lmul, r_inv_3_0, r_inv_3_1, r_inv_3_2, r_inv_3_3, r_inv_3_4, r_iinc_4i, r_iinc_4r, r_iinc_4j, r_goto, r_gf_132, r_ial, r_ial30, r_ial32, r_iinc_3i, r_iinc_3r, r_iinc_3j, r_gf_449, r_gf_451, r_aaload, r_inv_1_0, r_inv_1_1, r_inv_1_2, r_inv_1_3, r_inv_1_4, r_gf_582, r_gf_584, r_gf_513, r_gf_578, r_gf_193, r_lreturn, r_lretI, r_KX, x2, x8, ↓reduceIte, not_true_eq_false, not_false_eq_true, Int.reduceEq, Int.reduceLE, Int.reduceLT, Int.reduceAdd, Int.reduceNeg, Int.reduceMul, Int.reduceSub, Int.reduceToNat]
      refine c_leastCost (by omega) hG2.1 hP2 hC2 hW (by omega) hs hG2.2 (fun s3 V3 r hx3 f3 hR3 _ hcs _ => ?_)
      have e3 : ∀ q : Nat, q < 192 → q ≠ 134 → q ≠ 135 → q ≠ 136 → q ≠ 137 → q ≠ 138 → V3 q = V1 q := fun q a1 a2 a3 a4 a5 a6 => (f3 q a1 a2 a3 a6).trans (f2 q a3 a4 a5)
      have hx2 : zExt s s3 1 6012 := ⟨hx3.1, ⟨hx3.2.1.1, by have := hx3.2.1.2; omega⟩, hx3.2.2⟩
      obtain ⟨y3, y4⟩ := hw1.q2 ho (V' := V3) hx2 (fun r r1 r2 r3 => e3 r r3 (by omega) (by omega) (by omega) (by omega) (by omega)) (hD1.cg hx2 hs (e3 _ (by omega) (by omega) (by omega) (by omega) (by omega) (by omega))) (hF1.cg hx2 hs (e3 _ (by omega) (by omega) (by omega) (by omega) (by omega) (by omega))) ⟨hR3, ⟨r, hcs.1, hcs.2.1, hcs.2.2.1, hcs.2.2.2.1, Or.inr hcs.2.2.2.2⟩⟩ (hI1.cg hx2 hs (e3 _ (by omega) (by omega) (by omega) (by omega) (by omega) (by omega)) (e3 _ (by omega) (by omega) (by omega) (by omega) (by omega) (by omega)))
      have := h0' s3 V3 (y1.tr y3) y4
      have w4 : V3 5 2 = .ref 42 := by rw [e3 5 (by omega) (by omega) (by omega) (by omega) (by omega) (by omega)]; exact u4
      have w10 : V3 5 8 = .ref 155 := by rw [e3 5 (by omega) (by omega) (by omega) (by omega) (by omega) (by omega)]; exact u10
      have t5 : s3.tg 5 = 9 := (hx3.2.2 5 (by omega)).1.trans s1
      have t42 : s3.tg 42 = 3 := (hx3.2.2 42 (by omega)).1.trans tH
      have t155 : s3.tg 155 = 8 := (hx3.2.2 155 (by omega)).1.trans tX
      have w1 : V3 155 1 = zi σ.m := by rw [e3 155 (by omega) (by omega) (by omega) (by omega) (by omega) (by omega)]; exact hJ1.2.1.1
      have w2 : V3 42 1 = zi σ.p := by
        rw [e3 42 (by omega) (by omega) (by omega) (by omega) (by omega) (by omega), f1 42 (by omega)]
        exact hHC.1
      generalize zYr σ.r 0 = Y at hyr this
      simp (disch := first | assumption | exact zk_155 | ((repeat (first | exact z1n | refine z1I ?_ | refine z1R ?_)); done) | exact rfl | omega | decide) only [r_aload_0, r_gf_579, r_gf_576, r_inv_2_0, r_inv_2_1, r_inv_2_2, r_inv_2_3, r_inv_2_4, r_K0, r_K1, r_lconst, r_gf_448, r_i2l, r_ladd, r_lstore_1i, r_lstore_1r, r_lstore_1j, r_iconst, r_istore_3i, r_istore_3r, r_istore_3j, r_goto_w, r_iload_3, r_icmp_ge, r_istore_4i, r_istore_4r, r_istore_4j, r_iload_4, r_icmp_gt, r_lload_1, r_lmul, r_inv_3_0, r_inv_3_1, r_inv_3_2, r_inv_3_3, r_inv_3_4, r_iinc_4i, r_iinc_4r, r_iinc_4j, r_goto, r_gf_132, r_ial, r_ial30, r_ial32, r_iinc_3i, r_iinc_3r, r_iinc_3j, r_gf_449, r_gf_451, r_aaload, r_inv_1_0, r_inv_1_1, r_inv_1_2, r_inv_1_3, r_inv_1_4, r_gf_582, r_gf_584, r_gf_513, r_gf_578, r_gf_193, r_lreturn, r_lretI, r_KX, w4, w10, w1, w2, ↓reduceIte, not_true_eq_false, not_false_eq_true, Int.reduceEq, Int.reduceLE, Int.reduceLT, Int.reduceAdd, Int.reduceNeg, Int.reduceMul, Int.reduceSub, Int.reduceToNat]
      exact this
end
