/-! BEST ORDER, 3: the order in the class; the model -/
theorem zct_up {p q : Int → Bool} {y : Int} (y0 : 0 ≤ y) (hp : p y = false) (hq : q y = true) (h : ∀ x, 0 ≤ x → x ≠ y → p x = q x) {k : Int} (hk : 0 ≤ k) : zct q k = zct p k + (if y < k then 1 else 0) := by
  have : ∀ m : Nat, zct q m = zct p m + (if y < (m : Int) then 1 else 0) := by
    intro m
    induction m with
    | zero => rw [if_neg (by omega)]; rfl
    | succ m ih =>
      have e1 : zct q ((m + 1 : Nat) : Int) = _ := zct_s (p := q) (k := (m : Int)) (by omega)
      have e2 : zct p ((m + 1 : Nat) : Int) = _ := zct_s (p := p) (k := (m : Int)) (by omega)
      rw [e1, e2, ih]
      by_cases e : y = m
      · rw [← e, hp, hq, if_pos rfl, if_neg (by omega), if_neg (by decide), if_pos (by omega), Int.add_zero]
      · rw [h m (by omega) (by omega)]
        by_cases c : q m = true
        · rw [if_pos c, if_pos c]; split <;> split <;> omega
        · rw [if_neg c, if_neg c]; split <;> split <;> omega
  have := this k.toNat
  rwa [Int.toNat_of_nonneg hk] at this
theorem zpop_up {u : Nat} {x : Int} (x0 : 0 ≤ x) (x1 : x < 12) (h : zin u x = false) : zpop (u ||| zone x) = zpop u + 1 := by
  rw [zpop_ct, zpop_ct, zct_up (p := zin u) (q := zin (u ||| zone x)) x0 h (by rw [zin_or, zone_bit x0 x0, decide_eq_true rfl, Bool.or_true]) (fun y y0 hy => by rw [zin_or, zone_bit x0 y0, decide_eq_false (fun e => hy e.symm), Bool.or_false]) (by omega), if_pos x1]
/-- the sets that are finished, in the best order -/
def zYo (ρ : zR) : Nat → Nat
  | 0 => 0
  | k + 1 => zYo ρ k ||| zone (zYx ρ (zYo ρ k))
theorem zYo_is {ρ : zR} (hW : zWF ρ) : ∀ k : Nat, (k : Int) ≤ zpop (zDown ρ) → zYo ρ k < 4096 ∧ zSub (zYo ρ k) (zDown ρ) ∧ zpop (zYo ρ k) = k := by
  have hn := hW.1
  intro k
  induction k with
  | zero => intro _; exact ⟨by show 0 < 4096; omega, fun x _ _ hx => (absurd ((zin_zero x).symm.trans hx) Bool.false_ne_true), by show zpop 0 = 0; decide⟩
  | succ k ih =>
    intro h
    obtain ⟨a, b, c⟩ := ih (by omega)
    have hne : zYo ρ k ≠ zDown ρ := fun e => by rw [e] at c; omega
    obtain ⟨x0, x1, x2, -⟩ := zYx_is hW a b hne
    refine ⟨zor_lt a (zone_lt (by omega)), zSub_up x0 b x2, ?_⟩
    show zpop (zYo ρ k ||| zone (zYx ρ (zYo ρ k))) = _
    rw [zpop_up x0 (by omega) (zYc_in x2).2.1, c]
    omega
theorem zYo_ne {ρ : zR} (hW : zWF ρ) {k : Nat} (hk : (k : Int) < zpop (zDown ρ)) : zYo ρ k ≠ zDown ρ := fun e => by
  have := (zYo_is hW k (by omega)).2.2
  rw [e] at this
  omega
theorem zYo_end {ρ : zR} (hW : zWF ρ) {k : Nat} (hk : (k : Int) = zpop (zDown ρ)) : zYo ρ k = zDown ρ := by
  obtain ⟨a, b, c⟩ := zYo_is hW k (by omega)
  refine zset_ext a (zDown_lt hW) (fun x x0 x1 => ?_)
  cases e : zin (zYo ρ k) x
  · cases e2 : zin (zDown ρ) x
    · rfl
    · have : zpop (zYo ρ k) < zpop (zDown ρ) := zct_lt b x0 x1 e e2
      omega
  · exact (b x x0 x1 e).symm
def zYz (ρ : zR) (p : Int) : Int := if 0 ≤ p ∧ p < zpop (zDown ρ) then zYx ρ (zYo ρ p.toNat) else -1
section
variable {d : Nat} {s : zS} {V : zV} {Q : zO → zH → Prop} {a r : Nat} {ρ : zR} {h : zH}
set_option maxRecDepth 20000 in
theorem c_inBestOrder (hd : 6 ≤ d) (hR : zRvP s V) (hP : zStP s V a) (hC : zStC ρ V a) (hW : zWF ρ) (ha : a + 18 ≤ 134) (hsz : 192 ≤ s.sz) (hL : zLz s V 134 3 20 138 4096) {p : Int} (hp : zI32 p) (hQ : ∀ s' V', zExt s s' 1 4096 → (∀ q : Nat, q < 192 → q ≠ 134 → q ≠ 135 → q ≠ 138 → V' q = V q) → zRvP s' V' → zLz s' V' 134 3 20 138 4096 → Q (.inl (some (zi (zYz ρ p)))) (s', V')) : zcall d 45 [.ref 134, .ref a, zi p] (s, V) Q := by
  obtain ⟨n0, n1, cc0, cc1⟩ := hW.1
  obtain ⟨p0, p1⟩ := hp
  have t1 := hR.1
  have hD := zDown_lt hW
  have hpr := zpop_rng (v := zDown ρ)
  obtain ⟨d, rfl⟩ : ∃ e, d = e + 1 := ⟨d - 1, by omega⟩
  rw [zc_45 t1]
  by_cases hpp : 0 ≤ p ∧ p < zpop (zDown ρ)
  · have hz : zYz ρ p = zYx ρ (zYo ρ p.toNat) := by unfold zYz; rw [if_pos hpp]
    rw [hz] at hQ
    simp (disch := first | assumption | exact zk_45 | ((repeat (first | exact z1n | refine z1I ?_ | refine z1R ?_)); done) | exact rfl | omega | decide) only [zb_45_0, r_aload_1, r_inv_1_0, r_inv_1_1, r_inv_1_2, r_inv_1_3, r_inv_1_4, r_K0, r_K1, r_istore_3i, r_istore_3r, r_istore_3j, r_iload_2, r_if_lt, r_iload_3, r_icmp_lt, r_goto_w, r_iconst, r_iret, r_bret_0, r_bret_1, r_aload_0, r_inv_2_0, r_inv_2_1, r_inv_2_2, r_inv_2_3, r_inv_2_4, r_pop_i, r_pop_r, r_istore_4i, r_istore_4r, r_istore_4j, r_iload_4, r_inv_4_0, r_inv_4_1, r_inv_4_2, r_inv_4_3, r_inv_4_4, r_istore_5i, r_istore_5r, r_istore_5j, r_istore_6i, r_istore_6r, r_istore_6j, r_iload_6, r_icmp_ge, r_iload_5, r_icmp_eq, r_ishl, r_ior, r_iinc_6i, r_iinc_6r, r_iinc_6j, r_goto, c_downSet (hC := hC), c_bitCount, ↓reduceIte, not_true_eq_false, not_false_eq_true, Int.reduceEq, Int.reduceLE, Int.reduceLT, Int.reduceAdd, Int.reduceNeg, Int.reduceMul, Int.reduceSub, Int.reduceToNat]
    rw [if_neg (by omega), if_pos (by omega)]
    simp (disch := first | assumption | exact zk_45 | ((repeat (first | exact z1n | refine z1I ?_ | refine z1R ?_)); done) | exact rfl | omega | decide) only [zb_45_2, r_aload_1, r_inv_1_0, r_inv_1_1, r_inv_1_2, r_inv_1_3, r_inv_1_4, r_K0, r_K1, r_istore_3i, r_istore_3r, r_istore_3j, r_iload_2, r_if_lt, r_iload_3, r_icmp_lt, r_goto_w, r_iconst, r_iret, r_bret_0, r_bret_1, r_aload_0, r_inv_2_0, r_inv_2_1, r_inv_2_2, r_inv_2_3, r_inv_2_4, r_pop_i, r_pop_r, r_istore_4i, r_istore_4r, r_istore_4j, r_iload_4, r_inv_4_0, r_inv_4_1, r_inv_4_2, r_inv_4_3, r_inv_4_4, r_istore_5i, r_istore_5r, r_istore_5j, r_istore_6i, r_istore_6r, r_istore_6j, r_iload_6, r_icmp_ge, r_iload_5, r_icmp_eq, r_ishl, r_ior, r_iinc_6i, r_iinc_6r, r_iinc_6j, r_goto, ↓reduceIte, not_true_eq_false, not_false_eq_true, Int.reduceEq, Int.reduceLE, Int.reduceLT, Int.reduceAdd, Int.reduceNeg, Int.reduceMul, Int.reduceSub, Int.reduceToNat]
    refine c_leastCost (by omega) hR hP hC hW ha hsz hL (fun s1 V1 r x1 f1 hR1 hB1 hc1 ht1 => ?_)
    have hP1 : zStP s1 V1 a := hP.ext x1 (by omega) (fun q q0 q1 => f1 q (by omega) (by omega) (by omega) (by omega))
    have hC1 : zStC ρ V1 a := hC.rows (fun q q0 q1 => f1 q (by omega) (by omega) (by omega) (by omega))
    obtain ⟨r1, r2, r3, r4, r5⟩ := hc1
    have fr : ∀ V2 : zV, (∀ q : Nat, q ≠ r → V2 q = V1 q) → zRvP s1 V2 ∧ zStP s1 V2 a ∧ zStC ρ V2 a ∧ zBf ρ V2 ∧ V2 134 3 = .ref r := fun V2 f2 => ⟨by unfold zRvP; rw [f2 134 (by omega)]; exact hR1, hP1.of (by rw [f2 a (by omega)]) (by rw [f2 a (by omega)]) (f2 _ (by omega)) (f2 _ (by omega)), hC1.rows (fun z z0 z1 => f2 z (by omega)), by unfold zBf; rw [f2 135 (by omega)]; exact hB1, by rw [f2 134 (by omega)]; exact r1⟩
    have go : ∀ (V2 : zV) (k : Nat) (K : zO → zH → Prop), (∀ q : Nat, q ≠ r → V2 q = V1 q) → zCt ρ V2 r 0 → (k : Int) < zpop (zDown ρ) → (∀ V3 : zV, (∀ q : Nat, q ≠ r → V3 q = V1 q) → zCt ρ V3 r 0 → K (.inl (some (zi (zYx ρ (zYo ρ k))))) (s1, V3)) → zcall d 43 [.ref 134, .ref a, zi (zDown ρ : Nat), zi (zYo ρ k : Nat)] (s1, V2) K := by
      intro V2 k K f2 ht2 hk hK
      obtain ⟨hR2, hP2, hC2, hB2, w2⟩ := fr V2 f2
      obtain ⟨ya, yb, yc⟩ := zYo_is hW k (by omega)
      refine c_settle (by omega) hR2 hP2 hC2 hW hB2 w2 r4 r5 ya yb (fun x x0 x1 hx => ht2 _ (zor_lt ya (zone_lt (by omega))) (by omega) (zSub_up x0 yb hx)) ?_
      rw [if_neg (zYo_ne hW hk)]
      exact hK _ (fun q hq => (zput_row hq).trans (f2 q hq)) (fun t t4 t0 ts => by
        by_cases e : t = zYo ρ k
        · rw [e, zput_at]
        · rw [zput_k (by omega)]; exact ht2 t t4 t0 ts)
    simp (disch := first | assumption | exact zk_45 | ((repeat (first | exact z1n | refine z1I ?_ | refine z1R ?_)); done) | exact rfl | omega | decide) only [r_aload_1, r_inv_1_0, r_inv_1_1, r_inv_1_2, r_inv_1_3, r_inv_1_4, r_K0, r_K1, r_istore_3i, r_istore_3r, r_istore_3j, r_iload_2, r_if_lt, r_iload_3, r_icmp_lt, r_goto_w, r_iconst, r_iret, r_bret_0, r_bret_1, r_aload_0, r_inv_2_0, r_inv_2_1, r_inv_2_2, r_inv_2_3, r_inv_2_4, r_pop_i, r_pop_r, r_istore_4i, r_istore_4r, r_istore_4j, r_iload_4, r_inv_4_0, r_inv_4_1, r_inv_4_2, r_inv_4_3, r_inv_4_4, r_istore_5i, r_istore_5r, r_istore_5j, r_istore_6i, r_istore_6r, r_istore_6j, r_iload_6, r_icmp_ge, r_iload_5, r_icmp_eq, r_ishl, r_ior, r_iinc_6i, r_iinc_6r, r_iinc_6j, r_goto, ↓reduceIte, not_true_eq_false, not_false_eq_true, Int.reduceEq, Int.reduceLE, Int.reduceLT, Int.reduceAdd, Int.reduceNeg, Int.reduceMul, Int.reduceSub, Int.reduceToNat]
    have g0 := go V1 0
    rw [show ((zYo ρ 0 : Nat) : Int) = 0 from rfl] at g0
    refine g0 _ (fun _ _ => rfl) ht1 (by omega) (fun V2 f2 ht2 => ?_)
    simp (disch := first | assumption | exact zk_45 | ((repeat (first | exact z1n | refine z1I ?_ | refine z1R ?_)); done) | exact rfl | omega | decide) only [r_aload_1, r_inv_1_0, r_inv_1_1, r_inv_1_2, r_inv_1_3, r_inv_1_4, r_K0, r_K1, r_istore_3i, r_istore_3r, r_istore_3j, r_iload_2, r_if_lt, r_iload_3, r_icmp_lt, r_goto_w, r_iconst, r_iret, r_bret_0, r_bret_1, r_aload_0, r_inv_2_0, r_inv_2_1, r_inv_2_2, r_inv_2_3, r_inv_2_4, r_pop_i, r_pop_r, r_istore_4i, r_istore_4r, r_istore_4j, r_iload_4, r_inv_4_0, r_inv_4_1, r_inv_4_2, r_inv_4_3, r_inv_4_4, r_istore_5i, r_istore_5r, r_istore_5j, r_istore_6i, r_istore_6r, r_istore_6j, r_iload_6, r_icmp_ge, r_iload_5, r_icmp_eq, r_ishl, r_ior, r_iinc_6i, r_iinc_6r, r_iinc_6j, r_goto, ↓reduceIte, not_true_eq_false, not_false_eq_true, Int.reduceEq, Int.reduceLE, Int.reduceLT, Int.reduceAdd, Int.reduceNeg, Int.reduceMul, Int.reduceSub, Int.reduceToNat]
    have hlp := z_iter (i := 0) (n := p) (I := fun k (q : zV) => (∀ z : Nat, z ≠ r → q z = V1 z) ∧ zCt ρ q r 0) (P := fun k q => zwp (zcall d) 45 Q (zB 45 3) [.ref 134, .ref a, zi p, zi (zDown ρ : Nat), zi (zYo ρ k.toNat : Nat), zi (zYx ρ (zYo ρ k.toNat)), zi k] [] (s1, q)) hpp.1
    refine hlp ?_ ?_ V2 ⟨f2, ht2⟩
    · rintro k V3 k0 k1 ⟨f3, ht3⟩ ih
      obtain ⟨w, rfl⟩ : ∃ w : Nat, k = w := ⟨k.toNat, by omega⟩
      rw [show ((w : Int) + 1).toNat = w + 1 by omega] at ih
      rw [Int.toNat_natCast]
      obtain ⟨ya, yb, yc⟩ := zYo_is hW w (by omega)
      obtain ⟨x0, x1, x2, -⟩ := zYx_is hW ya yb (zYo_ne hW (by omega))
      have hzo : zone (zYx ρ (zYo ρ w)) < 4096 := zone_lt (by omega)
      conv => rw [zb_45_3]
      simp (disch := first | assumption | exact zk_45 | ((repeat (first | exact z1n | refine z1I ?_ | refine z1R ?_)); done) | exact rfl | omega | decide) only [r_aload_1, r_inv_1_0, r_inv_1_1, r_inv_1_2, r_inv_1_3, r_inv_1_4, r_K0, r_K1, r_istore_3i, r_istore_3r, r_istore_3j, r_iload_2, r_if_lt, r_iload_3, r_icmp_lt, r_goto_w, r_iconst, r_iret, r_bret_0, r_bret_1, r_aload_0, r_inv_2_0, r_inv_2_1, r_inv_2_2, r_inv_2_3, r_inv_2_4, r_pop_i, r_pop_r, r_istore_4i, r_istore_4r, r_istore_4j, r_iload_4, r_inv_4_0, r_inv_4_1, r_inv_4_2, r_inv_4_3, r_inv_4_4, r_istore_5i, r_istore_5r, r_istore_5j, r_istore_6i, r_istore_6r, r_istore_6j, r_iload_6, r_icmp_ge, r_iload_5, r_icmp_eq, r_ishl, r_ior, r_iinc_6i, r_iinc_6r, r_iinc_6j, r_goto, zshl_z, zor_n, ↓reduceIte, not_true_eq_false, not_false_eq_true, Int.reduceEq, Int.reduceLE, Int.reduceLT, Int.reduceAdd, Int.reduceNeg, Int.reduceMul, Int.reduceSub, Int.reduceToNat]
      rw [if_neg (by omega), if_neg (by omega)]
      refine go V3 (w + 1) _ f3 ht3 (by omega) (fun V4 f4 ht4 => ?_)
      have := ih V4 ⟨f4, ht4⟩
      simp (disch := first | assumption | exact zk_45 | ((repeat (first | exact z1n | refine z1I ?_ | refine z1R ?_)); done) | exact rfl | omega | decide) only [r_aload_1, r_inv_1_0, r_inv_1_1, r_inv_1_2, r_inv_1_3, r_inv_1_4, r_K0, r_K1, r_istore_3i, r_istore_3r, r_istore_3j, r_iload_2, r_if_lt, r_iload_3, r_icmp_lt, r_goto_w, r_iconst, r_iret, r_bret_0, r_bret_1, r_aload_0, r_inv_2_0, r_inv_2_1, r_inv_2_2, r_inv_2_3, r_inv_2_4, r_pop_i, r_pop_r, r_istore_4i, r_istore_4r, r_istore_4j, r_iload_4, r_inv_4_0, r_inv_4_1, r_inv_4_2, r_inv_4_3, r_inv_4_4, r_istore_5i, r_istore_5r, r_istore_5j, r_istore_6i, r_istore_6r, r_istore_6j, r_iload_6, r_icmp_ge, r_iload_5, r_icmp_eq, r_ishl, r_ior, r_iinc_6i, r_iinc_6r, r_iinc_6j, r_goto, ↓reduceIte, not_true_eq_false, not_false_eq_true, Int.reduceEq, Int.reduceLE, Int.reduceLT, Int.reduceAdd, Int.reduceNeg, Int.reduceMul, Int.reduceSub, Int.reduceToNat]
      exact this
    · rintro V3 ⟨f3, ht3⟩
      obtain ⟨hR3, -, -, -, w3⟩ := fr V3 f3
      have := hQ s1 V3 x1 (fun q q1 q2 q3 q4 => by rw [f3 q (by omega)]; exact f1 q q1 q2 q3 q4) hR3 ⟨r, w3, r2, r3, r4, Or.inr r5⟩
      simp (disch := first | assumption | exact zk_45 | ((repeat (first | exact z1n | refine z1I ?_ | refine z1R ?_)); done) | exact rfl | omega | decide) only [zb_45_3, zb_45_4, r_aload_1, r_inv_1_0, r_inv_1_1, r_inv_1_2, r_inv_1_3, r_inv_1_4, r_K0, r_K1, r_istore_3i, r_istore_3r, r_istore_3j, r_iload_2, r_if_lt, r_iload_3, r_icmp_lt, r_goto_w, r_iconst, r_iret, r_bret_0, r_bret_1, r_aload_0, r_inv_2_0, r_inv_2_1, r_inv_2_2, r_inv_2_3, r_inv_2_4, r_pop_i, r_pop_r, r_istore_4i, r_istore_4r, r_istore_4j, r_iload_4, r_inv_4_0, r_inv_4_1, r_inv_4_2, r_inv_4_3, r_inv_4_4, r_istore_5i, r_istore_5r, r_istore_5j, r_istore_6i, r_istore_6r, r_istore_6j, r_iload_6, r_icmp_ge, r_iload_5, r_icmp_eq, r_ishl, r_ior, r_iinc_6i, r_iinc_6r, r_iinc_6j, r_goto, Int.le_refl, ↓reduceIte, not_true_eq_false, not_false_eq_true, Int.reduceEq, Int.reduceLE, Int.reduceLT, Int.reduceAdd, Int.reduceNeg, Int.reduceMul, Int.reduceSub, Int.reduceToNat]
      exact this
  · have hz : zYz ρ p = -1 := by unfold zYz; rw [if_neg hpp]
    rw [hz] at hQ
    have := hQ s V zExt.rf (fun _ _ _ _ _ => rfl) hR hL
    simp (disch := first | assumption | exact zk_45 | ((repeat (first | exact z1n | refine z1I ?_ | refine z1R ?_)); done) | exact rfl | omega | decide) only [zb_45_0, zb_45_1, r_aload_1, r_inv_1_0, r_inv_1_1, r_inv_1_2, r_inv_1_3, r_inv_1_4, r_K0, r_K1, r_istore_3i, r_istore_3r, r_istore_3j, r_iload_2, r_if_lt, r_iload_3, r_icmp_lt, r_goto_w, r_iconst, r_iret, r_bret_0, r_bret_1, r_aload_0, r_inv_2_0, r_inv_2_1, r_inv_2_2, r_inv_2_3, r_inv_2_4, r_pop_i, r_pop_r, r_istore_4i, r_istore_4r, r_istore_4j, r_iload_4, r_inv_4_0, r_inv_4_1, r_inv_4_2, r_inv_4_3, r_inv_4_4, r_istore_5i, r_istore_5r, r_istore_5j, r_istore_6i, r_istore_6r, r_istore_6j, r_iload_6, r_icmp_ge, r_iload_5, r_icmp_eq, r_ishl, r_ior, r_iinc_6i, r_iinc_6r, r_iinc_6j, r_goto, c_downSet (hC := hC), c_bitCount, ↓reduceIte, not_true_eq_false, not_false_eq_true, Int.reduceEq, Int.reduceLE, Int.reduceLT, Int.reduceAdd, Int.reduceNeg, Int.reduceMul, Int.reduceSub, Int.reduceToNat]
    by_cases q : p < 0
    · rw [if_pos q]; exact this
    · rw [if_neg q, if_neg (by omega)]; exact this
end
