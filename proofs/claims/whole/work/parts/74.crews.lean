/-! CREWS, 3: byCrews -/
theorem zQw_upd {ρ : zR} (hW : zWF ρ) {b : Int → Int} {t y : Int} (t0 : 0 ≤ t) (y0 : 0 ≤ y) (y1 : y < ρ.n) : zdf (zQw ρ b) (zone y) = zQw ρ (zUpd b y t) := by
  have hn := hW.1
  refine zset_ext (zdf_lt (zQw_lt hW)) (zQw_lt hW) (fun x x0 x1 => ?_)
  rw [Bool.eq_iff_iff, zin_df, Bool.and_eq_true, Bool.not_eq_true', zone_bit y0 x0, decide_eq_false_iff_not, zQw_bit hn.1 x0, zQw_bit hn.1 x0]
  unfold zUpd
  by_cases e : x = y
  · rw [if_pos e]
    constructor
    · rintro ⟨-, h⟩; exact absurd e.symm h
    · rintro ⟨-, -, h⟩; omega
  · rw [if_neg e]
    constructor
    · rintro ⟨h, -⟩; exact h
    · intro h; exact ⟨h, fun q => e q.symm⟩
theorem zQr_F {ρ : zR} (hW : zWF ρ) {b : Int → Int} {F : Nat} {t : Int} : zdf (zQr ρ b F) (zQo ρ b F t) = zQr ρ b (zQF ρ b F t) := by
  have hn := hW.1
  refine zset_ext (zdf_lt (zQr_lt hW)) (zQr_lt hW) (fun x x0 x1 => ?_)
  rw [Bool.eq_iff_iff, zin_df, Bool.and_eq_true, Bool.not_eq_true', zQr_bit hn.1 x0, zQr_bit hn.1 x0]
  constructor
  · rintro ⟨⟨h1, h2, h3⟩, h4⟩
    refine ⟨h1, h2, ?_⟩
    show zin (F ||| zQo ρ b F t) x = false
    rw [zin_or, h3, h4]; rfl
  · rintro ⟨h1, h2, h3⟩
    have h3 : zin (F ||| zQo ρ b F t) x = false := h3
    rw [zin_or, Bool.or_eq_false_iff] at h3
    exact ⟨⟨h1, h2, h3.1⟩, h3.2⟩
/-- at the beginning -/
theorem zQI_0 {ρ : zR} : zQI ρ (fun _ => -1) 0 0 := ⟨by omega, fun x _ hx => absurd ((zin_zero x).symm.trans hx) Bool.false_ne_true, fun x hx => absurd rfl hx, Int.le_refl _⟩
theorem zQw_0 {ρ : zR} (hW : zWF ρ) : zQw ρ (fun _ => -1) = zDown ρ := by
  have hn := hW.1
  refine zset_ext (zQw_lt hW) (zDown_lt hW) (fun x x0 x1 => ?_)
  rw [Bool.eq_iff_iff, zQw_bit hn.1 x0]
  exact ⟨fun h => h.2.1, fun h => ⟨((zDown_bit hW x0).mp h).1, h, rfl⟩⟩
theorem zQr_0 {ρ : zR} (hW : zWF ρ) {F : Nat} : zQr ρ (fun _ => -1) F = 0 := by
  have hn := hW.1
  refine zset_ext (zQr_lt hW) (by omega) (fun x x0 x1 => ?_)
  rw [zin_zero]
  cases c : zin (zQr ρ (fun _ => -1) F) x
  · rfl
  · exact absurd rfl ((zQr_bit hn.1 x0).mp c).2.1
def zQR (ρ : zR) (c : Int) : Int × (Int → Int) := zQE ρ c (ρ.n + 1).toNat (fun _ => -1) 0 0
section
variable {d : Nat} {s : zS} {V : zV} {Q : zO → zH → Prop} {a r : Nat} {ρ : zR} {h : zH} {b : Int → Int} {F : Nat} {t : Int}
/-- the row of beginnings -/
def zBr (b : Int → Int) (V : zV) : Prop := ∀ x, b x ≠ -1 → V 136 x = zi (b x)
set_option maxRecDepth 20000 in
theorem c_starts (hd : 2 ≤ d) (hW : zWF ρ) (ha : a + 18 ≤ 134) {c i o : Int} (t1 : t ≤ 100000) : ∀ (k : Nat) (b : Int → Int) (V1 : zV) (x10 : Value), k ≤ 1000 → zRvP s V1 → zStP s V1 a → zStC ρ V1 a → zBf ρ V1 → zQI ρ b F t → zEr ρ b F V1 → zBr b V1 → (∀ (V2 : zV) (x9 x10 : Value), (∀ q : Nat, q ≠ 136 → q ≠ 137 → V2 q = V1 q) → zEr ρ (zQs ρ F t k b) F V2 → zBr (zQs ρ F t k b) V2 → zwp (zcall d) 38 Q (zB 38 4) [.ref 134, .ref a, zi c, zi (zQw ρ (zQs ρ F t k b) : Nat), zi (zQr ρ (zQs ρ F t k b) F : Nat), zi (F : Nat), zi t, zi i, zi o, x9, x10] [] (s, V2)) → zwp (zcall d) 38 Q (zB 38 2) [.ref 134, .ref a, zi c, zi (zQw ρ b : Nat), zi (zQr ρ b F : Nat), zi (F : Nat), zi t, zi i, zi o, zi (k : Int), x10] [] (s, V1) := by
  obtain ⟨n0, n1, cc0, cc1⟩ := hW.1
  intro k
  induction k with
  | zero =>
    intro b V1 x10 hk hR1 hP1 hC1 hB1 hI hE hBr hK
    have := hK V1 (zi 0) x10 (fun _ _ _ => rfl) hE hBr
    have e0 : ((0 : Nat) : Int) = 0 := rfl
    simp (disch := first | assumption | exact zk_38 | ((repeat (first | exact z1n | refine z1I ?_ | refine z1R ?_)); done) | exact rfl | omega | decide) only [zb_38_2, r_aload_0, r_aload_1, r_inv_2_0, r_inv_2_1, r_inv_2_2, r_inv_2_3, r_inv_2_4, r_K0, r_K1, r_istore_3i, r_istore_3r, r_istore_3j, r_iconst, r_istore_4i, r_istore_4r, r_istore_4j, r_istore_5i, r_istore_5r, r_istore_5j, r_istore_6i, r_istore_6r, r_istore_6j, r_istore_7i, r_istore_7r, r_istore_7j, r_goto_w, r_iload_7, r_gf_448, r_icmp_gt, r_iload_4, r_iload_6, r_inv_4_0, r_inv_4_1, r_inv_4_2, r_inv_4_3, r_inv_4_4, r_istore_8i, r_istore_8r, r_istore_8j, r_iload_8, r_ixor, r_iand, r_iload_5, r_ior, r_iload_2, r_inv_1_0, r_inv_1_1, r_inv_1_2, r_inv_1_3, r_inv_1_4, r_isub, r_istore_9i, r_istore_9r, r_istore_9j, r_iload_9, r_if_le, r_iload_3, r_istore_10i, r_istore_10r, r_istore_10j, r_iload_10, r_icmp_ne, r_goto, r_gf_257, r_iastore, r_gf_258, r_gf_450, r_aaload, r_ial, r_ial30, r_ial32, r_iadd, r_ishl, r_iinc_9i, r_iinc_9r, r_iinc_9j, r_if_ne, r_iret, r_bret_0, r_bret_1, r_inv_3_0, r_inv_3_1, r_inv_3_2, r_inv_3_3, r_inv_3_4, r_iinc_7i, r_iinc_7r, r_iinc_7j, e0, Int.le_refl, ↓reduceIte, not_true_eq_false, not_false_eq_true, Int.reduceEq, Int.reduceLE, Int.reduceLT, Int.reduceAdd, Int.reduceNeg, Int.reduceMul, Int.reduceSub, Int.reduceToNat]
    exact this
  | succ k ih =>
    intro b V1 x10 hk hR1 hP1 hC1 hB1 hI hE hBr hK
    have hF := hI.1
    have hU := zQr_lt hW (b := b) (F := F)
    have hWl := zQw_lt hW (b := b)
    have t0 := hI.2.2.2
    have tR := hR1.1
    have es : zQs ρ F t (k + 1) b = if zQn ρ b F = -1 then b else zQs ρ F t k (zUpd b (zQn ρ b F) t) := rfl
    have ek : ((k + 1 : Nat) : Int) + -1 = (k : Int) := by omega
    rw [es] at hK
    have hmi : ∀ K, zcall d 41 [.ref 134, .ref a, zi (zQw ρ b : Nat), zi (F : Nat)] (s, V1) K = K (.inl (some (zi (zQn ρ b F)))) (s, V1) := fun K => c_mostImportant (by omega) hR1 hP1 hC1 hW hB1 hF
    by_cases cn : zQn ρ b F = -1
    · rw [if_pos cn] at hK
      have := hK V1 (zi ((k + 1 : Nat) : Int)) (zi (-1)) (fun _ _ _ => rfl) hE hBr
      conv => rw [zb_38_2]
      simp (disch := first | assumption | exact zk_38 | ((repeat (first | exact z1n | refine z1I ?_ | refine z1R ?_)); done) | exact rfl | omega | decide) only [r_aload_0, r_aload_1, r_inv_2_0, r_inv_2_1, r_inv_2_2, r_inv_2_3, r_inv_2_4, r_K0, r_K1, r_istore_3i, r_istore_3r, r_istore_3j, r_iconst, r_istore_4i, r_istore_4r, r_istore_4j, r_istore_5i, r_istore_5r, r_istore_5j, r_istore_6i, r_istore_6r, r_istore_6j, r_istore_7i, r_istore_7r, r_istore_7j, r_goto_w, r_iload_7, r_gf_448, r_icmp_gt, r_iload_4, r_iload_6, r_inv_4_0, r_inv_4_1, r_inv_4_2, r_inv_4_3, r_inv_4_4, r_istore_8i, r_istore_8r, r_istore_8j, r_iload_8, r_ixor, r_iand, r_iload_5, r_ior, r_iload_2, r_inv_1_0, r_inv_1_1, r_inv_1_2, r_inv_1_3, r_inv_1_4, r_isub, r_istore_9i, r_istore_9r, r_istore_9j, r_iload_9, r_if_le, r_iload_3, r_istore_10i, r_istore_10r, r_istore_10j, r_iload_10, r_icmp_ne, r_goto, r_gf_257, r_iastore, r_gf_258, r_gf_450, r_aaload, r_ial, r_ial30, r_ial32, r_iadd, r_ishl, r_iinc_9i, r_iinc_9r, r_iinc_9j, r_if_ne, r_iret, r_bret_0, r_bret_1, r_inv_3_0, r_inv_3_1, r_inv_3_2, r_inv_3_3, r_inv_3_4, r_iinc_7i, r_iinc_7r, r_iinc_7j, hmi, cn, ↓reduceIte, not_true_eq_false, not_false_eq_true, Int.reduceEq, Int.reduceLE, Int.reduceLT, Int.reduceAdd, Int.reduceNeg, Int.reduceMul, Int.reduceSub, Int.reduceToNat]
      rw [if_neg (by omega)]
      exact this
    · rw [if_neg cn] at hK
      rcases zQnk_is (ρ := ρ) (b := b) (F := F) n0 with ⟨i1, -⟩ | ⟨⟨i1, i2⟩, i3⟩
      · exact absurd i1 cn
      · have i1 : 0 ≤ zQn ρ b F := i1
        have i2 : zQn ρ b F < ρ.n := i2
        have hc := zQc_in i3
        have hc : zin (zDown ρ) (zQn ρ b F) = true ∧ b (zQn ρ b F) = -1 ∧ _ := hc
        have hFx : zin F (zQn ρ b F) = false := by
          cases q : zin F (zQn ρ b F)
          · rfl
          · exact absurd hc.2.1 (hI.2.1 _ i1 q)
        obtain ⟨e1, e2⟩ := zQr_upd hW (t := t) t0 i1 i2 hc.2.1 hFx
        have e3 := zQw_upd hW (b := b) (t := t) t0 i1 i2
        have hI2 := hI.upd hW cn
        generalize hy : zQn ρ b F = y at *
        have hzo : zone y < 4096 := zone_lt (by omega)
        obtain ⟨-, ⟨-, v1, v2⟩, -, ⟨ta, la⟩, tb, lb⟩ := id hR1
        have tO := hP1.1
        have vA := hP1.2.1
        have tA := hP1.2.2.1
        have lA := hP1.2.2.2.1
        have vs3 : V1 (a + 1) 3 = .ref (a + 5) := (hP1.2.2.2.2.2.2.2.1 3 (by omega)).1
        have ts3 : s.tg (a + 5) = 20 := (hP1.2.2.2.2.2.2.2.1 3 (by omega)).2.1
        have ls3 : s.ln (a + 5) = 12 := (hP1.2.2.2.2.2.2.2.1 3 (by omega)).2.2
        have hv : V1 (a + 5) y = zi (ρ.S 3 y) := hC1.2.2.1 3 (by omega) y i1 i2
        have w := (hW.2.1 y i1 i2).2.2.2.1
        have v2' : ∀ z, zput V1 136 y z 134 2 = .ref 137 := fun z => by rw [zput_r (by omega)]; exact v2
        have vA' : ∀ z, zput V1 136 y z a 2 = .ref (a + 1) := fun z => by rw [zput_r (by omega)]; exact vA
        have vs3' : ∀ z, zput V1 136 y z (a + 1) 3 = .ref (a + 5) := fun z => by rw [zput_r (by omega)]; exact vs3
        have hv' : ∀ z, zput V1 136 y z (a + 5) y = zi (ρ.S 3 y) := fun z => by rw [zput_r (by omega)]; exact hv
        have f2 : ∀ q : Nat, q ≠ 136 → q ≠ 137 → zput (zput V1 136 y (zi t)) 137 y (zi (t + ρ.S 3 y)) q = V1 q := fun q q1 q2 => (zput_row q2).trans (zput_row q1)
        have step := ih (zUpd b y t) (zput (zput V1 136 y (zi t)) 137 y (zi (t + ρ.S 3 y))) (zi y) (by omega) (by
          unfold zRvP; rw [f2 134 (by omega) (by omega)]; exact hR1) (hP1.of (by rw [f2 a (by omega) (by omega)]) (by rw [f2 a (by omega) (by omega)]) (f2 _ (by omega) (by omega)) (f2 _ (by omega) (by omega))) (hC1.rows (fun z z0 z1 => f2 z (by omega) (by omega))) (by unfold zBf; rw [f2 135 (by omega) (by omega)]; exact hB1) hI2 (fun x x0 x1 hx => by
            by_cases q : x = y
            · rw [q, zput_at, show zUpd b y t y = t from if_pos rfl]
            · rw [zput_k q, zput_r (by omega), show zUpd b y t x = b x from if_neg q]
              refine hE x x0 x1 ?_
              obtain ⟨g1, g2, g3⟩ := (zQr_bit n0 x0).mp hx
              rw [show zUpd b y t x = b x from if_neg q] at g2
              exact (zQr_bit n0 x0).mpr ⟨g1, g2, g3⟩) (fun x hx => by
            rw [zput_r (by omega)]
            by_cases q : x = y
            · rw [q, zput_at, show zUpd b y t y = t from if_pos rfl]
            · rw [show zUpd b y t x = b x from if_neg q] at hx ⊢
              rw [zput_k q]; exact hBr x hx) (fun V2 x9 x10 g2 hE2 hB2 => hK V2 x9 x10 (fun q q1 q2 => (g2 q q1 q2).trans (f2 q q1 q2)) hE2 hB2)
        rw [e1, ← e3] at step
        conv => rw [zb_38_2]
        simp (disch := first | assumption | exact zk_38 | ((repeat (first | exact z1n | refine z1I ?_ | refine z1R ?_)); done) | exact rfl | omega | decide) only [zb_38_3, r_aload_0, r_aload_1, r_inv_2_0, r_inv_2_1, r_inv_2_2, r_inv_2_3, r_inv_2_4, r_K0, r_K1, r_istore_3i, r_istore_3r, r_istore_3j, r_iconst, r_istore_4i, r_istore_4r, r_istore_4j, r_istore_5i, r_istore_5r, r_istore_5j, r_istore_6i, r_istore_6r, r_istore_6j, r_istore_7i, r_istore_7r, r_istore_7j, r_goto_w, r_iload_7, r_gf_448, r_icmp_gt, r_iload_4, r_iload_6, r_inv_4_0, r_inv_4_1, r_inv_4_2, r_inv_4_3, r_inv_4_4, r_istore_8i, r_istore_8r, r_istore_8j, r_iload_8, r_ixor, r_iand, r_iload_5, r_ior, r_iload_2, r_inv_1_0, r_inv_1_1, r_inv_1_2, r_inv_1_3, r_inv_1_4, r_isub, r_istore_9i, r_istore_9r, r_istore_9j, r_iload_9, r_if_le, r_iload_3, r_istore_10i, r_istore_10r, r_istore_10j, r_iload_10, r_icmp_ne, r_goto, r_gf_257, r_iastore, r_gf_258, r_gf_450, r_aaload, r_ial, r_ial30, r_ial32, r_iadd, r_ishl, r_iinc_9i, r_iinc_9r, r_iinc_9j, r_if_ne, r_iret, r_bret_0, r_bret_1, r_inv_3_0, r_inv_3_1, r_inv_3_2, r_inv_3_3, r_inv_3_4, r_iinc_7i, r_iinc_7r, r_iinc_7j, hmi, v1, v2, v2', vA', vs3', hv', zshl_z, zandn_n, zor_n, ek, ↓reduceIte, not_true_eq_false, not_false_eq_true, Int.reduceEq, Int.reduceLE, Int.reduceLT, Int.reduceAdd, Int.reduceNeg, Int.reduceMul, Int.reduceSub, Int.reduceToNat]
        rw [if_neg (by omega), if_pos (by omega)]
        exact step
set_option maxRecDepth 20000 in
theorem c_byCrews (hd : 5 ≤ d) (hR : zRvP s V) (hP : zStP s V a) (hC : zStC ρ V a) (hW : zWF ρ) (ha : a + 18 ≤ 134) {c : Int} (c1 : 1 ≤ c) (c4 : c ≤ 4) (hQ : ∀ V', (∀ q : Nat, q ≠ 135 → q ≠ 136 → q ≠ 137 → V' q = V q) → zBr (zQR ρ c).2 V' → Q (.inl (some (zi (zQR ρ c).1))) (s, V')) : zcall d 38 [.ref 134, .ref a, zi c] (s, V) Q := by
  obtain ⟨n0, n1, cc0, cc1⟩ := hW.1
  have tR := hR.1
  obtain ⟨d, rfl⟩ : ∃ e, d = e + 1 := ⟨d - 1, by omega⟩
  rw [zc_38 tR]
  simp (disch := first | assumption | exact zk_38 | ((repeat (first | exact z1n | refine z1I ?_ | refine z1R ?_)); done) | exact rfl | omega | decide) only [zb_38_0, r_aload_0, r_aload_1, r_inv_2_0, r_inv_2_1, r_inv_2_2, r_inv_2_3, r_inv_2_4, r_K0, r_K1, r_istore_3i, r_istore_3r, r_istore_3j, r_iconst, r_istore_4i, r_istore_4r, r_istore_4j, r_istore_5i, r_istore_5r, r_istore_5j, r_istore_6i, r_istore_6r, r_istore_6j, r_istore_7i, r_istore_7r, r_istore_7j, r_goto_w, r_iload_7, r_gf_448, r_icmp_gt, r_iload_4, r_iload_6, r_inv_4_0, r_inv_4_1, r_inv_4_2, r_inv_4_3, r_inv_4_4, r_istore_8i, r_istore_8r, r_istore_8j, r_iload_8, r_ixor, r_iand, r_iload_5, r_ior, r_iload_2, r_inv_1_0, r_inv_1_1, r_inv_1_2, r_inv_1_3, r_inv_1_4, r_isub, r_istore_9i, r_istore_9r, r_istore_9j, r_iload_9, r_if_le, r_iload_3, r_istore_10i, r_istore_10r, r_istore_10j, r_iload_10, r_icmp_ne, r_goto, r_gf_257, r_iastore, r_gf_258, r_gf_450, r_aaload, r_ial, r_ial30, r_ial32, r_iadd, r_ishl, r_iinc_9i, r_iinc_9r, r_iinc_9j, r_if_ne, r_iret, r_bret_0, r_bret_1, r_inv_3_0, r_inv_3_1, r_inv_3_2, r_inv_3_3, r_inv_3_4, r_iinc_7i, r_iinc_7r, r_iinc_7j, ↓reduceIte, not_true_eq_false, not_false_eq_true, Int.reduceEq, Int.reduceLE, Int.reduceLT, Int.reduceAdd, Int.reduceNeg, Int.reduceMul, Int.reduceSub, Int.reduceToNat]
  refine c_fillBefore (by omega) hR hP hC hW ha (fun V0 f0 hB0 => ?_)
  simp (disch := first | assumption | exact zk_38 | ((repeat (first | exact z1n | refine z1I ?_ | refine z1R ?_)); done) | exact rfl | omega | decide) only [r_aload_0, r_aload_1, r_inv_2_0, r_inv_2_1, r_inv_2_2, r_inv_2_3, r_inv_2_4, r_K0, r_K1, r_istore_3i, r_istore_3r, r_istore_3j, r_iconst, r_istore_4i, r_istore_4r, r_istore_4j, r_istore_5i, r_istore_5r, r_istore_5j, r_istore_6i, r_istore_6r, r_istore_6j, r_istore_7i, r_istore_7r, r_istore_7j, r_goto_w, r_iload_7, r_gf_448, r_icmp_gt, r_iload_4, r_iload_6, r_inv_4_0, r_inv_4_1, r_inv_4_2, r_inv_4_3, r_inv_4_4, r_istore_8i, r_istore_8r, r_istore_8j, r_iload_8, r_ixor, r_iand, r_iload_5, r_ior, r_iload_2, r_inv_1_0, r_inv_1_1, r_inv_1_2, r_inv_1_3, r_inv_1_4, r_isub, r_istore_9i, r_istore_9r, r_istore_9j, r_iload_9, r_if_le, r_iload_3, r_istore_10i, r_istore_10r, r_istore_10j, r_iload_10, r_icmp_ne, r_goto, r_gf_257, r_iastore, r_gf_258, r_gf_450, r_aaload, r_ial, r_ial30, r_ial32, r_iadd, r_ishl, r_iinc_9i, r_iinc_9r, r_iinc_9j, r_if_ne, r_iret, r_bret_0, r_bret_1, r_inv_3_0, r_inv_3_1, r_inv_3_2, r_inv_3_3, r_inv_3_4, r_iinc_7i, r_iinc_7r, r_iinc_7j, ↓reduceIte, not_true_eq_false, not_false_eq_true, Int.reduceEq, Int.reduceLE, Int.reduceLT, Int.reduceAdd, Int.reduceNeg, Int.reduceMul, Int.reduceSub, Int.reduceToNat]
  have main : ∀ (f : Nat) (i : Int), i + f = ρ.n + 1 → 0 ≤ i → ∀ (b : Int → Int) (F : Nat) (t : Int) (V1 : zV) (x8 x9 x10 : Value), zQI ρ b F t → t ≤ 20 * i → (∀ q : Nat, q ≠ 136 → q ≠ 137 → V1 q = V0 q) → zEr ρ b F V1 → zBr b V1 → zQE ρ c f b F t = zQR ρ c → zwp (zcall d) 38 Q (zB 38 1) [.ref 134, .ref a, zi c, zi (zQw ρ b : Nat), zi (zQr ρ b F : Nat), zi (F : Nat), zi t, zi i, x8, x9, x10] [] (s, V1) := by
    intro f
    induction f with
    | zero =>
      intro i hi i0 b F t V1 x8 x9 x10 hI ht g1 hE hBr hz
      have hz : (t, b) = zQR ρ c := hz
      have h1 : (zQR ρ c).1 = t := by rw [← hz]
      have h2 : (zQR ρ c).2 = b := by rw [← hz]
      rw [h1, h2] at hQ
      have := hQ V1 (fun q q1 q2 q3 => (g1 q q2 q3).trans (f0 q q1)) hBr
      have vn : V1 a 0 = zi ρ.n := by rw [g1 a (by omega) (by omega), f0 a (by omega)]; exact hC.1
      have tO := hP.1
      simp (disch := first | assumption | exact zk_38 | ((repeat (first | exact z1n | refine z1I ?_ | refine z1R ?_)); done) | exact rfl | omega | decide) only [zb_38_1, zb_38_6, r_aload_0, r_aload_1, r_inv_2_0, r_inv_2_1, r_inv_2_2, r_inv_2_3, r_inv_2_4, r_K0, r_K1, r_istore_3i, r_istore_3r, r_istore_3j, r_iconst, r_istore_4i, r_istore_4r, r_istore_4j, r_istore_5i, r_istore_5r, r_istore_5j, r_istore_6i, r_istore_6r, r_istore_6j, r_istore_7i, r_istore_7r, r_istore_7j, r_goto_w, r_iload_7, r_gf_448, r_icmp_gt, r_iload_4, r_iload_6, r_inv_4_0, r_inv_4_1, r_inv_4_2, r_inv_4_3, r_inv_4_4, r_istore_8i, r_istore_8r, r_istore_8j, r_iload_8, r_ixor, r_iand, r_iload_5, r_ior, r_iload_2, r_inv_1_0, r_inv_1_1, r_inv_1_2, r_inv_1_3, r_inv_1_4, r_isub, r_istore_9i, r_istore_9r, r_istore_9j, r_iload_9, r_if_le, r_iload_3, r_istore_10i, r_istore_10r, r_istore_10j, r_iload_10, r_icmp_ne, r_goto, r_gf_257, r_iastore, r_gf_258, r_gf_450, r_aaload, r_ial, r_ial30, r_ial32, r_iadd, r_ishl, r_iinc_9i, r_iinc_9r, r_iinc_9j, r_if_ne, r_iret, r_bret_0, r_bret_1, r_inv_3_0, r_inv_3_1, r_inv_3_2, r_inv_3_3, r_inv_3_4, r_iinc_7i, r_iinc_7r, r_iinc_7j, vn, ↓reduceIte, not_true_eq_false, not_false_eq_true, Int.reduceEq, Int.reduceLE, Int.reduceLT, Int.reduceAdd, Int.reduceNeg, Int.reduceMul, Int.reduceSub, Int.reduceToNat]
      rw [if_pos (by omega)]
      exact this
    | succ f ih =>
      intro i hi i0 b F t V1 x8 x9 x10 hI ht g1 hE hBr hz
      have g0 : ∀ q : Nat, q ≠ 135 → q ≠ 136 → q ≠ 137 → V1 q = V q := fun q q1 q2 q3 => (g1 q q2 q3).trans (f0 q q1)
      have hR1 : zRvP s V1 := by unfold zRvP; rw [g0 134 (by omega) (by omega) (by omega)]; exact hR
      have hP1 : zStP s V1 a := hP.of (by rw [g0 a (by omega) (by omega) (by omega)]) (by rw [g0 a (by omega) (by omega) (by omega)]) (g0 _ (by omega) (by omega) (by omega)) (g0 _ (by omega) (by omega) (by omega))
      have hC1 : zStC ρ V1 a := hC.rows (fun z z0 z1 => g0 z (by omega) (by omega) (by omega))
      have hB1 : zBf ρ V1 := by unfold zBf; rw [g1 135 (by omega) (by omega)]; exact hB0
      have hF4 := hI.1
      have vn := hC1.1
      have tO := hP1.1
      have hU := zQr_lt hW (b := b) (F := F)
      have hO := zQo_lt hW (b := b) (F := F) (t := t)
      have hU2 := zQr_lt hW (b := b) (F := zQF ρ b F t)
      have hpo := zpop_rng (v := zQr ρ b (zQF ρ b F t))
      have ho : ∀ K, zcall d 39 [.ref 134, .ref a, zi (zQr ρ b F : Nat), zi t] (s, V1) K = K (.inl (some (zi (zQo ρ b F t : Nat)))) (s, V1) := fun K => c_overAt (by omega) hR1 hP1 hC1 hW hI (by omega) hE
      have hdf := zQr_F hW (b := b) (F := F) (t := t)
      have hor : F ||| zQo ρ b F t = zQF ρ b F t := rfl
      have hI2 := hI.F hW
      have hI3 := hI.b hW (c := c)
      have hE2 : zEr ρ b (zQF ρ b F t) V1 := fun x x0 x1 hx => hE x x0 x1 (by
        rw [← hdf, zin_df, Bool.and_eq_true] at hx
        exact hx.1)
      have hz : (if zQr ρ (zQb ρ c b F t) (zQF ρ b F t) = 0 then (t, zQb ρ c b F t) else zQE ρ c f (zQb ρ c b F t) (zQF ρ b F t) (zQe ρ (zQb ρ c b F t) (zQF ρ b F t))) = zQR ρ c := hz
      conv => rw [zb_38_1]
      simp (disch := first | assumption | exact zk_38 | ((repeat (first | exact z1n | refine z1I ?_ | refine z1R ?_)); done) | exact rfl | omega | decide) only [r_aload_0, r_aload_1, r_inv_2_0, r_inv_2_1, r_inv_2_2, r_inv_2_3, r_inv_2_4, r_K0, r_K1, r_istore_3i, r_istore_3r, r_istore_3j, r_iconst, r_istore_4i, r_istore_4r, r_istore_4j, r_istore_5i, r_istore_5r, r_istore_5j, r_istore_6i, r_istore_6r, r_istore_6j, r_istore_7i, r_istore_7r, r_istore_7j, r_goto_w, r_iload_7, r_gf_448, r_icmp_gt, r_iload_4, r_iload_6, r_inv_4_0, r_inv_4_1, r_inv_4_2, r_inv_4_3, r_inv_4_4, r_istore_8i, r_istore_8r, r_istore_8j, r_iload_8, r_ixor, r_iand, r_iload_5, r_ior, r_iload_2, r_inv_1_0, r_inv_1_1, r_inv_1_2, r_inv_1_3, r_inv_1_4, r_isub, r_istore_9i, r_istore_9r, r_istore_9j, r_iload_9, r_if_le, r_iload_3, r_istore_10i, r_istore_10r, r_istore_10j, r_iload_10, r_icmp_ne, r_goto, r_gf_257, r_iastore, r_gf_258, r_gf_450, r_aaload, r_ial, r_ial30, r_ial32, r_iadd, r_ishl, r_iinc_9i, r_iinc_9r, r_iinc_9j, r_if_ne, r_iret, r_bret_0, r_bret_1, r_inv_3_0, r_inv_3_1, r_inv_3_2, r_inv_3_3, r_inv_3_4, r_iinc_7i, r_iinc_7r, r_iinc_7j, vn, ho, zandn_n, zor_n, hdf, hor, c_bitCount, ↓reduceIte, not_true_eq_false, not_false_eq_true, Int.reduceEq, Int.reduceLE, Int.reduceLT, Int.reduceAdd, Int.reduceNeg, Int.reduceMul, Int.reduceSub, Int.reduceToNat]
      rw [if_neg (by omega)]
      have tail : ∀ (V2 : zV) (x9 x10 : Value), (∀ q : Nat, q ≠ 136 → q ≠ 137 → V2 q = V1 q) → zEr ρ (zQb ρ c b F t) (zQF ρ b F t) V2 → zBr (zQb ρ c b F t) V2 → zwp (zcall d) 38 Q (zB 38 4) [.ref 134, .ref a, zi c, zi (zQw ρ (zQb ρ c b F t) : Nat), zi (zQr ρ (zQb ρ c b F t) (zQF ρ b F t) : Nat), zi (zQF ρ b F t : Nat), zi t, zi i, zi (zQo ρ b F t : Nat), x9, x10] [] (s, V2) := by
        intro V2 y9 y10 g2 hE3 hB3
        have hU3 := zQr_lt hW (b := zQb ρ c b F t) (F := zQF ρ b F t)
        have g3 : ∀ q : Nat, q ≠ 136 → q ≠ 137 → V2 q = V0 q := fun q q1 q2 => (g2 q q1 q2).trans (g1 q q1 q2)
        by_cases hz0 : zQr ρ (zQb ρ c b F t) (zQF ρ b F t) = 0
        · rw [if_pos hz0] at hz
          have h1 : (zQR ρ c).1 = t := by rw [← hz]
          have h2 : (zQR ρ c).2 = zQb ρ c b F t := by rw [← hz]
          rw [h1, h2] at hQ
          have := hQ V2 (fun q q1 q2 q3 => (g3 q q2 q3).trans (f0 q q1)) hB3
          have hz1 : ((zQr ρ (zQb ρ c b F t) (zQF ρ b F t) : Nat) : Int) = 0 := by rw [hz0]; rfl
          simp (disch := first | assumption | exact zk_38 | ((repeat (first | exact z1n | refine z1I ?_ | refine z1R ?_)); done) | exact rfl | omega | decide) only [zb_38_4, r_aload_0, r_aload_1, r_inv_2_0, r_inv_2_1, r_inv_2_2, r_inv_2_3, r_inv_2_4, r_K0, r_K1, r_istore_3i, r_istore_3r, r_istore_3j, r_iconst, r_istore_4i, r_istore_4r, r_istore_4j, r_istore_5i, r_istore_5r, r_istore_5j, r_istore_6i, r_istore_6r, r_istore_6j, r_istore_7i, r_istore_7r, r_istore_7j, r_goto_w, r_iload_7, r_gf_448, r_icmp_gt, r_iload_4, r_iload_6, r_inv_4_0, r_inv_4_1, r_inv_4_2, r_inv_4_3, r_inv_4_4, r_istore_8i, r_istore_8r, r_istore_8j, r_iload_8, r_ixor, r_iand, r_iload_5, r_ior, r_iload_2, r_inv_1_0, r_inv_1_1, r_inv_1_2, r_inv_1_3, r_inv_1_4, r_isub, r_istore_9i, r_istore_9r, r_istore_9j, r_iload_9, r_if_le, r_iload_3, r_istore_10i, r_istore_10r, r_istore_10j, r_iload_10, r_icmp_ne, r_goto, r_gf_257, r_iastore, r_gf_258, r_gf_450, r_aaload, r_ial, r_ial30, r_ial32, r_iadd, r_ishl, r_iinc_9i, r_iinc_9r, r_iinc_9j, r_if_ne, r_iret, r_bret_0, r_bret_1, r_inv_3_0, r_inv_3_1, r_inv_3_2, r_inv_3_3, r_inv_3_4, r_iinc_7i, r_iinc_7r, r_iinc_7j, hz1, ↓reduceIte, not_true_eq_false, not_false_eq_true, Int.reduceEq, Int.reduceLE, Int.reduceLT, Int.reduceAdd, Int.reduceNeg, Int.reduceMul, Int.reduceSub, Int.reduceToNat]
          exact this
        · rw [if_neg hz0] at hz
          have hz1 : ¬ ((zQr ρ (zQb ρ c b F t) (zQF ρ b F t) : Nat) : Int) = 0 := by omega
          obtain ⟨eg1, eg2⟩ := zQe_gt hW hI hz0
          have g4 : ∀ q : Nat, q ≠ 135 → q ≠ 136 → q ≠ 137 → V2 q = V q := fun q q1 q2 q3 => (g3 q q2 q3).trans (f0 q q1)
          have hR2 : zRvP s V2 := by unfold zRvP; rw [g4 134 (by omega) (by omega) (by omega)]; exact hR
          have hP2 : zStP s V2 a := hP.of (by rw [g4 a (by omega) (by omega) (by omega)]) (by rw [g4 a (by omega) (by omega) (by omega)]) (g4 _ (by omega) (by omega) (by omega)) (g4 _ (by omega) (by omega) (by omega))
          have hC2 : zStC ρ V2 a := hC.rows (fun z z0 z1 => g4 z (by omega) (by omega) (by omega))
          have hne : ∀ K, zcall d 40 [.ref 134, .ref a, zi (zQr ρ (zQb ρ c b F t) (zQF ρ b F t) : Nat)] (s, V2) K = K (.inl (some (zi (zQe ρ (zQb ρ c b F t) (zQF ρ b F t))))) (s, V2) := fun K => c_nextEnd (by omega) hR2 hP2 hC2 hW hI3 (by omega) hE3
          have := ih (i + 1) (by omega) (by omega) _ _ _ V2 (zi (zQo ρ b F t : Nat)) y9 y10 (hI3.mono (by omega)) (by omega) g3 hE3 hB3 hz
          simp (disch := first | assumption | exact zk_38 | ((repeat (first | exact z1n | refine z1I ?_ | refine z1R ?_)); done) | exact rfl | omega | decide) only [zb_38_4, zb_38_5, r_aload_0, r_aload_1, r_inv_2_0, r_inv_2_1, r_inv_2_2, r_inv_2_3, r_inv_2_4, r_K0, r_K1, r_istore_3i, r_istore_3r, r_istore_3j, r_iconst, r_istore_4i, r_istore_4r, r_istore_4j, r_istore_5i, r_istore_5r, r_istore_5j, r_istore_6i, r_istore_6r, r_istore_6j, r_istore_7i, r_istore_7r, r_istore_7j, r_goto_w, r_iload_7, r_gf_448, r_icmp_gt, r_iload_4, r_iload_6, r_inv_4_0, r_inv_4_1, r_inv_4_2, r_inv_4_3, r_inv_4_4, r_istore_8i, r_istore_8r, r_istore_8j, r_iload_8, r_ixor, r_iand, r_iload_5, r_ior, r_iload_2, r_inv_1_0, r_inv_1_1, r_inv_1_2, r_inv_1_3, r_inv_1_4, r_isub, r_istore_9i, r_istore_9r, r_istore_9j, r_iload_9, r_if_le, r_iload_3, r_istore_10i, r_istore_10r, r_istore_10j, r_iload_10, r_icmp_ne, r_goto, r_gf_257, r_iastore, r_gf_258, r_gf_450, r_aaload, r_ial, r_ial30, r_ial32, r_iadd, r_ishl, r_iinc_9i, r_iinc_9r, r_iinc_9j, r_if_ne, r_iret, r_bret_0, r_bret_1, r_inv_3_0, r_inv_3_1, r_inv_3_2, r_inv_3_3, r_inv_3_4, r_iinc_7i, r_iinc_7r, r_iinc_7j, hz1, hne, ↓reduceIte, not_true_eq_false, not_false_eq_true, Int.reduceEq, Int.reduceLE, Int.reduceLT, Int.reduceAdd, Int.reduceNeg, Int.reduceMul, Int.reduceSub, Int.reduceToNat]
          exact this
      by_cases hfree : 0 ≤ c - zpop (zQr ρ b (zQF ρ b F t))
      · have hk : c - zpop (zQr ρ b (zQF ρ b F t)) = (((c - zpop (zQr ρ b (zQF ρ b F t))).toNat : Nat) : Int) := by omega
        rw [hk]
        exact c_starts (by omega) hW ha (by omega) _ b V1 _ (by omega) hR1 hP1 hC1 hB1 hI2 hE2 hBr tail
      · have hk : (c - zpop (zQr ρ b (zQF ρ b F t))).toNat = 0 := by omega
        have hb0 : zQb ρ c b F t = b := by unfold zQb; rw [hk]; rfl
        rw [hb0] at tail
        have := tail V1 (zi (c - zpop (zQr ρ b (zQF ρ b F t)))) x10 (fun _ _ _ => rfl) hE2 hBr
        conv => rw [zb_38_2]
        simp (disch := first | assumption | exact zk_38 | ((repeat (first | exact z1n | refine z1I ?_ | refine z1R ?_)); done) | exact rfl | omega | decide) only [r_aload_0, r_aload_1, r_inv_2_0, r_inv_2_1, r_inv_2_2, r_inv_2_3, r_inv_2_4, r_K0, r_K1, r_istore_3i, r_istore_3r, r_istore_3j, r_iconst, r_istore_4i, r_istore_4r, r_istore_4j, r_istore_5i, r_istore_5r, r_istore_5j, r_istore_6i, r_istore_6r, r_istore_6j, r_istore_7i, r_istore_7r, r_istore_7j, r_goto_w, r_iload_7, r_gf_448, r_icmp_gt, r_iload_4, r_iload_6, r_inv_4_0, r_inv_4_1, r_inv_4_2, r_inv_4_3, r_inv_4_4, r_istore_8i, r_istore_8r, r_istore_8j, r_iload_8, r_ixor, r_iand, r_iload_5, r_ior, r_iload_2, r_inv_1_0, r_inv_1_1, r_inv_1_2, r_inv_1_3, r_inv_1_4, r_isub, r_istore_9i, r_istore_9r, r_istore_9j, r_iload_9, r_if_le, r_iload_3, r_istore_10i, r_istore_10r, r_istore_10j, r_iload_10, r_icmp_ne, r_goto, r_gf_257, r_iastore, r_gf_258, r_gf_450, r_aaload, r_ial, r_ial30, r_ial32, r_iadd, r_ishl, r_iinc_9i, r_iinc_9r, r_iinc_9j, r_if_ne, r_iret, r_bret_0, r_bret_1, r_inv_3_0, r_inv_3_1, r_inv_3_2, r_inv_3_3, r_inv_3_4, r_iinc_7i, r_iinc_7r, r_iinc_7j, ↓reduceIte, not_true_eq_false, not_false_eq_true, Int.reduceEq, Int.reduceLE, Int.reduceLT, Int.reduceAdd, Int.reduceNeg, Int.reduceMul, Int.reduceSub, Int.reduceToNat]
        rw [if_pos (by omega)]
        exact this
  have := main (ρ.n + 1).toNat 0 (by omega) (by omega) (fun _ => -1) 0 0 V0 zJ zJ zJ zQI_0 (by omega) (fun _ _ _ => rfl) (fun x x0 x1 hx => by rw [zQr_0 hW, zin_zero] at hx; cases hx) (fun x hx => absurd rfl hx) rfl
  rw [zQw_0 hW, zQr_0 hW] at this
  exact this
end
