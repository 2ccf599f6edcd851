/-! CREWS, 2: more of the pure side; the class's small methods -/
theorem zQe_is {ρ : zR} (hW : zWF ρ) {b : Int → Int} {F : Nat} {t : Int} (hI : zQI ρ b F t) (hne : zQr ρ b F ≠ 0) : (∃ x, 0 ≤ x ∧ x < ρ.n ∧ zin (zQr ρ b F) x = true ∧ zQe ρ b F = b x + ρ.S 3 x) ∧ ∀ x, 0 ≤ x → x < ρ.n → zin (zQr ρ b F) x = true → zQe ρ b F ≤ b x + ρ.S 3 x := by
  have hn := hW.1
  rcases zQek_is (ρ := ρ) (b := b) (F := F) hn.1 (fun x x0 x1 hx => by
    have h1 := hI.2.2.1 x ((zQr_bit hn.1 x0).mp hx).2.1
    have h2 := (hW.2.1 x x0 x1).2.2.2.1
    omega) with ⟨i1, i2⟩ | h
  · exact absurd (zset_ext (zQr_lt hW) (by omega) (fun x x0 x1 => by
      rw [zin_zero]
      cases c : zin (zQr ρ b F) x
      · rfl
      · have := i2 x x0 ((zQr_bit hn.1 x0).mp c).1
        rw [c] at this; exact this)) hne
  · exact h
theorem zQe_gt {ρ : zR} (hW : zWF ρ) {b : Int → Int} {F : Nat} {t c : Int} (hI : zQI ρ b F t) (hne : zQr ρ (zQb ρ c b F t) (zQF ρ b F t) ≠ 0) : t < zQe ρ (zQb ρ c b F t) (zQF ρ b F t) ∧ zQe ρ (zQb ρ c b F t) (zQF ρ b F t) ≤ t + 20 := by
  have hn := hW.1
  have hI' := hI.b hW (c := c)
  obtain ⟨⟨x, x0, x1, hx, he⟩, -⟩ := zQe_is hW hI' hne
  obtain ⟨-, h1, h2⟩ := (zQr_bit hn.1 x0).mp hx
  have w := (hW.2.1 x x0 x1).2.2.2.1
  have hb' := hI'.2.2.1 x h1
  refine ⟨?_, by omega⟩
  rw [he]
  by_cases hb : b x = -1
  · rcases zQs_new (G := zQF ρ b F t) hW (c - zpop (zQr ρ b (zQF ρ b F t))).toNat b x hI hb with q | q
    · exact absurd q h1
    · have q : zQb ρ c b F t x = t := q
      omega
  · have q : zQb ρ c b F t x = b x := zQs_val hW _ b x hb hI
    rw [q]
    have hF : zin F x = false := by
      cases z : zin F x
      · rfl
      · rw [(zQF_in hn.1 x0).mpr (Or.inl z)] at h2; cases h2
    rcases Int.lt_or_le t (b x + ρ.S 3 x) with z | z
    · exact z
    · rw [(zQF_in hn.1 x0).mpr (Or.inr ⟨x1, hb, hF, z⟩)] at h2; cases h2
theorem zQo_none {ρ : zR} (hW : zWF ρ) {b : Int → Int} {F : Nat} {t t' : Int} (hI : zQI ρ b F t) (hne : zQr ρ b F ≠ 0) (h : t' < zQe ρ b F) : zQo ρ b F t' = 0 := by
  have hn := hW.1
  refine zset_ext (zQo_lt hW) (by omega) (fun x x0 x1 => ?_)
  rw [zin_zero]
  cases c : zin (zQo ρ b F t') x
  · rfl
  · obtain ⟨a1, a2, a3, a4⟩ := (zQo_bit hn.1 x0).mp c
    have := (zQe_is hW hI hne).2 x x0 a1 ((zQr_bit hn.1 x0).mpr ⟨a1, a2, a3⟩)
    omega
theorem zQ_stay {ρ : zR} (hW : zWF ρ) {b : Int → Int} {F : Nat} {t c t' : Int} (hI : zQI ρ b F t) (hne : zQr ρ (zQb ρ c b F t) (zQF ρ b F t) ≠ 0) (h : t' < zQe ρ (zQb ρ c b F t) (zQF ρ b F t)) : zQF ρ (zQb ρ c b F t) (zQF ρ b F t) t' = zQF ρ b F t ∧ zQb ρ c (zQb ρ c b F t) (zQF ρ b F t) t' = zQb ρ c b F t := by
  have hI' := hI.b hW (c := c)
  have e1 : zQF ρ (zQb ρ c b F t) (zQF ρ b F t) t' = zQF ρ b F t := by
    show zQF ρ b F t ||| zQo ρ (zQb ρ c b F t) (zQF ρ b F t) t' = _
    rw [zQo_none hW hI' hne h, Nat.or_zero]
  refine ⟨e1, ?_⟩
  show zQs ρ (zQF ρ (zQb ρ c b F t) (zQF ρ b F t) t') t' (c - zpop (zQr ρ (zQb ρ c b F t) (zQF ρ (zQb ρ c b F t) (zQF ρ b F t) t'))).toNat (zQb ρ c b F t) = _
  rw [e1]
  rcases zQs_end hW (c - zpop (zQr ρ b (zQF ρ b F t))).toNat b (hI.F hW) with q | q
  · exact zQs_none q _
  · have q : zpop (zQr ρ (zQb ρ c b F t) (zQF ρ b F t)) = zpop (zQr ρ b (zQF ρ b F t)) + (c - zpop (zQr ρ b (zQF ρ b F t))).toNat := q
    rw [show (c - zpop (zQr ρ (zQb ρ c b F t) (zQF ρ b F t))).toNat = 0 by omega]
    rfl
theorem zQ_done {ρ : zR} (hW : zWF ρ) {b : Int → Int} {F : Nat} {t c : Int} (c1 : 1 ≤ c) (hI : zQI ρ b F t) : zQr ρ (zQb ρ c b F t) (zQF ρ b F t) = 0 ↔ zQF ρ b F t = zDown ρ := by
  have hn := hW.1
  have hI' := hI.b hW (c := c)
  have hsub : zSub (zQF ρ b F t) (zDown ρ) := fun x x0 x1 hx => (hI'.2.2.1 x (hI'.2.1 x x0 hx)).2.1
  constructor
  · intro h0
    apply Classical.byContradiction
    intro hne
    obtain ⟨x, x0, x1, hx⟩ := zYc_ex hW hI'.1 hsub hne
    obtain ⟨y1, y2, y3⟩ := zYc_in hx
    have hb : zQb ρ c b F t x = -1 := by
      apply Classical.byContradiction
      intro hb
      have : zin (zQr ρ (zQb ρ c b F t) (zQF ρ b F t)) x = true := (zQr_bit hn.1 x0).mpr ⟨x1, hb, y2⟩
      rw [h0, zin_zero] at this
      cases this
    have hc : zQc ρ (zQb ρ c b F t) (zQF ρ b F t) x = true := by unfold zQc; rw [y1, decide_eq_true hb, decide_eq_true y3]; rfl
    rcases zQs_end hW (c - zpop (zQr ρ b (zQF ρ b F t))).toNat b (hI.F hW) with q | q
    · have q : zQnk ρ (zQb ρ c b F t) (zQF ρ b F t) ρ.n = -1 := q
      rcases zQnk_is (ρ := ρ) (b := zQb ρ c b F t) (F := zQF ρ b F t) hn.1 with ⟨i1, i2⟩ | ⟨⟨i1, i2⟩, i3⟩
      · rw [i2 x x0 x1] at hc; cases hc
      · omega
    · have q : zpop (zQr ρ (zQb ρ c b F t) (zQF ρ b F t)) = zpop (zQr ρ b (zQF ρ b F t)) + (c - zpop (zQr ρ b (zQF ρ b F t))).toNat := q
      rw [h0, show zpop 0 = 0 by decide] at q
      have := zpop_rng (v := zQr ρ b (zQF ρ b F t))
      omega
  · intro hD
    refine zset_ext (zQr_lt hW) (by omega) (fun x x0 x1 => ?_)
    rw [zin_zero]
    cases h : zin (zQr ρ (zQb ρ c b F t) (zQF ρ b F t)) x
    · rfl
    · obtain ⟨a1, a2, a3⟩ := (zQr_bit hn.1 x0).mp h
      have := (hI'.2.2.1 x a2).2.1
      rw [hD, this] at a3
      cases a3
/-- those that wait -/
def zQw (ρ : zR) (b : Int → Int) : Nat := zms (fun x => zin (zDown ρ) x && decide (b x = -1)) ρ.n
theorem zQw_bit {ρ : zR} (n0 : 0 ≤ ρ.n) {b : Int → Int} {x : Int} (x0 : 0 ≤ x) : zin (zQw ρ b) x = true ↔ x < ρ.n ∧ zin (zDown ρ) x = true ∧ b x = -1 := by
  unfold zQw
  rw [zms_bit n0 x0, Bool.and_eq_true, decide_eq_true_eq]
theorem zQw_lt {ρ : zR} (hW : zWF ρ) {b : Int → Int} : zQw ρ b < 4096 := zms_lt hW.1.1 hW.1.2.1
theorem zms_s {p : Int → Bool} {k : Int} (h : 0 ≤ k) : zms p (k + 1) = if p k = true then zms p k ||| zone k else zms p k := zfo_s h
theorem zms_0 {p : Int → Bool} : zms p 0 = 0 := rfl
section
variable {d : Nat} {s : zS} {V : zV} {Q : zO → zH → Prop} {a r : Nat} {ρ : zR} {h : zH} {b : Int → Int} {F : Nat} {t : Int}
/-- the row of ends -/
def zEr (ρ : zR) (b : Int → Int) (F : Nat) (V : zV) : Prop := ∀ x, 0 ≤ x → x < ρ.n → zin (zQr ρ b F) x = true → V 137 x = zi (b x + ρ.S 3 x)
set_option maxRecDepth 20000 in
theorem c_overAt (hd : 2 ≤ d) (hR : zRvP s V) (hP : zStP s V a) (hC : zStC ρ V a) (hW : zWF ρ) (hI : zQI ρ b F t) (t1 : t ≤ 100000) (hE : zEr ρ b F V) : zcall d 39 [.ref 134, .ref a, zi (zQr ρ b F : Nat), zi t] (s, V) Q = Q (.inl (some (zi (zQo ρ b F t : Nat)))) (s, V) := by
  obtain ⟨n0, n1, cc0, cc1⟩ := hW.1
  obtain ⟨t2, ⟨-, -, v2⟩, -, -, t3, l3⟩ := id hR
  have tO := hP.1
  have vn := hC.1
  have hU := zQr_lt hW (b := b) (F := F)
  obtain ⟨d, rfl⟩ : ∃ e, d = e + 1 := ⟨d - 1, by omega⟩
  simp (disch := first | assumption | omega) only [zc_39]
  simp (disch := first | assumption | exact zk_39 | ((repeat (first | exact z1n | refine z1I ?_ | refine z1R ?_)); done) | exact rfl | omega | decide) only [zb_39_0, r_iconst, r_istore_4i, r_istore_4r, r_istore_4j, r_istore_5i, r_istore_5r, r_istore_5j, r_goto_w, r_iload_5, r_aload_1, r_gf_448, r_icmp_ge, r_iload_2, r_inv_2_0, r_inv_2_1, r_inv_2_2, r_inv_2_3, r_inv_2_4, r_K0, r_K1, r_if_eq, r_aload_0, r_gf_258, r_ial, r_ial30, r_ial32, r_iload_3, r_icmp_gt, r_iload_4, r_ishl, r_ior, r_iinc_5i, r_iinc_5r, r_iinc_5j, r_goto, r_iret, r_bret_0, r_bret_1, ↓reduceIte, not_true_eq_false, not_false_eq_true, Int.reduceEq, Int.reduceLE, Int.reduceLT, Int.reduceAdd, Int.reduceNeg, Int.reduceMul, Int.reduceSub, Int.reduceToNat]
  have hch := z_chainI (F := fun k => zwp (zcall d) 39 Q (zB 39 1) [.ref 134, .ref a, zi (zQr ρ b F : Nat), zi t, zi (zms (fun x => zin (zQr ρ b F) x && decide (b x + ρ.S 3 x ≤ t)) k : Nat), zi k] [] (s, V)) n0 (fun k k0 k1 => by
    have hm : zms (fun x => zin (zQr ρ b F) x && decide (b x + ρ.S 3 x ≤ t)) k < 4096 := zms_lt k0 (by omega)
    have hzo : zone k < 4096 := zone_lt (by omega)
    have w := (hW.2.1 k k0 k1).2.2.2.1
    conv => lhs; rw [zb_39_1]
    rw [zms_s k0]
    by_cases c : zin (zQr ρ b F) k = true
    · have hv := hE k k0 k1 c
      have hb := hI.2.2.1 k ((zQr_bit n0 k0).mp c).2.1
      by_cases e : b k + ρ.S 3 k ≤ t
      · rw [if_pos (by rw [c, decide_eq_true e]; rfl)]
        simp (disch := first | assumption | exact zk_39 | ((repeat (first | exact z1n | refine z1I ?_ | refine z1R ?_)); done) | exact rfl | omega | decide) only [zb_39_2, r_iconst, r_istore_4i, r_istore_4r, r_istore_4j, r_istore_5i, r_istore_5r, r_istore_5j, r_goto_w, r_iload_5, r_aload_1, r_gf_448, r_icmp_ge, r_iload_2, r_inv_2_0, r_inv_2_1, r_inv_2_2, r_inv_2_3, r_inv_2_4, r_K0, r_K1, r_if_eq, r_aload_0, r_gf_258, r_ial, r_ial30, r_ial32, r_iload_3, r_icmp_gt, r_iload_4, r_ishl, r_ior, r_iinc_5i, r_iinc_5r, r_iinc_5j, r_goto, r_iret, r_bret_0, r_bret_1, vn, c_contains, c, v2, hv, zshl_z, zor_n, ↓reduceIte, not_true_eq_false, not_false_eq_true, Int.reduceEq, Int.reduceLE, Int.reduceLT, Int.reduceAdd, Int.reduceNeg, Int.reduceMul, Int.reduceSub, Int.reduceToNat]
        rw [if_neg (by omega), if_neg (by omega)]
      · rw [if_neg (by rw [decide_eq_false e, Bool.and_false]; exact Bool.false_ne_true)]
        simp (disch := first | assumption | exact zk_39 | ((repeat (first | exact z1n | refine z1I ?_ | refine z1R ?_)); done) | exact rfl | omega | decide) only [zb_39_2, r_iconst, r_istore_4i, r_istore_4r, r_istore_4j, r_istore_5i, r_istore_5r, r_istore_5j, r_goto_w, r_iload_5, r_aload_1, r_gf_448, r_icmp_ge, r_iload_2, r_inv_2_0, r_inv_2_1, r_inv_2_2, r_inv_2_3, r_inv_2_4, r_K0, r_K1, r_if_eq, r_aload_0, r_gf_258, r_ial, r_ial30, r_ial32, r_iload_3, r_icmp_gt, r_iload_4, r_ishl, r_ior, r_iinc_5i, r_iinc_5r, r_iinc_5j, r_goto, r_iret, r_bret_0, r_bret_1, vn, c_contains, c, v2, hv, ↓reduceIte, not_true_eq_false, not_false_eq_true, Int.reduceEq, Int.reduceLE, Int.reduceLT, Int.reduceAdd, Int.reduceNeg, Int.reduceMul, Int.reduceSub, Int.reduceToNat]
        rw [if_neg (by omega), if_pos (by omega)]
    · rw [if_neg (by rw [show zin (zQr ρ b F) k = false by simpa using c, Bool.false_and]; exact Bool.false_ne_true)]
      simp (disch := first | assumption | exact zk_39 | ((repeat (first | exact z1n | refine z1I ?_ | refine z1R ?_)); done) | exact rfl | omega | decide) only [zb_39_2, r_iconst, r_istore_4i, r_istore_4r, r_istore_4j, r_istore_5i, r_istore_5r, r_istore_5j, r_goto_w, r_iload_5, r_aload_1, r_gf_448, r_icmp_ge, r_iload_2, r_inv_2_0, r_inv_2_1, r_inv_2_2, r_inv_2_3, r_inv_2_4, r_K0, r_K1, r_if_eq, r_aload_0, r_gf_258, r_ial, r_ial30, r_ial32, r_iload_3, r_icmp_gt, r_iload_4, r_ishl, r_ior, r_iinc_5i, r_iinc_5r, r_iinc_5j, r_goto, r_iret, r_bret_0, r_bret_1, vn, c_contains, c, Bool.false_eq_true, ↓reduceIte, not_true_eq_false, not_false_eq_true, Int.reduceEq, Int.reduceLE, Int.reduceLT, Int.reduceAdd, Int.reduceNeg, Int.reduceMul, Int.reduceSub, Int.reduceToNat]
      rw [if_neg (by omega)])
  rw [zms_0] at hch
  rw [show zi ((0 : Nat) : Int) = zi 0 from rfl] at hch
  rw [hch]
  simp (disch := first | assumption | exact zk_39 | ((repeat (first | exact z1n | refine z1I ?_ | refine z1R ?_)); done) | exact rfl | omega | decide) only [zb_39_1, zb_39_3, r_iconst, r_istore_4i, r_istore_4r, r_istore_4j, r_istore_5i, r_istore_5r, r_istore_5j, r_goto_w, r_iload_5, r_aload_1, r_gf_448, r_icmp_ge, r_iload_2, r_inv_2_0, r_inv_2_1, r_inv_2_2, r_inv_2_3, r_inv_2_4, r_K0, r_K1, r_if_eq, r_aload_0, r_gf_258, r_ial, r_ial30, r_ial32, r_iload_3, r_icmp_gt, r_iload_4, r_ishl, r_ior, r_iinc_5i, r_iinc_5r, r_iinc_5j, r_goto, r_iret, r_bret_0, r_bret_1, vn, Int.le_refl, ↓reduceIte, not_true_eq_false, not_false_eq_true, Int.reduceEq, Int.reduceLE, Int.reduceLT, Int.reduceAdd, Int.reduceNeg, Int.reduceMul, Int.reduceSub, Int.reduceToNat]
  rfl
set_option maxRecDepth 20000 in
theorem c_nextEnd (hd : 2 ≤ d) (hR : zRvP s V) (hP : zStP s V a) (hC : zStC ρ V a) (hW : zWF ρ) (hI : zQI ρ b F t) (t1 : t ≤ 100000) (hE : zEr ρ b F V) : zcall d 40 [.ref 134, .ref a, zi (zQr ρ b F : Nat)] (s, V) Q = Q (.inl (some (zi (zQe ρ b F)))) (s, V) := by
  obtain ⟨n0, n1, cc0, cc1⟩ := hW.1
  obtain ⟨t2, ⟨-, -, v2⟩, -, -, t3, l3⟩ := id hR
  have tO := hP.1
  have vn := hC.1
  have hU := zQr_lt hW (b := b) (F := F)
  have hp : ∀ x, 0 ≤ x → x < ρ.n → zin (zQr ρ b F) x = true → 0 ≤ b x + ρ.S 3 x ∧ b x + ρ.S 3 x ≤ 100020 := fun x x0 x1 hx => by
    have h1 := hI.2.2.1 x ((zQr_bit n0 x0).mp hx).2.1
    have h2 := (hW.2.1 x x0 x1).2.2.2.1
    omega
  obtain ⟨d, rfl⟩ : ∃ e, d = e + 1 := ⟨d - 1, by omega⟩
  simp (disch := first | assumption | omega) only [zc_40]
  simp (disch := first | assumption | exact zk_40 | ((repeat (first | exact z1n | refine z1I ?_ | refine z1R ?_)); done) | exact rfl | omega | decide) only [zb_40_0, r_iconst, r_istore_3i, r_istore_3r, r_istore_3j, r_istore_4i, r_istore_4r, r_istore_4j, r_goto_w, r_iload_4, r_aload_1, r_gf_448, r_icmp_ge, r_iload_2, r_inv_2_0, r_inv_2_1, r_inv_2_2, r_inv_2_3, r_inv_2_4, r_K0, r_K1, r_if_eq, r_iload_3, r_icmp_eq, r_aload_0, r_gf_258, r_ial, r_ial30, r_ial32, r_iinc_4i, r_iinc_4r, r_iinc_4j, r_goto, r_iret, r_bret_0, r_bret_1, ↓reduceIte, not_true_eq_false, not_false_eq_true, Int.reduceEq, Int.reduceLE, Int.reduceLT, Int.reduceAdd, Int.reduceNeg, Int.reduceMul, Int.reduceSub, Int.reduceToNat]
  have hch := z_chainI (F := fun k => zwp (zcall d) 40 Q (zB 40 1) [.ref 134, .ref a, zi (zQr ρ b F : Nat), zi (zQek ρ b F k), zi k] [] (s, V)) n0 (fun k k0 k1 => by
    have hr : -1 ≤ zQek ρ b F k ∧ zQek ρ b F k ≤ 100020 := by
      rcases zQek_is (ρ := ρ) (b := b) (F := F) k0 (fun x x0 x1 hx => (hp x x0 (by omega) hx).1) with ⟨i1, -⟩ | ⟨⟨y, y0, y1, y2, y3⟩, -⟩
      · omega
      · have := hp y y0 (by omega) y2; omega
    conv => lhs; rw [zb_40_1]
    rw [zQek_s k0]
    by_cases c : zin (zQr ρ b F) k = true
    · have hv := hE k k0 k1 c
      have hb := hp k k0 k1 c
      generalize zQek ρ b F k = e at *
      by_cases e1 : e = -1
      · rw [if_pos ⟨c, Or.inl e1⟩]
        simp (disch := first | assumption | exact zk_40 | ((repeat (first | exact z1n | refine z1I ?_ | refine z1R ?_)); done) | exact rfl | omega | decide) only [zb_40_2, zb_40_3, r_iconst, r_istore_3i, r_istore_3r, r_istore_3j, r_istore_4i, r_istore_4r, r_istore_4j, r_goto_w, r_iload_4, r_aload_1, r_gf_448, r_icmp_ge, r_iload_2, r_inv_2_0, r_inv_2_1, r_inv_2_2, r_inv_2_3, r_inv_2_4, r_K0, r_K1, r_if_eq, r_iload_3, r_icmp_eq, r_aload_0, r_gf_258, r_ial, r_ial30, r_ial32, r_iinc_4i, r_iinc_4r, r_iinc_4j, r_goto, r_iret, r_bret_0, r_bret_1, vn, c_contains, c, v2, hv, ↓reduceIte, not_true_eq_false, not_false_eq_true, Int.reduceEq, Int.reduceLE, Int.reduceLT, Int.reduceAdd, Int.reduceNeg, Int.reduceMul, Int.reduceSub, Int.reduceToNat]
        rw [if_neg (by omega), if_pos e1]
      · by_cases e2 : b k + ρ.S 3 k < e
        · rw [if_pos ⟨c, Or.inr e2⟩]
          simp (disch := first | assumption | exact zk_40 | ((repeat (first | exact z1n | refine z1I ?_ | refine z1R ?_)); done) | exact rfl | omega | decide) only [zb_40_2, zb_40_3, r_iconst, r_istore_3i, r_istore_3r, r_istore_3j, r_istore_4i, r_istore_4r, r_istore_4j, r_goto_w, r_iload_4, r_aload_1, r_gf_448, r_icmp_ge, r_iload_2, r_inv_2_0, r_inv_2_1, r_inv_2_2, r_inv_2_3, r_inv_2_4, r_K0, r_K1, r_if_eq, r_iload_3, r_icmp_eq, r_aload_0, r_gf_258, r_ial, r_ial30, r_ial32, r_iinc_4i, r_iinc_4r, r_iinc_4j, r_goto, r_iret, r_bret_0, r_bret_1, vn, c_contains, c, v2, hv, ↓reduceIte, not_true_eq_false, not_false_eq_true, Int.reduceEq, Int.reduceLE, Int.reduceLT, Int.reduceAdd, Int.reduceNeg, Int.reduceMul, Int.reduceSub, Int.reduceToNat]
          rw [if_neg (by omega), if_neg e1, if_neg (by omega)]
        · rw [if_neg (by rintro ⟨-, z | z⟩ <;> omega)]
          simp (disch := first | assumption | exact zk_40 | ((repeat (first | exact z1n | refine z1I ?_ | refine z1R ?_)); done) | exact rfl | omega | decide) only [zb_40_2, zb_40_3, r_iconst, r_istore_3i, r_istore_3r, r_istore_3j, r_istore_4i, r_istore_4r, r_istore_4j, r_goto_w, r_iload_4, r_aload_1, r_gf_448, r_icmp_ge, r_iload_2, r_inv_2_0, r_inv_2_1, r_inv_2_2, r_inv_2_3, r_inv_2_4, r_K0, r_K1, r_if_eq, r_iload_3, r_icmp_eq, r_aload_0, r_gf_258, r_ial, r_ial30, r_ial32, r_iinc_4i, r_iinc_4r, r_iinc_4j, r_goto, r_iret, r_bret_0, r_bret_1, vn, c_contains, c, v2, hv, ↓reduceIte, not_true_eq_false, not_false_eq_true, Int.reduceEq, Int.reduceLE, Int.reduceLT, Int.reduceAdd, Int.reduceNeg, Int.reduceMul, Int.reduceSub, Int.reduceToNat]
          rw [if_neg (by omega), if_neg e1, if_pos (by omega)]
    · rw [if_neg (fun z => c z.1)]
      simp (disch := first | assumption | exact zk_40 | ((repeat (first | exact z1n | refine z1I ?_ | refine z1R ?_)); done) | exact rfl | omega | decide) only [zb_40_3, r_iconst, r_istore_3i, r_istore_3r, r_istore_3j, r_istore_4i, r_istore_4r, r_istore_4j, r_goto_w, r_iload_4, r_aload_1, r_gf_448, r_icmp_ge, r_iload_2, r_inv_2_0, r_inv_2_1, r_inv_2_2, r_inv_2_3, r_inv_2_4, r_K0, r_K1, r_if_eq, r_iload_3, r_icmp_eq, r_aload_0, r_gf_258, r_ial, r_ial30, r_ial32, r_iinc_4i, r_iinc_4r, r_iinc_4j, r_goto, r_iret, r_bret_0, r_bret_1, vn, c_contains, c, Bool.false_eq_true, ↓reduceIte, not_true_eq_false, not_false_eq_true, Int.reduceEq, Int.reduceLE, Int.reduceLT, Int.reduceAdd, Int.reduceNeg, Int.reduceMul, Int.reduceSub, Int.reduceToNat]
      rw [if_neg (by omega)])
  rw [show zQek ρ b F 0 = -1 from rfl] at hch
  rw [hch]
  simp (disch := first | assumption | exact zk_40 | ((repeat (first | exact z1n | refine z1I ?_ | refine z1R ?_)); done) | exact rfl | omega | decide) only [zb_40_1, zb_40_4, r_iconst, r_istore_3i, r_istore_3r, r_istore_3j, r_istore_4i, r_istore_4r, r_istore_4j, r_goto_w, r_iload_4, r_aload_1, r_gf_448, r_icmp_ge, r_iload_2, r_inv_2_0, r_inv_2_1, r_inv_2_2, r_inv_2_3, r_inv_2_4, r_K0, r_K1, r_if_eq, r_iload_3, r_icmp_eq, r_aload_0, r_gf_258, r_ial, r_ial30, r_ial32, r_iinc_4i, r_iinc_4r, r_iinc_4j, r_goto, r_iret, r_bret_0, r_bret_1, vn, Int.le_refl, ↓reduceIte, not_true_eq_false, not_false_eq_true, Int.reduceEq, Int.reduceLE, Int.reduceLT, Int.reduceAdd, Int.reduceNeg, Int.reduceMul, Int.reduceSub, Int.reduceToNat]
  rfl
set_option maxRecDepth 20000 in
theorem c_mostImportant (hd : 2 ≤ d) (hR : zRvP s V) (hP : zStP s V a) (hC : zStC ρ V a) (hW : zWF ρ) (hB : zBf ρ V) (hF : F < 4096) : zcall d 41 [.ref 134, .ref a, zi (zQw ρ b : Nat), zi (F : Nat)] (s, V) Q = Q (.inl (some (zi (zQn ρ b F)))) (s, V) := by
  obtain ⟨n0, n1, cc0, cc1⟩ := hW.1
  obtain ⟨t2, ⟨v0, -, -⟩, ⟨t3, l3⟩, -⟩ := id hR
  have hU := zQw_lt hW (b := b)
  have tO := hP.1
  have vA := hP.2.1
  have tA := hP.2.2.1
  have lA := hP.2.2.2.1
  have vn := hC.1
  have vc := hC.2.1
  have vs4 : V (a + 1) 4 = .ref (a + 6) := (hP.2.2.2.2.2.2.2.1 4 (by omega)).1
  have ts4 : s.tg (a + 6) = 20 := (hP.2.2.2.2.2.2.2.1 4 (by omega)).2.1
  have ls4 : s.ln (a + 6) = 12 := (hP.2.2.2.2.2.2.2.1 4 (by omega)).2.2
  have es4 : ∀ x : Int, 0 ≤ x → x < ρ.n → V (a + 6) x = zi (ρ.S 4 x) := hC.2.2.1 4 (by omega)
  obtain ⟨d, rfl⟩ : ∃ e, d = e + 1 := ⟨d - 1, by omega⟩
  simp (disch := first | assumption | omega) only [zc_41]
  simp (disch := first | assumption | exact zk_41 | ((repeat (first | exact z1n | refine z1I ?_ | refine z1R ?_)); done) | exact rfl | omega | decide) only [zb_41_0, r_iconst, r_istore_4i, r_istore_4r, r_istore_4j, r_istore_5i, r_istore_5r, r_istore_5j, r_istore_6i, r_istore_6r, r_istore_6j, r_goto_w, r_iload_6, r_aload_1, r_gf_448, r_icmp_ge, r_iload_2, r_inv_2_0, r_inv_2_1, r_inv_2_2, r_inv_2_3, r_inv_2_4, r_K0, r_K1, r_if_eq, r_aload_0, r_gf_256, r_ial, r_ial30, r_ial32, r_iload_3, r_ixor, r_iand, r_if_ne, r_gf_450, r_aaload, r_iload_5, r_icmp_le, r_iinc_6i, r_iinc_6r, r_iinc_6j, r_goto, r_iload_4, r_iret, r_bret_0, r_bret_1, vA, vn, vc, vs4, es4, ↓reduceIte, not_true_eq_false, not_false_eq_true, Int.reduceEq, Int.reduceLE, Int.reduceLT, Int.reduceAdd, Int.reduceNeg, Int.reduceMul, Int.reduceSub, Int.reduceToNat]
  have hch := z_chainI (F := fun k => zwp (zcall d) 41 Q (zB 41 1) [.ref 134, .ref a, zi (zQw ρ b : Nat), zi (F : Nat), zi (zQnk ρ b F k), zi (if zQnk ρ b F k = -1 then 0 else ρ.S 4 (zQnk ρ b F k)), zi k] [] (s, V)) n0 (fun k k0 k1 => by
    have hv := es4 k k0 k1
    have w := (hW.2.1 k k0 k1).2.2.2.2.1
    have hnl : zNeeds ρ k &&& zDown ρ < 4096 := zand_lt (zNeeds_lt hW k)
    have hzl : zdf (zNeeds ρ k &&& zDown ρ) F < 4096 := zdf_lt hnl
    have hcur : (zQnk ρ b F k = -1 ∧ (if zQnk ρ b F k = -1 then (0 : Int) else ρ.S 4 (zQnk ρ b F k)) = 0) ∨ (zQnk ρ b F k ≠ -1 ∧ (if zQnk ρ b F k = -1 then (0 : Int) else ρ.S 4 (zQnk ρ b F k)) = ρ.S 4 (zQnk ρ b F k) ∧ 1 ≤ ρ.S 4 (zQnk ρ b F k) ∧ ρ.S 4 (zQnk ρ b F k) ≤ 9) := by
      rcases zQnk_is (ρ := ρ) (b := b) (F := F) k0 with ⟨i1, -⟩ | ⟨⟨i1, i2⟩, -⟩
      · exact Or.inl ⟨i1, if_pos i1⟩
      · have := (hW.2.1 _ i1 (by omega)).2.2.2.2.1
        exact Or.inr ⟨by omega, if_neg (by omega), by omega, by omega⟩
    conv => lhs; rw [zb_41_1]
    rw [zQnk_s k0]
    generalize hy : zQnk ρ b F k = y at *
    generalize hiy : (if y = -1 then (0 : Int) else ρ.S 4 y) = iy at *
    have hiyr : 0 ≤ iy ∧ iy ≤ 9 := by omega
    by_cases c : zin (zQw ρ b) k = true
    · obtain ⟨-, q1, q2⟩ := (zQw_bit n0 k0).mp c
      have hb := hB k k0 k1 q1
      by_cases e : zdf (zNeeds ρ k &&& zDown ρ) F = 0
      · have e' : ((zdf (zNeeds ρ k &&& zDown ρ) F : Nat) : Int) = 0 := by rw [e]; rfl
        have hc : zQc ρ b F k = true := by unfold zQc; rw [q1, decide_eq_true q2, decide_eq_true e]; rfl
        by_cases g : iy < ρ.S 4 k
        · have hg : y = -1 ∨ ρ.S 4 y < ρ.S 4 k := by omega
          rw [if_pos ⟨hc, hg⟩, if_neg (by omega)]
          simp (disch := first | assumption | exact zk_41 | ((repeat (first | exact z1n | refine z1I ?_ | refine z1R ?_)); done) | exact rfl | omega | decide) only [zb_41_2, r_iconst, r_istore_4i, r_istore_4r, r_istore_4j, r_istore_5i, r_istore_5r, r_istore_5j, r_istore_6i, r_istore_6r, r_istore_6j, r_goto_w, r_iload_6, r_aload_1, r_gf_448, r_icmp_ge, r_iload_2, r_inv_2_0, r_inv_2_1, r_inv_2_2, r_inv_2_3, r_inv_2_4, r_K0, r_K1, r_if_eq, r_aload_0, r_gf_256, r_ial, r_ial30, r_ial32, r_iload_3, r_ixor, r_iand, r_if_ne, r_gf_450, r_aaload, r_iload_5, r_icmp_le, r_iinc_6i, r_iinc_6r, r_iinc_6j, r_goto, r_iload_4, r_iret, r_bret_0, r_bret_1, vA, vn, vc, vs4, es4, vn, c_contains, c, v0, hb, zandn_n, e', hv, ↓reduceIte, not_true_eq_false, not_false_eq_true, Int.reduceEq, Int.reduceLE, Int.reduceLT, Int.reduceAdd, Int.reduceNeg, Int.reduceMul, Int.reduceSub, Int.reduceToNat]
          rw [if_neg (by omega), if_neg (by omega)]
        · have hg : ¬ (y = -1 ∨ ρ.S 4 y < ρ.S 4 k) := by omega
          rw [if_neg (fun z => hg z.2), hiy]
          simp (disch := first | assumption | exact zk_41 | ((repeat (first | exact z1n | refine z1I ?_ | refine z1R ?_)); done) | exact rfl | omega | decide) only [zb_41_2, r_iconst, r_istore_4i, r_istore_4r, r_istore_4j, r_istore_5i, r_istore_5r, r_istore_5j, r_istore_6i, r_istore_6r, r_istore_6j, r_goto_w, r_iload_6, r_aload_1, r_gf_448, r_icmp_ge, r_iload_2, r_inv_2_0, r_inv_2_1, r_inv_2_2, r_inv_2_3, r_inv_2_4, r_K0, r_K1, r_if_eq, r_aload_0, r_gf_256, r_ial, r_ial30, r_ial32, r_iload_3, r_ixor, r_iand, r_if_ne, r_gf_450, r_aaload, r_iload_5, r_icmp_le, r_iinc_6i, r_iinc_6r, r_iinc_6j, r_goto, r_iload_4, r_iret, r_bret_0, r_bret_1, vA, vn, vc, vs4, es4, vn, c_contains, c, v0, hb, zandn_n, e', hv, ↓reduceIte, not_true_eq_false, not_false_eq_true, Int.reduceEq, Int.reduceLE, Int.reduceLT, Int.reduceAdd, Int.reduceNeg, Int.reduceMul, Int.reduceSub, Int.reduceToNat]
          rw [if_neg (by omega), if_pos (by omega)]
      · have e' : ¬ ((zdf (zNeeds ρ k &&& zDown ρ) F : Nat) : Int) = 0 := by omega
        have hc : ¬ zQc ρ b F k = true := fun z => e (zQc_in z).2.2
        rw [if_neg (fun z => hc z.1), hiy]
        simp (disch := first | assumption | exact zk_41 | ((repeat (first | exact z1n | refine z1I ?_ | refine z1R ?_)); done) | exact rfl | omega | decide) only [zb_41_2, r_iconst, r_istore_4i, r_istore_4r, r_istore_4j, r_istore_5i, r_istore_5r, r_istore_5j, r_istore_6i, r_istore_6r, r_istore_6j, r_goto_w, r_iload_6, r_aload_1, r_gf_448, r_icmp_ge, r_iload_2, r_inv_2_0, r_inv_2_1, r_inv_2_2, r_inv_2_3, r_inv_2_4, r_K0, r_K1, r_if_eq, r_aload_0, r_gf_256, r_ial, r_ial30, r_ial32, r_iload_3, r_ixor, r_iand, r_if_ne, r_gf_450, r_aaload, r_iload_5, r_icmp_le, r_iinc_6i, r_iinc_6r, r_iinc_6j, r_goto, r_iload_4, r_iret, r_bret_0, r_bret_1, vA, vn, vc, vs4, es4, vn, c_contains, c, v0, hb, zandn_n, e', ↓reduceIte, not_true_eq_false, not_false_eq_true, Int.reduceEq, Int.reduceLE, Int.reduceLT, Int.reduceAdd, Int.reduceNeg, Int.reduceMul, Int.reduceSub, Int.reduceToNat]
        rw [if_neg (by omega)]
    · have hc : ¬ zQc ρ b F k = true := fun z => c ((zQw_bit n0 k0).mpr ⟨k1, (zQc_in z).1, (zQc_in z).2.1⟩)
      rw [if_neg (fun z => hc z.1), hiy]
      simp (disch := first | assumption | exact zk_41 | ((repeat (first | exact z1n | refine z1I ?_ | refine z1R ?_)); done) | exact rfl | omega | decide) only [zb_41_2, r_iconst, r_istore_4i, r_istore_4r, r_istore_4j, r_istore_5i, r_istore_5r, r_istore_5j, r_istore_6i, r_istore_6r, r_istore_6j, r_goto_w, r_iload_6, r_aload_1, r_gf_448, r_icmp_ge, r_iload_2, r_inv_2_0, r_inv_2_1, r_inv_2_2, r_inv_2_3, r_inv_2_4, r_K0, r_K1, r_if_eq, r_aload_0, r_gf_256, r_ial, r_ial30, r_ial32, r_iload_3, r_ixor, r_iand, r_if_ne, r_gf_450, r_aaload, r_iload_5, r_icmp_le, r_iinc_6i, r_iinc_6r, r_iinc_6j, r_goto, r_iload_4, r_iret, r_bret_0, r_bret_1, vA, vn, vc, vs4, es4, vn, c_contains, c, Bool.false_eq_true, ↓reduceIte, not_true_eq_false, not_false_eq_true, Int.reduceEq, Int.reduceLE, Int.reduceLT, Int.reduceAdd, Int.reduceNeg, Int.reduceMul, Int.reduceSub, Int.reduceToNat]
      rw [if_neg (by omega)])
  rw [show zQnk ρ b F 0 = -1 from rfl, if_pos rfl] at hch
  rw [hch]
  simp (disch := first | assumption | exact zk_41 | ((repeat (first | exact z1n | refine z1I ?_ | refine z1R ?_)); done) | exact rfl | omega | decide) only [zb_41_1, zb_41_3, r_iconst, r_istore_4i, r_istore_4r, r_istore_4j, r_istore_5i, r_istore_5r, r_istore_5j, r_istore_6i, r_istore_6r, r_istore_6j, r_goto_w, r_iload_6, r_aload_1, r_gf_448, r_icmp_ge, r_iload_2, r_inv_2_0, r_inv_2_1, r_inv_2_2, r_inv_2_3, r_inv_2_4, r_K0, r_K1, r_if_eq, r_aload_0, r_gf_256, r_ial, r_ial30, r_ial32, r_iload_3, r_ixor, r_iand, r_if_ne, r_gf_450, r_aaload, r_iload_5, r_icmp_le, r_iinc_6i, r_iinc_6r, r_iinc_6j, r_goto, r_iload_4, r_iret, r_bret_0, r_bret_1, vA, vn, vc, vs4, es4, vn, Int.le_refl, ↓reduceIte, not_true_eq_false, not_false_eq_true, Int.reduceEq, Int.reduceLE, Int.reduceLT, Int.reduceAdd, Int.reduceNeg, Int.reduceMul, Int.reduceSub, Int.reduceToNat]
  rfl
end
