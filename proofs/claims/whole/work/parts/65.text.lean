/-! TEXT, 5: execute, in the class -/
theorem zNb_rng {T : Int → Int} {n p : Int} {j : Nat} : 0 ≤ zNb T n p j ∧ zNb T n p j ≤ 999 := by
  unfold zNb
  generalize zNs T n j (p + 1) = q
  by_cases h : q ≤ n
  · obtain ⟨a, b, c, e, -⟩ := zDe_is (T := T) h
    exact zVl_rng a b e
  · have : zDe T n q = q := by
      unfold zDe zfst
      rw [show (zMnI (q + 3) n - q).toNat = 0 by unfold zMnI; split <;> omega]
      rfl
    rw [this, zVl_0]
    omega
theorem zCm_num {T : Int → Int} {n p : Int} (h : (zCm T n p).2 = true) : zNum (T p) ≠ 0 := fun e => by
  unfold zCm at h
  rw [if_pos e] at h
  cases h
/-- the state after c commands -/
def zRun (T : Int → Int) (n : Int) (ρ : zR) : Nat → zR
  | 0 => ρ
  | c + 1 => zEfC (zRun T n ρ c) (T (zPp T n c)) (zNb T n (zPp T n c))
def zXo (T : Int → Int) (n : Int) (ρ : zR) (c : Nat) : Prop := zOkC (zRun T n ρ c) (T (zPp T n c)) (zNb T n (zPp T n c))
/-- X is the first command that can't be carried out, or their number -/
def zXis (T : Int → Int) (n : Int) (ρ : zR) (X : Int) : Prop := (0 ≤ X ∧ X ≤ zPm T n) ∧ (∀ c : Nat, (c : Int) < X → zXo T n ρ c) ∧ (X < zPm T n → ¬ zXo T n ρ X.toNat)
theorem zX_ex (T : Int → Int) (n : Int) (ρ : zR) (h : 0 ≤ zPm T n) : ∃ X, zXis T n ρ X := by
  have : ∀ m : Nat, (m : Int) ≤ zPm T n → ∃ X : Int, (0 ≤ X ∧ X ≤ m) ∧ (∀ c : Nat, (c : Int) < X → zXo T n ρ c) ∧ (X < m → ¬ zXo T n ρ X.toNat) := by
    intro m
    induction m with
    | zero => intro _; exact ⟨0, by omega, fun c hc => by omega, fun z => by omega⟩
    | succ m ih =>
      intro hm
      obtain ⟨X, a, b, c⟩ := ih (by omega)
      by_cases e : X < m
      · exact ⟨X, by omega, b, fun _ => c e⟩
      · by_cases o : zXo T n ρ m
        · refine ⟨(m + 1 : Nat), by omega, fun c hc => ?_, fun z => by omega⟩
          by_cases z : c = m
          · rw [z]; exact o
          · exact b c (by omega)
        · refine ⟨m, by omega, fun c hc => b c (by omega), fun _ => by rw [Int.toNat_natCast]; exact o⟩
  obtain ⟨X, a, b, c⟩ := this (zPm T n).toNat (by omega)
  exact ⟨X, by omega, b, fun z => c (by omega)⟩
theorem zRun_wf {T : Int → Int} {n : Int} {ρ : zR} (hW : zWF ρ) {X : Int} (hX : zXis T n ρ X) : ∀ c : Nat, (c : Int) ≤ X → zWF (zRun T n ρ c) := by
  intro c
  induction c with
  | zero => intro _; exact hW
  | succ c ih =>
    intro h
    obtain ⟨⟨a, b⟩, e, f⟩ := hX
    obtain ⟨g1, g2⟩ := zPm_g (T := T) (n := n) (c := c) (by omega)
    exact zEfC_wf (ih (by omega)) (zCm_num g2) (e c (by omega))
def zXr (T : Int → Int) (n X : Int) : Int := if zPp T n (zPm T n).toNat < n then -10 - (zCm T n (zPp T n (zPm T n).toNat)).1 else if X < zPm T n then -1000 - X else zPm T n
/-- all commands have been carried out -/
def zXa (T : Int → Int) (n X : Int) : Bool := !decide (zPp T n (zPm T n).toNat < n) && !decide (X < zPm T n)
def zXst (T : Int → Int) (n X : Int) (ρ : zR) : zR := if zXa T n X = true then zRun T n ρ (zPm T n).toNat else ρ
def zXp (T : Int → Int) (n X : Int) (p : Int) : Int := if zXa T n X = true then (zHiQ p + 1 : Nat) else p
def zXh (T : Int → Int) (n X : Int) (p : Int) (H : Nat → zR) (ρ : zR) : Nat → zR := if zXa T n X = true then zHiN p H ρ else H
theorem zXs_wf {T : Int → Int} {n X : Int} {ρ : zR} (hW : zWF ρ) (hX : zXis T n ρ X) : zWF (zXst T n X ρ) := by
  unfold zXst
  split
  · rename_i e
    unfold zXa at e
    rw [Bool.and_eq_true] at e
    have e2 := e.2
    rw [Bool.not_eq_true'] at e2
    have e3 : ¬ (X < zPm T n) := of_decide_eq_false e2
    have := hX.1
    exact zRun_wf hW hX _ (by omega)
  · exact hW
section
variable {d : Nat} {s : zS} {V : zV} {Q : zO → zH → Prop} {ρ : zR} {h : zH} {T : Int → Int} {n p : Int} {H : Nat → zR} {κ : Nat → Nat}
/-- the object itself -/
def zSB (s : zS) (V : zV) : Prop := s.tg 5 = 9 ∧ V 5 0 = .ref 6 ∧ V 5 1 = .ref 24 ∧ V 5 2 = .ref 42 ∧ V 5 3 = .ref 116 ∧ V 5 4 = .ref 121 ∧ V 5 5 = .ref 132 ∧ V 5 6 = .ref 134 ∧ V 5 7 = .ref 139 ∧ V 5 8 = .ref 155
theorem zHiP.rows {V' : zV} (hP : zHiP s V κ) (e : ∀ r, 42 ≤ r → r < 116 → V' r = V r) : zHiP s V' κ := by
  obtain ⟨a, b, c, f, g, k⟩ := hP
  refine ⟨a, by rw [e 42 (by omega) (by omega)]; exact b, c, f, fun j hj => ⟨by rw [e 43 (by omega) (by omega)]; exact (g j hj).1, ?_⟩, k⟩
  have := k.1 j hj
  exact (g j hj).2.of (by rw [e _ (by omega) (by omega)]) (by rw [e _ (by omega) (by omega)]) (e _ (by omega) (by omega)) (e _ (by omega) (by omega))
theorem zHiC.rows {V' : zV} (hC : zHiC p H V κ) (hK : zKad κ) (p1 : p ≤ 4) (e : ∀ r, 42 ≤ r → r < 116 → V' r = V r) : zHiC p H V' κ := by
  refine ⟨by rw [e 42 (by omega) (by omega)]; exact hC.1, fun k hk => (hC.2 k hk).rows (fun z z0 z1 => ?_)⟩
  have := hK.1 k (by omega)
  exact e z (by omega) (by omega)
theorem zKp_g {k q : Int} (k0 : 0 ≤ k) (k1 : k < 40) (hI : zTxI V) (hK : zKp T n q k V) : ∃ g : Nat → Int, (∀ j : Nat, j < 5 → V (159 + j) k = zi (g j)) ∧ ∀ j, j < zNum (T q) → g j = zNb T n q j := by
  have : ∀ j : Nat, ∃ z : Int, (j < 5 → V (159 + j) k = zi z) ∧ (j < zNum (T q) → z = zNb T n q j) := fun j => by
    by_cases e : j < zNum (T q)
    · exact ⟨_, fun _ => hK.2 j e, fun _ => rfl⟩
    · by_cases e5 : j < 5
      · obtain ⟨z, hz⟩ := hI j e5 k k0 k1
        exact ⟨z, fun _ => hz, fun z => absurd z e⟩
      · exact ⟨0, fun z => absurd z e5, fun z => absurd z e⟩
  obtain ⟨g, hg⟩ := Classical.skolem.mp this
  exact ⟨g, fun j hj => (hg j).1 hj, fun j hj => (hg j).2 hj⟩
set_option maxRecDepth 20000 in
theorem c_execute (hd : 8 ≤ d) (hS : zSB s V) (hA : zSA s V) (hP : zStP s V 6) (hC : zStC ρ V 6) (hW : zWF ρ) (hPa : zStP s V 24) (hHP : zHiP s V κ) (hHC : zHiC p H V κ) (p0 : 0 ≤ p) (p1 : p ≤ 4) (hX : zTxP s V) (hT : zTxC T n V) (hk : zTok2 T n) (hI : zTxI V) {X : Int} (hx : zXis T n ρ X)
    (hQ : ∀ V' κ', (∀ r : Nat, (r < 6 ∨ 116 ≤ r) → r ≠ 157 → (r < 159 ∨ 163 < r) → V' r = V r) → zStP s V' 6 → zStC (zXst T n X ρ) V' 6 → zStP s V' 24 → zHiP s V' κ' → zHiC (zXp T n X p) (zXh T n X p H ρ) V' κ' → zTxI V' → Q (.inl (some (zi (zXr T n X)))) (s, V')) : zcall d 153 [.ref 5] (s, V) Q := by
  obtain ⟨n0, n1⟩ := hk.1
  obtain ⟨w0, w1, wc0, wc1⟩ := hW.1
  obtain ⟨s5, s0, s1, s2, -, -, -, -, -, s8⟩ := hS
  obtain ⟨m0, m1, m2⟩ := zPm_rng (T := T) n0 n1
  obtain ⟨⟨x0, x1⟩, xo, xn⟩ := id hx
  obtain ⟨d, rfl⟩ : ∃ e, d = e + 1 := ⟨d - 1, by omega⟩
  rw [zc_153 s5]
  simp (disch := first | assumption | exact zk_153 | ((repeat (first | exact z1n | refine z1I ?_ | refine z1R ?_)); done) | exact rfl | omega | decide) only [zb_153_0, r_aload_0, r_gf_584, r_inv_1_0, r_inv_1_1, r_inv_1_2, r_inv_1_3, r_inv_1_4, r_K0, r_K1, r_istore_1i, r_istore_1r, r_istore_1j, r_iload_1, r_if_ge, r_iret, r_bret_0, r_bret_1, r_gf_577, r_gf_576, r_inv_2_0, r_inv_2_1, r_inv_2_2, r_inv_2_3, r_inv_2_4, r_iconst, r_istore_2i, r_istore_2r, r_istore_2j, r_goto_w, r_iload_2, r_icmp_ge, r_inv_3_0, r_inv_3_1, r_inv_3_2, r_inv_3_3, r_inv_3_4, r_if_eq, r_isub, r_iinc_2i, r_iinc_2r, r_iinc_2j, r_goto, r_gf_578, r_KX, s8, ↓reduceIte, not_true_eq_false, not_false_eq_true, Int.reduceEq, Int.reduceLE, Int.reduceLT, Int.reduceAdd, Int.reduceNeg, Int.reduceMul, Int.reduceSub, Int.reduceToNat]
  refine c_parse (by omega) hX hT hk hI (fun V1 f1 i1 k1 => ?_)
  have hlo : ∀ r : Nat, r < 155 → V1 r = V r := fun r hr => f1 r (by omega) (by omega)
  have hP1 : zStP s V1 6 := hP.of (by rw [hlo 6 (by omega)]) (by rw [hlo 6 (by omega)]) (hlo _ (by omega)) (hlo _ (by omega))
  have hPa1 : zStP s V1 24 := hPa.of (by rw [hlo 24 (by omega)]) (by rw [hlo 24 (by omega)]) (hlo _ (by omega)) (hlo _ (by omega))
  have hC1 : zStC ρ V1 6 := hC.rows (fun z z0 z1 => hlo z (by omega))
  have hX1 : zTxP s V1 := hX.fx (f1 155 (by omega) (by omega)) (f1 158 (by omega) (by omega))
  have hF1 : zFrg 116 200 V V1 := fun r hr => by
    by_cases e : r < 116
    · exact hlo r (by omega)
    · exact f1 r (by omega) (by omega)
  have hHP1 : zHiP s V1 κ := hHP.rows (fun r r0 r1 => hF1 r (by omega))
  have hHC1 : zHiC p H V1 κ := hHC.rows hHP.2.2.2.2.2 p1 (fun r r0 r1 => hF1 r (by omega))
  have b1 : V1 5 0 = .ref 6 := by rw [hlo 5 (by omega)]; exact s0
  have b2 : V1 5 1 = .ref 24 := by rw [hlo 5 (by omega)]; exact s1
  by_cases hb : zPp T n (zPm T n).toNat < n
  · have hr : zPr T n = -10 - (zCm T n (zPp T n (zPm T n).toNat)).1 := by unfold zPr; rw [if_pos hb]
    have hq1 := zPp_rng (T := T) n0 (zPm T n).toNat (by omega)
    have hq2 := zCm_rng (T := T) hb
    have ha : zXa T n X = false := by unfold zXa; rw [decide_eq_true hb]; rfl
    have := hQ V1 κ (fun r r0 r1 r2 => f1 r r1 r2) hP1 (by unfold zXst; rw [ha, if_neg Bool.false_ne_true]; exact hC1) hPa1 hHP1 (by unfold zXp zXh; rw [ha, if_neg Bool.false_ne_true, if_neg Bool.false_ne_true]; exact hHC1) i1
    unfold zXr at this
    rw [if_pos hb] at this
    rw [hr]
    simp (disch := first | assumption | exact zk_153 | ((repeat (first | exact z1n | refine z1I ?_ | refine z1R ?_)); done) | exact rfl | omega | decide) only [r_aload_0, r_gf_584, r_inv_1_0, r_inv_1_1, r_inv_1_2, r_inv_1_3, r_inv_1_4, r_K0, r_K1, r_istore_1i, r_istore_1r, r_istore_1j, r_iload_1, r_if_ge, r_iret, r_bret_0, r_bret_1, r_gf_577, r_gf_576, r_inv_2_0, r_inv_2_1, r_inv_2_2, r_inv_2_3, r_inv_2_4, r_iconst, r_istore_2i, r_istore_2r, r_istore_2j, r_goto_w, r_iload_2, r_icmp_ge, r_inv_3_0, r_inv_3_1, r_inv_3_2, r_inv_3_3, r_inv_3_4, r_if_eq, r_isub, r_iinc_2i, r_iinc_2r, r_iinc_2j, r_goto, r_gf_578, r_KX, ↓reduceIte, not_true_eq_false, not_false_eq_true, Int.reduceEq, Int.reduceLE, Int.reduceLT, Int.reduceAdd, Int.reduceNeg, Int.reduceMul, Int.reduceSub, Int.reduceToNat]
    rw [if_neg (by omega)]
    exact this
  · have hr : zPr T n = zPm T n := by unfold zPr; rw [if_neg hb]
    have hr2 : zXr T n X = if X < zPm T n then -1000 - X else zPm T n := by unfold zXr; rw [if_neg hb]
    rw [hr]
    rw [hr2] at hQ
    simp (disch := first | assumption | exact zk_153 | ((repeat (first | exact z1n | refine z1I ?_ | refine z1R ?_)); done) | exact rfl | omega | decide) only [zb_153_1, r_aload_0, r_gf_584, r_inv_1_0, r_inv_1_1, r_inv_1_2, r_inv_1_3, r_inv_1_4, r_K0, r_K1, r_istore_1i, r_istore_1r, r_istore_1j, r_iload_1, r_if_ge, r_iret, r_bret_0, r_bret_1, r_gf_577, r_gf_576, r_inv_2_0, r_inv_2_1, r_inv_2_2, r_inv_2_3, r_inv_2_4, r_iconst, r_istore_2i, r_istore_2r, r_istore_2j, r_goto_w, r_iload_2, r_icmp_ge, r_inv_3_0, r_inv_3_1, r_inv_3_2, r_inv_3_3, r_inv_3_4, r_if_eq, r_isub, r_iinc_2i, r_iinc_2r, r_iinc_2j, r_goto, r_gf_578, r_KX, b1, b2, ↓reduceIte, not_true_eq_false, not_false_eq_true, Int.reduceEq, Int.reduceLE, Int.reduceLT, Int.reduceAdd, Int.reduceNeg, Int.reduceMul, Int.reduceSub, Int.reduceToNat]
    rw [if_pos (by omega)]
    refine c_copyFrom (a := 24) (b := 6) (by omega) (by omega) hPa1 hP1 hC1 ⟨w1, wc1⟩ (fun V2 f2 hPa2 hCa2 => ?_)
    simp (disch := first | assumption | exact zk_153 | ((repeat (first | exact z1n | refine z1I ?_ | refine z1R ?_)); done) | exact rfl | omega | decide) only [r_aload_0, r_gf_584, r_inv_1_0, r_inv_1_1, r_inv_1_2, r_inv_1_3, r_inv_1_4, r_K0, r_K1, r_istore_1i, r_istore_1r, r_istore_1j, r_iload_1, r_if_ge, r_iret, r_bret_0, r_bret_1, r_gf_577, r_gf_576, r_inv_2_0, r_inv_2_1, r_inv_2_2, r_inv_2_3, r_inv_2_4, r_iconst, r_istore_2i, r_istore_2r, r_istore_2j, r_goto_w, r_iload_2, r_icmp_ge, r_inv_3_0, r_inv_3_1, r_inv_3_2, r_inv_3_3, r_inv_3_4, r_if_eq, r_isub, r_iinc_2i, r_iinc_2r, r_iinc_2j, r_goto, r_gf_578, r_KX, ↓reduceIte, not_true_eq_false, not_false_eq_true, Int.reduceEq, Int.reduceLE, Int.reduceLT, Int.reduceAdd, Int.reduceNeg, Int.reduceMul, Int.reduceSub, Int.reduceToNat]
    have hP2 : zStP s V2 6 := hP1.of (by rw [f2 6 (by omega)]) (by rw [f2 6 (by omega)]) (f2 _ (by omega)) (f2 _ (by omega))
    have hC2 : zStC ρ V2 6 := hC1.rows (fun z z0 z1 => f2 z (by omega))
    have hlp := z_iter (i := 0) (n := X) (I := fun c (q : zV) => zFr 6 V2 q ∧ zStP s q 6 ∧ zStC (zRun T n ρ c.toNat) q 6) (P := fun c q => zwp (zcall d) 153 Q (zB 153 2) [.ref 5, zi (zPm T n), zi c] [] (s, q)) x0
    have oth : ∀ V3, zFr 6 V2 V3 → zSA s V3 ∧ zTxP s V3 ∧ zTxI V3 ∧ (∀ j : Nat, (j : Int) < zPm T n → zKp T n (zPp T n j) j V3) ∧ V3 5 0 = .ref 6 ∧ V3 5 1 = .ref 24 ∧ V3 5 2 = .ref 42 ∧ V3 5 8 = .ref 155 := fun V3 f3 => by
      have hlo3 : ∀ r : Nat, r < 6 → V3 r = V r := fun r hr => (f3 r (by omega)).trans ((f2 r (by omega)).trans (hlo r (by omega)))
      have hhi3 : ∀ r : Nat, 42 ≤ r → V3 r = V1 r := fun r hr => (f3 r (by omega)).trans (f2 r (by omega))
      refine ⟨fun k hk => ?_, hX1.fx (hhi3 155 (by omega)) (hhi3 158 (by omega)), fun w hw => ?_, fun j hj => ?_, by rw [hlo3 5 (by omega)]; exact s0, by rw [hlo3 5 (by omega)]; exact s1, by rw [hlo3 5 (by omega)]; exact s2, by rw [hlo3 5 (by omega)]; exact s8⟩
      · rw [hlo3 k (by omega)]; exact hA k hk
      · unfold zInts; rw [hhi3 _ (by omega)]; exact i1 w hw
      · unfold zKp
        rw [hhi3 157 (by omega)]
        exact ⟨(k1 j hj).1, fun i hi => by rw [hhi3 _ (by omega)]; exact (k1 j hj).2 i hi⟩
    refine hlp ?_ ?_ V2 ⟨fun _ _ => rfl, hP2, hC2⟩
    · rintro c V3 c0 c1 ⟨f3, hP3, hC3⟩ ih
      obtain ⟨w, rfl⟩ : ∃ w : Nat, c = w := ⟨c.toNat, by omega⟩
      rw [Int.toNat_natCast] at hC3
      obtain ⟨hA3, hX3, hI3, hK3, e0, e1, e2, e8⟩ := oth V3 f3
      have hW3 := zRun_wf hW hx w (by omega)
      obtain ⟨g1, g2⟩ := zPm_g (T := T) (n := n) (c := w) (by omega)
      have hnum := zCm_num g2
      obtain ⟨g, hg, hgf⟩ := zKp_g (by omega) (by omega) hI3 (hK3 w (by omega))
      have hgr : ∀ j : Nat, j < zNum (T (zPp T n w)) → 0 ≤ g j ∧ g j ≤ 999 := fun j hj => by rw [hgf j hj]; exact zNb_rng
      obtain ⟨cg1, cg2⟩ := zCmd_congr (ρ := zRun T n ρ w) hnum hgf
      have hok : zOkC (zRun T n ρ w) (T (zPp T n w)) g := cg1.mpr (xo w c1)
      conv => rw [zb_153_2]
      simp (disch := first | assumption | exact zk_153 | ((repeat (first | exact z1n | refine z1I ?_ | refine z1R ?_)); done) | exact rfl | omega | decide) only [r_aload_0, r_gf_584, r_inv_1_0, r_inv_1_1, r_inv_1_2, r_inv_1_3, r_inv_1_4, r_K0, r_K1, r_istore_1i, r_istore_1r, r_istore_1j, r_iload_1, r_if_ge, r_iret, r_bret_0, r_bret_1, r_gf_577, r_gf_576, r_inv_2_0, r_inv_2_1, r_inv_2_2, r_inv_2_3, r_inv_2_4, r_iconst, r_istore_2i, r_istore_2r, r_istore_2j, r_goto_w, r_iload_2, r_icmp_ge, r_inv_3_0, r_inv_3_1, r_inv_3_2, r_inv_3_3, r_inv_3_4, r_if_eq, r_isub, r_iinc_2i, r_iinc_2r, r_iinc_2j, r_goto, r_gf_578, r_KX, e0, e8, ↓reduceIte, not_true_eq_false, not_false_eq_true, Int.reduceEq, Int.reduceLE, Int.reduceLT, Int.reduceAdd, Int.reduceNeg, Int.reduceMul, Int.reduceSub, Int.reduceToNat]
      rw [if_neg (by omega)]
      refine c_whyNotCommand (by omega) hA3 hX3 hP3 hC3 hW3 (by omega) (by omega) hnum (hK3 w (by omega)).1 hg hgr (fun _ => ?_) (fun z => absurd hok z)
      simp (disch := first | assumption | exact zk_153 | ((repeat (first | exact z1n | refine z1I ?_ | refine z1R ?_)); done) | exact rfl | omega | decide) only [zb_153_3, r_aload_0, r_gf_584, r_inv_1_0, r_inv_1_1, r_inv_1_2, r_inv_1_3, r_inv_1_4, r_K0, r_K1, r_istore_1i, r_istore_1r, r_istore_1j, r_iload_1, r_if_ge, r_iret, r_bret_0, r_bret_1, r_gf_577, r_gf_576, r_inv_2_0, r_inv_2_1, r_inv_2_2, r_inv_2_3, r_inv_2_4, r_iconst, r_istore_2i, r_istore_2r, r_istore_2j, r_goto_w, r_iload_2, r_icmp_ge, r_inv_3_0, r_inv_3_1, r_inv_3_2, r_inv_3_3, r_inv_3_4, r_if_eq, r_isub, r_iinc_2i, r_iinc_2r, r_iinc_2j, r_goto, r_gf_578, r_KX, e0, e8, ↓reduceIte, not_true_eq_false, not_false_eq_true, Int.reduceEq, Int.reduceLE, Int.reduceLT, Int.reduceAdd, Int.reduceNeg, Int.reduceMul, Int.reduceSub, Int.reduceToNat]
      refine c_carryOut (by omega) hA3 hX3 hP3 hC3 hW3 (by omega) (by omega) (by omega) hnum (hK3 w (by omega)).1 hg hgr hok (fun V4 f4 hP4 hC4 => ?_)
      rw [cg2] at hC4
      have := ih V4 ⟨fun r hr => (f4 r hr).trans (f3 r hr), hP4, by rw [show ((w : Int) + 1).toNat = w + 1 by omega]; exact hC4⟩
      simp (disch := first | assumption | exact zk_153 | ((repeat (first | exact z1n | refine z1I ?_ | refine z1R ?_)); done) | exact rfl | omega | decide) only [r_aload_0, r_gf_584, r_inv_1_0, r_inv_1_1, r_inv_1_2, r_inv_1_3, r_inv_1_4, r_K0, r_K1, r_istore_1i, r_istore_1r, r_istore_1j, r_iload_1, r_if_ge, r_iret, r_bret_0, r_bret_1, r_gf_577, r_gf_576, r_inv_2_0, r_inv_2_1, r_inv_2_2, r_inv_2_3, r_inv_2_4, r_iconst, r_istore_2i, r_istore_2r, r_istore_2j, r_goto_w, r_iload_2, r_icmp_ge, r_inv_3_0, r_inv_3_1, r_inv_3_2, r_inv_3_3, r_inv_3_4, r_if_eq, r_isub, r_iinc_2i, r_iinc_2r, r_iinc_2j, r_goto, r_gf_578, r_KX, ↓reduceIte, not_true_eq_false, not_false_eq_true, Int.reduceEq, Int.reduceLE, Int.reduceLT, Int.reduceAdd, Int.reduceNeg, Int.reduceMul, Int.reduceSub, Int.reduceToNat]
      exact this
    · rintro V3 ⟨f3, hP3, hC3⟩
      obtain ⟨hA3, hX3, hI3, hK3, e0, e1, e2, e8⟩ := oth V3 f3
      have hPa3 : zStP s V3 24 := hPa2.of (by rw [f3 24 (by omega)]) (by rw [f3 24 (by omega)]) (f3 _ (by omega)) (f3 _ (by omega))
      have hCa3 : zStC ρ V3 24 := hCa2.rows (fun z z0 z1 => f3 z (by omega))
      have hF3 : zFrg 6 42 V1 V3 := fun r hr => (f3 r (by omega)).trans (f2 r (by omega))
      have hHP3 : zHiP s V3 κ := hHP1.rows (fun r r0 r1 => hF3 r (by omega))
      have hHC3 : zHiC p H V3 κ := hHC1.rows hHP.2.2.2.2.2 p1 (fun r r0 r1 => hF3 r (by omega))
      by_cases hm : X < zPm T n
      · obtain ⟨w, rfl⟩ : ∃ w : Nat, X = w := ⟨X.toNat, by omega⟩
        rw [Int.toNat_natCast] at hC3 xn
        have hW3 := zRun_wf hW hx w (by omega)
        obtain ⟨g1, g2⟩ := zPm_g (T := T) (n := n) (c := w) (by omega)
        have hnum := zCm_num g2
        obtain ⟨g, hg, hgf⟩ := zKp_g (by omega) (by omega) hI3 (hK3 w (by omega))
        have hgr : ∀ j : Nat, j < zNum (T (zPp T n w)) → 0 ≤ g j ∧ g j ≤ 999 := fun j hj => by rw [hgf j hj]; exact zNb_rng
        obtain ⟨cg1, cg2⟩ := zCmd_congr (ρ := zRun T n ρ w) hnum hgf
        have hok : ¬ zOkC (zRun T n ρ w) (T (zPp T n w)) g := fun z => xn hm (cg1.mp z)
        have ha : zXa T n w = false := by unfold zXa; rw [decide_eq_true hm, Bool.not_true, Bool.and_false]
        rw [if_pos hm] at hQ
        conv => rw [zb_153_2]
        simp (disch := first | assumption | exact zk_153 | ((repeat (first | exact z1n | refine z1I ?_ | refine z1R ?_)); done) | exact rfl | omega | decide) only [r_aload_0, r_gf_584, r_inv_1_0, r_inv_1_1, r_inv_1_2, r_inv_1_3, r_inv_1_4, r_K0, r_K1, r_istore_1i, r_istore_1r, r_istore_1j, r_iload_1, r_if_ge, r_iret, r_bret_0, r_bret_1, r_gf_577, r_gf_576, r_inv_2_0, r_inv_2_1, r_inv_2_2, r_inv_2_3, r_inv_2_4, r_iconst, r_istore_2i, r_istore_2r, r_istore_2j, r_goto_w, r_iload_2, r_icmp_ge, r_inv_3_0, r_inv_3_1, r_inv_3_2, r_inv_3_3, r_inv_3_4, r_if_eq, r_isub, r_iinc_2i, r_iinc_2r, r_iinc_2j, r_goto, r_gf_578, r_KX, e0, e8, ↓reduceIte, not_true_eq_false, not_false_eq_true, Int.reduceEq, Int.reduceLE, Int.reduceLT, Int.reduceAdd, Int.reduceNeg, Int.reduceMul, Int.reduceSub, Int.reduceToNat]
        rw [if_neg (by omega)]
        refine c_whyNotCommand (by omega) hA3 hX3 hP3 hC3 hW3 (by omega) (by omega) hnum (hK3 w (by omega)).1 hg hgr (fun z => absurd z hok) (fun _ e e1' e2' => ?_)
        simp (disch := first | assumption | exact zk_153 | ((repeat (first | exact z1n | refine z1I ?_ | refine z1R ?_)); done) | exact rfl | omega | decide) only [r_aload_0, r_gf_584, r_inv_1_0, r_inv_1_1, r_inv_1_2, r_inv_1_3, r_inv_1_4, r_K0, r_K1, r_istore_1i, r_istore_1r, r_istore_1j, r_iload_1, r_if_ge, r_iret, r_bret_0, r_bret_1, r_gf_577, r_gf_576, r_inv_2_0, r_inv_2_1, r_inv_2_2, r_inv_2_3, r_inv_2_4, r_iconst, r_istore_2i, r_istore_2r, r_istore_2j, r_goto_w, r_iload_2, r_icmp_ge, r_inv_3_0, r_inv_3_1, r_inv_3_2, r_inv_3_3, r_inv_3_4, r_if_eq, r_isub, r_iinc_2i, r_iinc_2r, r_iinc_2j, r_goto, r_gf_578, r_KX, e0, e1, ↓reduceIte, not_true_eq_false, not_false_eq_true, Int.reduceEq, Int.reduceLE, Int.reduceLT, Int.reduceAdd, Int.reduceNeg, Int.reduceMul, Int.reduceSub, Int.reduceToNat]
        rw [if_neg (by omega)]
        refine c_copyFrom (a := 6) (b := 24) (by omega) (by omega) hP3 hPa3 hCa3 ⟨w1, wc1⟩ (fun V4 f4 hP4 hC4 => ?_)
        have hPa4 : zStP s V4 24 := hPa3.of (by rw [f4 24 (by omega)]) (by rw [f4 24 (by omega)]) (f4 _ (by omega)) (f4 _ (by omega))
        have hF4 : zFrg 6 42 V3 V4 := fun r hr => f4 r (by omega)
        have := hQ V4 κ (fun r r0 r1 r2 => (f4 r (by omega)).trans ((f3 r (by omega)).trans ((f2 r (by omega)).trans (f1 r r1 r2)))) hP4 (by unfold zXst; rw [ha, if_neg Bool.false_ne_true]; exact hC4) hPa4 (hHP3.rows (fun r r0 r1 => hF4 r (by omega))) (by unfold zXp zXh; rw [ha, if_neg Bool.false_ne_true, if_neg Bool.false_ne_true]; exact hHC3.rows hHP.2.2.2.2.2 p1 (fun r r0 r1 => hF4 r (by omega))) (fun w hw => by unfold zInts; rw [f4 _ (by omega)]; exact hI3 w hw)
        simp (disch := first | assumption | exact zk_153 | ((repeat (first | exact z1n | refine z1I ?_ | refine z1R ?_)); done) | exact rfl | omega | decide) only [r_aload_0, r_gf_584, r_inv_1_0, r_inv_1_1, r_inv_1_2, r_inv_1_3, r_inv_1_4, r_K0, r_K1, r_istore_1i, r_istore_1r, r_istore_1j, r_iload_1, r_if_ge, r_iret, r_bret_0, r_bret_1, r_gf_577, r_gf_576, r_inv_2_0, r_inv_2_1, r_inv_2_2, r_inv_2_3, r_inv_2_4, r_iconst, r_istore_2i, r_istore_2r, r_istore_2j, r_goto_w, r_iload_2, r_icmp_ge, r_inv_3_0, r_inv_3_1, r_inv_3_2, r_inv_3_3, r_inv_3_4, r_if_eq, r_isub, r_iinc_2i, r_iinc_2r, r_iinc_2j, r_goto, r_gf_578, r_KX, ↓reduceIte, not_true_eq_false, not_false_eq_true, Int.reduceEq, Int.reduceLE, Int.reduceLT, Int.reduceAdd, Int.reduceNeg, Int.reduceMul, Int.reduceSub, Int.reduceToNat]
        exact this
      · have hXm : X = zPm T n := by omega
        have ha : zXa T n X = true := by unfold zXa; rw [decide_eq_false hb, decide_eq_false hm]; rfl
        rw [if_neg hm] at hQ
        rw [hXm] at hC3 ⊢
        simp (disch := first | assumption | exact zk_153 | ((repeat (first | exact z1n | refine z1I ?_ | refine z1R ?_)); done) | exact rfl | omega | decide) only [zb_153_2, zb_153_4, r_aload_0, r_gf_584, r_inv_1_0, r_inv_1_1, r_inv_1_2, r_inv_1_3, r_inv_1_4, r_K0, r_K1, r_istore_1i, r_istore_1r, r_istore_1j, r_iload_1, r_if_ge, r_iret, r_bret_0, r_bret_1, r_gf_577, r_gf_576, r_inv_2_0, r_inv_2_1, r_inv_2_2, r_inv_2_3, r_inv_2_4, r_iconst, r_istore_2i, r_istore_2r, r_istore_2j, r_goto_w, r_iload_2, r_icmp_ge, r_inv_3_0, r_inv_3_1, r_inv_3_2, r_inv_3_3, r_inv_3_4, r_if_eq, r_isub, r_iinc_2i, r_iinc_2r, r_iinc_2j, r_goto, r_gf_578, r_KX, Int.le_refl, e1, e2, ↓reduceIte, not_true_eq_false, not_false_eq_true, Int.reduceEq, Int.reduceLE, Int.reduceLT, Int.reduceAdd, Int.reduceNeg, Int.reduceMul, Int.reduceSub, Int.reduceToNat]
        refine c_save (a := 24) (by omega) hHP3 hHC3 p0 p1 (by omega) hPa3 hCa3 ⟨w1, wc1⟩ (fun V4 κ4 f4 hHP4 hHC4 => ?_)
        have hP4 : zStP s V4 6 := hP3.frg f4 (by omega)
        have hC4 := hC3.frg f4 (by omega)
        have := hQ V4 κ4 (fun r r0 r1 r2 => (f4 r (by omega)).trans ((f3 r (by omega)).trans ((f2 r (by omega)).trans (f1 r r1 r2)))) hP4 (by unfold zXst; rw [ha, if_pos rfl]; exact hC4) (hPa3.frg f4 (by omega)) hHP4 (by unfold zXp zXh; rw [ha, if_pos rfl, if_pos rfl]; exact hHC4) (fun w hw => by unfold zInts; rw [f4 _ (by omega)]; exact hI3 w hw)
        simp (disch := first | assumption | exact zk_153 | ((repeat (first | exact z1n | refine z1I ?_ | refine z1R ?_)); done) | exact rfl | omega | decide) only [r_aload_0, r_gf_584, r_inv_1_0, r_inv_1_1, r_inv_1_2, r_inv_1_3, r_inv_1_4, r_K0, r_K1, r_istore_1i, r_istore_1r, r_istore_1j, r_iload_1, r_if_ge, r_iret, r_bret_0, r_bret_1, r_gf_577, r_gf_576, r_inv_2_0, r_inv_2_1, r_inv_2_2, r_inv_2_3, r_inv_2_4, r_iconst, r_istore_2i, r_istore_2r, r_istore_2j, r_goto_w, r_iload_2, r_icmp_ge, r_inv_3_0, r_inv_3_1, r_inv_3_2, r_inv_3_3, r_inv_3_4, r_if_eq, r_isub, r_iinc_2i, r_iinc_2r, r_iinc_2j, r_goto, r_gf_578, r_KX, ↓reduceIte, not_true_eq_false, not_false_eq_true, Int.reduceEq, Int.reduceLE, Int.reduceLT, Int.reduceAdd, Int.reduceNeg, Int.reduceMul, Int.reduceSub, Int.reduceToNat]
        exact this
end
