/-! FAILURE SETS, 2: cuts in the model -/
theorem zin_hi2 {v : Nat} {n y : Int} (n0 : 0 ≤ n) (hv : v < 2 ^ n.toNat) (hy : n ≤ y) : zin v y = false :=
  Nat.testBit_lt_two_pow (Nat.lt_of_lt_of_le hv (Nat.pow_le_pow_right (by omega) (by omega)))
theorem zCut_n {ρ : zR} (hW : zWF ρ) {x : Int} {v : Nat} (hv : v < 2 ^ ρ.n.toNat) : zCut ρ x v = (zin (zFail ρ v) x && !zany (fun y => zin v y && zin (zFail ρ (zdf v (zone y))) x) 0 ρ.n) := by
  obtain ⟨n0, n1, c0, c1⟩ := hW.1
  unfold zCut
  congr 2
  rw [Bool.eq_iff_iff, zany_iff, zany_iff]
  constructor
  · rintro ⟨k, a, b, c⟩
    refine ⟨k, a, ?_, c⟩
    rcases Int.lt_or_le k ρ.n with e | e
    · exact e
    · rw [zin_hi2 n0 hv e] at c
      cases c
  · rintro ⟨k, a, b, c⟩
    exact ⟨k, a, by omega, c⟩
/-- the one with p among those below n; -1 if there is none -/
def zTh (p : Int → Bool) (n : Int) : Int := if zfst p 0 n < n then zfst p 0 n else -1
theorem zTh_fo {p : Int → Bool} {n : Int} (n0 : 0 ≤ n) (h : ∀ i j, 0 ≤ i → i < j → j < n → p i = true → p j = false) : zfo (fun v f => if p v = true then v else f) (-1) n = zTh p n := by
  have key : ∀ m : Nat, (m : Int) ≤ n → ((∀ j, 0 ≤ j → j < (m : Int) → p j = false) ∧ zfo (fun v f => if p v = true then v else f) (-1) (m : Int) = -1) ∨ ∃ k, 0 ≤ k ∧ k < (m : Int) ∧ p k = true ∧ zfo (fun v f => if p v = true then v else f) (-1) (m : Int) = k := by
    intro m
    induction m with
    | zero => intro _; exact Or.inl ⟨fun j _ _ => by omega, rfl⟩
    | succ m ih =>
      intro hm
      rw [show ((m + 1 : Nat) : Int) = (m : Int) + 1 from rfl, zfo_s (by omega)]
      by_cases q : p (m : Int) = true
      · rw [if_pos q]
        exact Or.inr ⟨m, by omega, by omega, q, rfl⟩
      · rw [if_neg q]
        rcases ih (by omega) with ⟨a, b⟩ | ⟨k, a, b, c, e⟩
        · refine Or.inl ⟨fun j j0 j1 => ?_, b⟩
          by_cases z : j = m
          · rw [z]; simpa using q
          · exact a j j0 (by omega)
        · exact Or.inr ⟨k, a, by omega, c, e⟩
  have := key n.toNat (by omega)
  rw [Int.toNat_of_nonneg n0] at this
  unfold zTh
  rcases this with ⟨a, b⟩ | ⟨k, a, b, c, e⟩
  · rw [b, show zfst p 0 n = n from zfst_eq n0 (Int.le_refl _) a (fun z => by omega), if_neg (by omega)]
  · have hk : zfst p 0 n = k := zfst_eq a (by omega) (fun j j0 j1 => by
      cases z : p j
      · rfl
      · have := h j k j0 j1 b z
        rw [c] at this
        cases this) (fun _ => c)
    rw [e, hk, if_pos b]
/-- the cut number j of the size z -/
def zCtj (ρ : zR) (x z j : Int) (v : Int) : Bool := zCz ρ x z v && decide (zct (zCz ρ x z) v = j)
theorem zCtj_one {ρ : zR} {x z j : Int} (a b : Int) (a0 : 0 ≤ a) (ab : a < b) (h : zCtj ρ x z j a = true) : zCtj ρ x z j b = false := by
  unfold zCtj at h ⊢
  rw [Bool.and_eq_true, decide_eq_true_eq] at h
  have h1 : zct (zCz ρ x z) (a + 1) ≤ zct (zCz ρ x z) b := by
    have : ∀ m : Nat, zct (zCz ρ x z) (a + 1) ≤ zct (zCz ρ x z) (a + 1 + m) := by
      intro m
      induction m with
      | zero => exact Int.le_of_eq (congrArg _ (by omega))
      | succ m ih =>
        have hs := zct_s (p := zCz ρ x z) (k := a + 1 + m) (by omega)
        rw [show a + 1 + ((m + 1 : Nat) : Int) = (a + 1 + m) + 1 by omega, hs]
        split <;> omega
    have h3 := this (b - (a + 1)).toNat
    rwa [show a + 1 + ((b - (a + 1)).toNat : Int) = b by omega] at h3
  rw [zct_s a0, if_pos h.1] at h1
  rw [Bool.and_eq_false_iff]
  right
  simp
  omega
def zCuts (ρ : zR) (x z : Int) : Int := zct (zCz ρ x z) (zTwo ρ.n)
def zCutj (ρ : zR) (x z j : Int) : Int := zTh (zCtj ρ x z j) (zTwo ρ.n)
section
variable {d : Nat} {s : zS} {V : zV} {Q : zO → zH → Prop} {a : Nat} {ρ : zR} {h : zH}
set_option maxRecDepth 20000 in
theorem m_isCut (hd : 1 ≤ d) (hM : zMP s V) (hW : zWF ρ) {x : Int} (hF : zMF ρ x V) {v : Nat} (hv : v < 2 ^ ρ.n.toNat) : zcall d 252 [.ref 164, zi (v : Nat)] (s, V) Q = if zCut ρ x v = true then Q (.inl (some (zi 1))) (s, V) else Q (.inl (some (zi 0))) (s, V) := by
  obtain ⟨n0, n1, c0, c1⟩ := hW.1
  have hw := zTwo_rng n1
  unfold zTwo at hw
  have tM := hM.1
  have vm_isFailing : V 164 39 = .ref 189 := (hM.2 24 (by decide)).1
  have tm_isFailing : s.tg 189 = 23 := (hM.2 24 (by decide)).2.1
  have lm_isFailing : s.ln 189 = 4096 := (hM.2 24 (by decide)).2.2
  obtain ⟨d, rfl⟩ : ∃ e, d = e + 1 := ⟨d - 1, by omega⟩
  simp (disch := first | assumption | omega) only [zc_252]
  have hz : ∀ k, 0 ≤ k → k ≤ 12 → zwp (zcall d) 252 Q (zB 252 1) [.ref 164, zi (v : Nat), zi 0, zi k] [] (s, V) = Q (.inl (some (zi 0))) (s, V) := by
    intro k k0 k1
    simp (disch := first | assumption | exact zk_252 | ((repeat (first | exact z1n | refine z1I ?_ | refine z1R ?_)); done) | exact rfl | omega | decide) only [zb_252_1, zb_252_5, r_aload_0, r_gf_679, r_iload_1, r_baload, r_istore_2i, r_istore_2r, r_istore_2j, r_iconst, r_istore_3i, r_istore_3r, r_istore_3j, r_goto_w, r_iload_3, r_icmp_ge, r_iload_2, r_if_eq, r_ishr, r_iand, r_ishl, r_ixor, r_if_ne, r_goto, r_iinc_3i, r_iinc_3r, r_iinc_3j, r_iret, r_bret_0, r_bret_1, vm_isFailing, ↓reduceIte, not_true_eq_false, not_false_eq_true, Int.reduceEq, Int.reduceLE, Int.reduceLT, Int.reduceAdd, Int.reduceNeg, Int.reduceMul, Int.reduceSub, Int.reduceToNat]
    split <;> rfl
  have e0 := hF v hv
  by_cases q : zin (zFail ρ v) x = true
  · rw [q, show zb1 true = 1 from rfl] at e0
    simp (disch := first | assumption | exact zk_252 | ((repeat (first | exact z1n | refine z1I ?_ | refine z1R ?_)); done) | exact rfl | omega | decide) only [zb_252_0, r_aload_0, r_gf_679, r_iload_1, r_baload, r_istore_2i, r_istore_2r, r_istore_2j, r_iconst, r_istore_3i, r_istore_3r, r_istore_3j, r_goto_w, r_iload_3, r_icmp_ge, r_iload_2, r_if_eq, r_ishr, r_iand, r_ishl, r_ixor, r_if_ne, r_goto, r_iinc_3i, r_iinc_3r, r_iinc_3j, r_iret, r_bret_0, r_bret_1, vm_isFailing, e0, ↓reduceIte, not_true_eq_false, not_false_eq_true, Int.reduceEq, Int.reduceLE, Int.reduceLT, Int.reduceAdd, Int.reduceNeg, Int.reduceMul, Int.reduceSub, Int.reduceToNat]
    refine (z_searchB (F := fun k => zwp (zcall d) 252 Q (zB 252 1) [.ref 164, zi (v : Nat), zi 1, zi k] [] (s, V)) (p := fun y => zin v y && zin (zFail ρ (zdf v (zone y))) x) (A := Q (.inl (some (zi 0))) (s, V)) (B := Q (.inl (some (zi 1))) (s, V)) (i := 0) (n := 12) (by omega) (fun k k0 k1 => ?_) ?_).trans ?_
    · have hh := zhas (a := v) (x := k) (by omega) k0 (by omega)
      have hle := zdf_le v (zone k)
      have e1 := hF (zdf v (zone k)) (by omega)
      have ho := zone_lt (x := k) k1
      have hz2 := hz (k + 1) (by omega) (by omega)
      conv => lhs; rw [zb_252_1]
      by_cases c : zin v k = true
      · rw [if_pos c] at hh
        by_cases c2 : zin (zFail ρ (zdf v (zone k))) x = true
        · rw [c2, show zb1 true = 1 from rfl] at e1
          rw [c, c2]
          simp (disch := first | assumption | exact zk_252 | ((repeat (first | exact z1n | refine z1I ?_ | refine z1R ?_)); done) | exact rfl | omega | decide) only [zb_252_2, zb_252_3, zb_252_4, r_aload_0, r_gf_679, r_iload_1, r_baload, r_istore_2i, r_istore_2r, r_istore_2j, r_iconst, r_istore_3i, r_istore_3r, r_istore_3j, r_goto_w, r_iload_3, r_icmp_ge, r_iload_2, r_if_eq, r_ishr, r_iand, r_ishl, r_ixor, r_if_ne, r_goto, r_iinc_3i, r_iinc_3r, r_iinc_3j, r_iret, r_bret_0, r_bret_1, vm_isFailing, hh, zshl_z, zandn_n, e1, hz2, Bool.and_self, ↓reduceIte, not_true_eq_false, not_false_eq_true, Int.reduceEq, Int.reduceLE, Int.reduceLT, Int.reduceAdd, Int.reduceNeg, Int.reduceMul, Int.reduceSub, Int.reduceToNat]
          rw [if_neg (by omega)]
        · have c2 : zin (zFail ρ (zdf v (zone k))) x = false := by simpa using c2
          rw [c2, show zb1 false = 0 from rfl] at e1
          rw [c, c2]
          simp (disch := first | assumption | exact zk_252 | ((repeat (first | exact z1n | refine z1I ?_ | refine z1R ?_)); done) | exact rfl | omega | decide) only [zb_252_2, zb_252_3, zb_252_4, r_aload_0, r_gf_679, r_iload_1, r_baload, r_istore_2i, r_istore_2r, r_istore_2j, r_iconst, r_istore_3i, r_istore_3r, r_istore_3j, r_goto_w, r_iload_3, r_icmp_ge, r_iload_2, r_if_eq, r_ishr, r_iand, r_ishl, r_ixor, r_if_ne, r_goto, r_iinc_3i, r_iinc_3r, r_iinc_3j, r_iret, r_bret_0, r_bret_1, vm_isFailing, hh, zshl_z, zandn_n, e1, Bool.and_false, Bool.false_eq_true, ↓reduceIte, not_true_eq_false, not_false_eq_true, Int.reduceEq, Int.reduceLE, Int.reduceLT, Int.reduceAdd, Int.reduceNeg, Int.reduceMul, Int.reduceSub, Int.reduceToNat]
          rw [if_neg (by omega)]
      · rw [if_neg c] at hh
        have c : zin v k = false := by simpa using c
        rw [c]
        simp (disch := first | assumption | exact zk_252 | ((repeat (first | exact z1n | refine z1I ?_ | refine z1R ?_)); done) | exact rfl | omega | decide) only [zb_252_2, zb_252_3, zb_252_4, r_aload_0, r_gf_679, r_iload_1, r_baload, r_istore_2i, r_istore_2r, r_istore_2j, r_iconst, r_istore_3i, r_istore_3r, r_istore_3j, r_goto_w, r_iload_3, r_icmp_ge, r_iload_2, r_if_eq, r_ishr, r_iand, r_ishl, r_ixor, r_if_ne, r_goto, r_iinc_3i, r_iinc_3r, r_iinc_3j, r_iret, r_bret_0, r_bret_1, vm_isFailing, hh, Bool.false_and, Bool.false_eq_true, ↓reduceIte, not_true_eq_false, not_false_eq_true, Int.reduceEq, Int.reduceLE, Int.reduceLT, Int.reduceAdd, Int.reduceNeg, Int.reduceMul, Int.reduceSub, Int.reduceToNat]
        rw [if_neg (by omega)]
    · simp (disch := first | assumption | exact zk_252 | ((repeat (first | exact z1n | refine z1I ?_ | refine z1R ?_)); done) | exact rfl | omega | decide) only [zb_252_1, zb_252_5, r_aload_0, r_gf_679, r_iload_1, r_baload, r_istore_2i, r_istore_2r, r_istore_2j, r_iconst, r_istore_3i, r_istore_3r, r_istore_3j, r_goto_w, r_iload_3, r_icmp_ge, r_iload_2, r_if_eq, r_ishr, r_iand, r_ishl, r_ixor, r_if_ne, r_goto, r_iinc_3i, r_iinc_3r, r_iinc_3j, r_iret, r_bret_0, r_bret_1, vm_isFailing, Int.le_refl, ↓reduceIte, not_true_eq_false, not_false_eq_true, Int.reduceEq, Int.reduceLE, Int.reduceLT, Int.reduceAdd, Int.reduceNeg, Int.reduceMul, Int.reduceSub, Int.reduceToNat]
    · unfold zCut
      rw [q, Bool.true_and]
      cases zany (fun y => zin v y && zin (zFail ρ (zdf v (zone y))) x) 0 12 <;> rfl
  · have q : zin (zFail ρ v) x = false := by simpa using q
    rw [q, show zb1 false = 0 from rfl] at e0
    have hz0 := hz 0 (by omega) (by omega)
    simp (disch := first | assumption | exact zk_252 | ((repeat (first | exact z1n | refine z1I ?_ | refine z1R ?_)); done) | exact rfl | omega | decide) only [zb_252_0, r_aload_0, r_gf_679, r_iload_1, r_baload, r_istore_2i, r_istore_2r, r_istore_2j, r_iconst, r_istore_3i, r_istore_3r, r_istore_3j, r_goto_w, r_iload_3, r_icmp_ge, r_iload_2, r_if_eq, r_ishr, r_iand, r_ishl, r_ixor, r_if_ne, r_goto, r_iinc_3i, r_iinc_3r, r_iinc_3j, r_iret, r_bret_0, r_bret_1, vm_isFailing, e0, ↓reduceIte, not_true_eq_false, not_false_eq_true, Int.reduceEq, Int.reduceLE, Int.reduceLT, Int.reduceAdd, Int.reduceNeg, Int.reduceMul, Int.reduceSub, Int.reduceToNat]
    rw [hz0]
    unfold zCut
    rw [q]
    rfl
set_option maxRecDepth 20000 in
theorem m_cutAt (hd : 7 ≤ d) (hM : zMP s V) (hC : zMC ρ V) (hW : zWF ρ) {x z j : Int} (x0 : 0 ≤ x) (x1 : x < ρ.n) (hz : zI32 z) (hj : zI32 j) (hQ : ∀ V', zFm [169, 170, 189] [] V V' → Q (.inl (some (zi (if j < 0 then zCuts ρ x z else zCutj ρ x z j)))) (s, V')) : zcall d 253 [.ref 164, zi x, zi z, zi j] (s, V) Q := by
  obtain ⟨n0, n1, c0, c1⟩ := hW.1
  obtain ⟨z1, z2⟩ := hz
  obtain ⟨j1, j2⟩ := hj
  have hw := zTwo_rng n1
  have tM := hM.1
  have vm_s : V 164 0 = .ref 165 := (hM.2 0 (by decide)).1
  have tm_s : s.tg 165 = 20 := (hM.2 0 (by decide)).2.1
  have lm_s : s.ln 165 = 230 := (hM.2 0 (by decide)).2.2
  obtain ⟨d, rfl⟩ : ∃ e, d = e + 1 := ⟨d - 1, by omega⟩
  simp (disch := first | assumption | omega) only [zc_253]
  simp (disch := first | assumption | exact zk_253 | ((repeat (first | exact z1n | refine z1I ?_ | refine z1R ?_)); done) | exact rfl | omega | decide) only [zb_253_0, r_aload_0, r_iload_1, r_inv_2_0, r_inv_2_1, r_inv_2_2, r_inv_2_3, r_inv_2_4, r_K0, r_K1, r_iconst, r_istore_4i, r_istore_4r, r_istore_4j, r_istore_5i, r_istore_5r, r_istore_5j, r_istore_6i, r_istore_6r, r_istore_6j, r_goto_w, r_iload_6, r_gf_640, r_ial, r_ial30, r_ial32, r_ishl, r_icmp_ge, r_inv_1_0, r_inv_1_1, r_inv_1_2, r_inv_1_3, r_inv_1_4, r_iload_2, r_icmp_ne, r_if_eq, r_iload_4, r_iload_3, r_goto, r_iload_5, r_iinc_4i, r_iinc_4r, r_iinc_4j, r_iinc_6i, r_iinc_6r, r_iinc_6j, r_if_ge, r_iret, r_bret_0, r_bret_1, vm_s, ↓reduceIte, not_true_eq_false, not_false_eq_true, Int.reduceEq, Int.reduceLE, Int.reduceLT, Int.reduceAdd, Int.reduceNeg, Int.reduceMul, Int.reduceSub, Int.reduceToNat]
  refine m_laysFailing (by omega) hM hC hW x0 x1 (fun V1 f1 hF => ?_)
  have hM1 := hM.fm f1 (by decide)
  have u0 : V1 164 0 = .ref 165 := (f1.2 0 (by simp)).trans vm_s
  have gn : V1 165 0 = zi ρ.n := (hC.fm f1 (by decide)).1
  simp (disch := first | assumption | exact zk_253 | ((repeat (first | exact z1n | refine z1I ?_ | refine z1R ?_)); done) | exact rfl | omega | decide) only [r_aload_0, r_iload_1, r_inv_2_0, r_inv_2_1, r_inv_2_2, r_inv_2_3, r_inv_2_4, r_K0, r_K1, r_iconst, r_istore_4i, r_istore_4r, r_istore_4j, r_istore_5i, r_istore_5r, r_istore_5j, r_istore_6i, r_istore_6r, r_istore_6j, r_goto_w, r_iload_6, r_gf_640, r_ial, r_ial30, r_ial32, r_ishl, r_icmp_ge, r_inv_1_0, r_inv_1_1, r_inv_1_2, r_inv_1_3, r_inv_1_4, r_iload_2, r_icmp_ne, r_if_eq, r_iload_4, r_iload_3, r_goto, r_iload_5, r_iinc_4i, r_iinc_4r, r_iinc_4j, r_iinc_6i, r_iinc_6r, r_iinc_6j, r_if_ge, r_iret, r_bret_0, r_bret_1, vm_s, ↓reduceIte, not_true_eq_false, not_false_eq_true, Int.reduceEq, Int.reduceLE, Int.reduceLT, Int.reduceAdd, Int.reduceNeg, Int.reduceMul, Int.reduceSub, Int.reduceToNat]
  have hf1 : ∀ k, 0 ≤ k → -1 ≤ zfo (fun v f => if zCtj ρ x z j v = true then v else f) (-1) k ∧ zfo (fun v f => if zCtj ρ x z j v = true then v else f) (-1) k < k ∨ zfo (fun v f => if zCtj ρ x z j v = true then v else f) (-1) k = -1 := by
    intro k k0
    refine zfo_inv (fun k f => (-1 ≤ f ∧ f < k) ∨ f = -1) (Or.inr rfl) (fun i f i0 i1 hf => ?_) k0
    try dsimp only
    split
    · left; omega
    · rcases hf with hf | hf
      · left; omega
      · right; exact hf
  have step := z_chainI (F := fun k => zwp (zcall d) 253 Q (zB 253 1) [.ref 164, zi x, zi z, zi j, zi (zct (zCz ρ x z) k), zi (zfo (fun v f => if zCtj ρ x z j v = true then v else f) (-1) k), zi k] [] (s, V1)) (n := zTwo ρ.n) (by omega) (fun k k0 k1 => by
    obtain ⟨v, rfl⟩ : ∃ v : Nat, k = v := ⟨k.toNat, by omega⟩
    have hv : v < 2 ^ ρ.n.toNat := by unfold zTwo at k1; omega
    have hcr := zct_rng (p := zCz ρ x z) k0
    have hfr := hf1 v k0
    have hpr := zpop_rng (v := v)
    have hv4 : v < 4096 := by omega
    have hcut : ∀ K, zcall d 252 [.ref 164, zi (v : Nat)] (s, V1) K = if zCut ρ x v = true then K (.inl (some (zi 1))) (s, V1) else K (.inl (some (zi 0))) (s, V1) := fun K => m_isCut (by omega) hM1 hW hF hv
    rw [zct_s k0, zfo_s k0]
    have hcz : zCz ρ x z (v : Int) = (decide (zpop v = z) && zCut ρ x v) := by unfold zCz; rw [Int.toNat_natCast]
    have hct : zCtj ρ x z j (v : Int) = (zCz ρ x z v && decide (zct (zCz ρ x z) v = j)) := rfl
    rw [hct, hcz]
    generalize zct (zCz ρ x z) (v : Int) = m at hcr
    generalize zfo (fun v f => if zCtj ρ x z j v = true then v else f) (-1) (v : Int) = f at hfr
    conv => lhs; rw [zb_253_1]
    by_cases e1 : zpop v = z
    · subst e1
      by_cases e2 : zCut ρ x v = true
      · by_cases e3 : m = j
        · subst e3
          simp (disch := first | assumption | exact zk_253 | ((repeat (first | exact z1n | refine z1I ?_ | refine z1R ?_)); done) | exact rfl | omega | decide) only [zb_253_2, zb_253_3, zb_253_4, r_aload_0, r_iload_1, r_inv_2_0, r_inv_2_1, r_inv_2_2, r_inv_2_3, r_inv_2_4, r_K0, r_K1, r_iconst, r_istore_4i, r_istore_4r, r_istore_4j, r_istore_5i, r_istore_5r, r_istore_5j, r_istore_6i, r_istore_6r, r_istore_6j, r_goto_w, r_iload_6, r_gf_640, r_ial, r_ial30, r_ial32, r_ishl, r_icmp_ge, r_inv_1_0, r_inv_1_1, r_inv_1_2, r_inv_1_3, r_inv_1_4, r_iload_2, r_icmp_ne, r_if_eq, r_iload_4, r_iload_3, r_goto, r_iload_5, r_iinc_4i, r_iinc_4r, r_iinc_4j, r_iinc_6i, r_iinc_6r, r_iinc_6j, r_if_ge, r_iret, r_bret_0, r_bret_1, vm_s, u0, gn, zshl_two, m_size, e2, decide_true, Bool.and_self, ↓reduceIte, not_true_eq_false, not_false_eq_true, Int.reduceEq, Int.reduceLE, Int.reduceLT, Int.reduceAdd, Int.reduceNeg, Int.reduceMul, Int.reduceSub, Int.reduceToNat]
          rw [if_neg (by omega), hcut, if_pos e2]
          simp (disch := first | assumption | exact zk_253 | ((repeat (first | exact z1n | refine z1I ?_ | refine z1R ?_)); done) | exact rfl | omega | decide) only [zb_253_2, zb_253_3, zb_253_4, r_aload_0, r_iload_1, r_inv_2_0, r_inv_2_1, r_inv_2_2, r_inv_2_3, r_inv_2_4, r_K0, r_K1, r_iconst, r_istore_4i, r_istore_4r, r_istore_4j, r_istore_5i, r_istore_5r, r_istore_5j, r_istore_6i, r_istore_6r, r_istore_6j, r_goto_w, r_iload_6, r_gf_640, r_ial, r_ial30, r_ial32, r_ishl, r_icmp_ge, r_inv_1_0, r_inv_1_1, r_inv_1_2, r_inv_1_3, r_inv_1_4, r_iload_2, r_icmp_ne, r_if_eq, r_iload_4, r_iload_3, r_goto, r_iload_5, r_iinc_4i, r_iinc_4r, r_iinc_4j, r_iinc_6i, r_iinc_6r, r_iinc_6j, r_if_ge, r_iret, r_bret_0, r_bret_1, vm_s, decide_true, Bool.and_self, ↓reduceIte, not_true_eq_false, not_false_eq_true, Int.reduceEq, Int.reduceLE, Int.reduceLT, Int.reduceAdd, Int.reduceNeg, Int.reduceMul, Int.reduceSub, Int.reduceToNat]
        · simp (disch := first | assumption | exact zk_253 | ((repeat (first | exact z1n | refine z1I ?_ | refine z1R ?_)); done) | exact rfl | omega | decide) only [zb_253_2, zb_253_3, zb_253_4, r_aload_0, r_iload_1, r_inv_2_0, r_inv_2_1, r_inv_2_2, r_inv_2_3, r_inv_2_4, r_K0, r_K1, r_iconst, r_istore_4i, r_istore_4r, r_istore_4j, r_istore_5i, r_istore_5r, r_istore_5j, r_istore_6i, r_istore_6r, r_istore_6j, r_goto_w, r_iload_6, r_gf_640, r_ial, r_ial30, r_ial32, r_ishl, r_icmp_ge, r_inv_1_0, r_inv_1_1, r_inv_1_2, r_inv_1_3, r_inv_1_4, r_iload_2, r_icmp_ne, r_if_eq, r_iload_4, r_iload_3, r_goto, r_iload_5, r_iinc_4i, r_iinc_4r, r_iinc_4j, r_iinc_6i, r_iinc_6r, r_iinc_6j, r_if_ge, r_iret, r_bret_0, r_bret_1, vm_s, u0, gn, zshl_two, m_size, e2, e3, decide_true, decide_false, Bool.and_self, Bool.and_false, Bool.false_eq_true, ↓reduceIte, not_true_eq_false, not_false_eq_true, Int.reduceEq, Int.reduceLE, Int.reduceLT, Int.reduceAdd, Int.reduceNeg, Int.reduceMul, Int.reduceSub, Int.reduceToNat]
          rw [if_neg (by omega), hcut, if_pos e2]
          simp (disch := first | assumption | exact zk_253 | ((repeat (first | exact z1n | refine z1I ?_ | refine z1R ?_)); done) | exact rfl | omega | decide) only [zb_253_2, zb_253_3, zb_253_4, r_aload_0, r_iload_1, r_inv_2_0, r_inv_2_1, r_inv_2_2, r_inv_2_3, r_inv_2_4, r_K0, r_K1, r_iconst, r_istore_4i, r_istore_4r, r_istore_4j, r_istore_5i, r_istore_5r, r_istore_5j, r_istore_6i, r_istore_6r, r_istore_6j, r_goto_w, r_iload_6, r_gf_640, r_ial, r_ial30, r_ial32, r_ishl, r_icmp_ge, r_inv_1_0, r_inv_1_1, r_inv_1_2, r_inv_1_3, r_inv_1_4, r_iload_2, r_icmp_ne, r_if_eq, r_iload_4, r_iload_3, r_goto, r_iload_5, r_iinc_4i, r_iinc_4r, r_iinc_4j, r_iinc_6i, r_iinc_6r, r_iinc_6j, r_if_ge, r_iret, r_bret_0, r_bret_1, vm_s, e3, ↓reduceIte, not_true_eq_false, not_false_eq_true, Int.reduceEq, Int.reduceLE, Int.reduceLT, Int.reduceAdd, Int.reduceNeg, Int.reduceMul, Int.reduceSub, Int.reduceToNat]
      · have e2 : zCut ρ x v = false := by simpa using e2
        simp (disch := first | assumption | exact zk_253 | ((repeat (first | exact z1n | refine z1I ?_ | refine z1R ?_)); done) | exact rfl | omega | decide) only [zb_253_2, zb_253_3, zb_253_4, r_aload_0, r_iload_1, r_inv_2_0, r_inv_2_1, r_inv_2_2, r_inv_2_3, r_inv_2_4, r_K0, r_K1, r_iconst, r_istore_4i, r_istore_4r, r_istore_4j, r_istore_5i, r_istore_5r, r_istore_5j, r_istore_6i, r_istore_6r, r_istore_6j, r_goto_w, r_iload_6, r_gf_640, r_ial, r_ial30, r_ial32, r_ishl, r_icmp_ge, r_inv_1_0, r_inv_1_1, r_inv_1_2, r_inv_1_3, r_inv_1_4, r_iload_2, r_icmp_ne, r_if_eq, r_iload_4, r_iload_3, r_goto, r_iload_5, r_iinc_4i, r_iinc_4r, r_iinc_4j, r_iinc_6i, r_iinc_6r, r_iinc_6j, r_if_ge, r_iret, r_bret_0, r_bret_1, vm_s, u0, gn, zshl_two, m_size, e2, decide_true, Bool.and_false, Bool.false_and, Bool.false_eq_true, ↓reduceIte, not_true_eq_false, not_false_eq_true, Int.reduceEq, Int.reduceLE, Int.reduceLT, Int.reduceAdd, Int.reduceNeg, Int.reduceMul, Int.reduceSub, Int.reduceToNat]
        rw [if_neg (by omega), hcut, if_neg (by rw [e2]; decide)]
        simp (disch := first | assumption | exact zk_253 | ((repeat (first | exact z1n | refine z1I ?_ | refine z1R ?_)); done) | exact rfl | omega | decide) only [zb_253_2, zb_253_3, zb_253_4, r_aload_0, r_iload_1, r_inv_2_0, r_inv_2_1, r_inv_2_2, r_inv_2_3, r_inv_2_4, r_K0, r_K1, r_iconst, r_istore_4i, r_istore_4r, r_istore_4j, r_istore_5i, r_istore_5r, r_istore_5j, r_istore_6i, r_istore_6r, r_istore_6j, r_goto_w, r_iload_6, r_gf_640, r_ial, r_ial30, r_ial32, r_ishl, r_icmp_ge, r_inv_1_0, r_inv_1_1, r_inv_1_2, r_inv_1_3, r_inv_1_4, r_iload_2, r_icmp_ne, r_if_eq, r_iload_4, r_iload_3, r_goto, r_iload_5, r_iinc_4i, r_iinc_4r, r_iinc_4j, r_iinc_6i, r_iinc_6r, r_iinc_6j, r_if_ge, r_iret, r_bret_0, r_bret_1, vm_s, ↓reduceIte, not_true_eq_false, not_false_eq_true, Int.reduceEq, Int.reduceLE, Int.reduceLT, Int.reduceAdd, Int.reduceNeg, Int.reduceMul, Int.reduceSub, Int.reduceToNat]
    · simp (disch := first | assumption | exact zk_253 | ((repeat (first | exact z1n | refine z1I ?_ | refine z1R ?_)); done) | exact rfl | omega | decide) only [zb_253_2, zb_253_3, zb_253_4, r_aload_0, r_iload_1, r_inv_2_0, r_inv_2_1, r_inv_2_2, r_inv_2_3, r_inv_2_4, r_K0, r_K1, r_iconst, r_istore_4i, r_istore_4r, r_istore_4j, r_istore_5i, r_istore_5r, r_istore_5j, r_istore_6i, r_istore_6r, r_istore_6j, r_goto_w, r_iload_6, r_gf_640, r_ial, r_ial30, r_ial32, r_ishl, r_icmp_ge, r_inv_1_0, r_inv_1_1, r_inv_1_2, r_inv_1_3, r_inv_1_4, r_iload_2, r_icmp_ne, r_if_eq, r_iload_4, r_iload_3, r_goto, r_iload_5, r_iinc_4i, r_iinc_4r, r_iinc_4j, r_iinc_6i, r_iinc_6r, r_iinc_6j, r_if_ge, r_iret, r_bret_0, r_bret_1, vm_s, u0, gn, zshl_two, m_size, e1, decide_false, Bool.false_and, Bool.false_eq_true, ↓reduceIte, not_true_eq_false, not_false_eq_true, Int.reduceEq, Int.reduceLE, Int.reduceLT, Int.reduceAdd, Int.reduceNeg, Int.reduceMul, Int.reduceSub, Int.reduceToNat]
      rw [if_neg (by omega)])
  have e0 : zct (zCz ρ x z) 0 = 0 := rfl
  have e00 : zfo (fun v f => if zCtj ρ x z j v = true then v else f) (-1) 0 = -1 := rfl
  rw [e0, e00] at step
  rw [step]
  have hfo := zTh_fo (p := zCtj ρ x z j) (n := zTwo ρ.n) (by omega) (fun a b a0 ab _ h => zCtj_one a b a0 ab h)
  have hfr := hf1 (zTwo ρ.n) (by omega)
  have hcr := zct_rng (p := zCz ρ x z) (k := zTwo ρ.n) (by omega)
  rw [hfo] at hfr ⊢
  have := hQ V1 f1
  unfold zCutj zCuts at this
  generalize zTh (zCtj ρ x z j) (zTwo ρ.n) = f at hfr this
  generalize zct (zCz ρ x z) (zTwo ρ.n) = m at hcr this
  by_cases q : j < 0
  · rw [if_pos q] at this
    simp (disch := first | assumption | exact zk_253 | ((repeat (first | exact z1n | refine z1I ?_ | refine z1R ?_)); done) | exact rfl | omega | decide) only [zb_253_1, zb_253_5, zb_253_6, zb_253_7, r_aload_0, r_iload_1, r_inv_2_0, r_inv_2_1, r_inv_2_2, r_inv_2_3, r_inv_2_4, r_K0, r_K1, r_iconst, r_istore_4i, r_istore_4r, r_istore_4j, r_istore_5i, r_istore_5r, r_istore_5j, r_istore_6i, r_istore_6r, r_istore_6j, r_goto_w, r_iload_6, r_gf_640, r_ial, r_ial30, r_ial32, r_ishl, r_icmp_ge, r_inv_1_0, r_inv_1_1, r_inv_1_2, r_inv_1_3, r_inv_1_4, r_iload_2, r_icmp_ne, r_if_eq, r_iload_4, r_iload_3, r_goto, r_iload_5, r_iinc_4i, r_iinc_4r, r_iinc_4j, r_iinc_6i, r_iinc_6r, r_iinc_6j, r_if_ge, r_iret, r_bret_0, r_bret_1, vm_s, u0, gn, zshl_two, Int.le_refl, ↓reduceIte, not_true_eq_false, not_false_eq_true, Int.reduceEq, Int.reduceLE, Int.reduceLT, Int.reduceAdd, Int.reduceNeg, Int.reduceMul, Int.reduceSub, Int.reduceToNat]
    rw [if_neg (by omega)]
    exact this
  · rw [if_neg q] at this
    simp (disch := first | assumption | exact zk_253 | ((repeat (first | exact z1n | refine z1I ?_ | refine z1R ?_)); done) | exact rfl | omega | decide) only [zb_253_1, zb_253_5, zb_253_6, zb_253_7, r_aload_0, r_iload_1, r_inv_2_0, r_inv_2_1, r_inv_2_2, r_inv_2_3, r_inv_2_4, r_K0, r_K1, r_iconst, r_istore_4i, r_istore_4r, r_istore_4j, r_istore_5i, r_istore_5r, r_istore_5j, r_istore_6i, r_istore_6r, r_istore_6j, r_goto_w, r_iload_6, r_gf_640, r_ial, r_ial30, r_ial32, r_ishl, r_icmp_ge, r_inv_1_0, r_inv_1_1, r_inv_1_2, r_inv_1_3, r_inv_1_4, r_iload_2, r_icmp_ne, r_if_eq, r_iload_4, r_iload_3, r_goto, r_iload_5, r_iinc_4i, r_iinc_4r, r_iinc_4j, r_iinc_6i, r_iinc_6r, r_iinc_6j, r_if_ge, r_iret, r_bret_0, r_bret_1, vm_s, u0, gn, zshl_two, Int.le_refl, ↓reduceIte, not_true_eq_false, not_false_eq_true, Int.reduceEq, Int.reduceLE, Int.reduceLT, Int.reduceAdd, Int.reduceNeg, Int.reduceMul, Int.reduceSub, Int.reduceToNat]
    rw [if_pos (by omega)]
    exact this
end
