/-! FAILURE SETS, 1: what fails by a set, in both; the model's rows -/
/-- the set of what fails, behind k places of the order -/
def zFs (ρ : zR) (v : Nat) (k : Int) : Nat := zfo (fun j m => if zLack ρ (zPlc ρ j) m = true then m ||| zone (zPlc ρ j) else m) v k
def zFail (ρ : zR) (v : Nat) : Nat := zFs ρ v ρ.n
theorem zFs_s {ρ : zR} {v : Nat} {k : Int} (k0 : 0 ≤ k) : zFs ρ v (k + 1) = if zLack ρ (zPlc ρ k) (zFs ρ v k) = true then zFs ρ v k ||| zone (zPlc ρ k) else zFs ρ v k := zfo_s k0
theorem zFs_lt {ρ : zR} (hW : zWF ρ) {v : Nat} (hv : v < 4096) {k : Int} (k0 : 0 ≤ k) (k1 : k ≤ ρ.n) : zFs ρ v k < 4096 := by
  have hn := hW.1
  refine zfo_inv (fun _ m => m < 4096) hv (fun j y h1 h2 hy => ?_) k0
  obtain ⟨⟨x0, x1⟩, -⟩ := zPlc_ok hW h1 (by omega)
  try dsimp only
  split
  · exact zor_lt hy (zone_lt (by omega))
  · exact hy
theorem zFail_lt {ρ : zR} (hW : zWF ρ) {v : Nat} (hv : v < 4096) : zFail ρ v < 4096 := zFs_lt hW hv hW.1.1 (Int.le_refl _)
/-- is v a set that makes x fail, and no smaller one does -/
def zCut (ρ : zR) (x : Int) (v : Nat) : Bool := zin (zFail ρ v) x && !zany (fun y => zin v y && zin (zFail ρ (zdf v (zone y))) x) 0 12
/-- sets below k that are cuts of the size z -/
def zCz (ρ : zR) (x z : Int) (v : Int) : Bool := decide (zpop v.toNat = z) && zCut ρ x v.toNat
def zTwo (n : Int) : Int := ((2 ^ n.toNat : Nat) : Int)
theorem zTwo_rng {n : Int} (h : n ≤ 12) : 1 ≤ zTwo n ∧ zTwo n ≤ 4096 := by
  have h1 : 0 < 2 ^ n.toNat := Nat.pow_pos (by omega)
  have h2 : 2 ^ n.toNat ≤ 2 ^ 12 := Nat.pow_le_pow_right (by omega) (by omega)
  unfold zTwo
  omega
theorem zshl_two {n : Int} (h1 : 0 ≤ n) (h2 : n < 31) : zshl 1 n = zTwo n := zshl_1 h1 h2
section
variable {d : Nat} {s : zS} {V : zV} {Q : zO → zH → Prop} {a : Nat} {ρ : zR} {h : zH}
set_option maxRecDepth 20000 in
theorem c_failingBy (hd : 4 ≤ d) (hG : zGP s V) (hS : zSrd ρ V) (hP : zStP s V a) (hC : zStC ρ V a) (hW : zWF ρ) {v : Nat} (hv : v < 4096) : zcall d 30 [.ref 116, .ref a, zi (v : Nat)] (s, V) Q = Q (.inl (some (zi (zFail ρ v : Nat)))) (s, V) := by
  obtain ⟨n0, n1, c0, c1⟩ := hW.1
  obtain ⟨g1, ⟨-, g2, -, -⟩, ⟨-, g3, -, -⟩, -, g4, -⟩ := hG
  obtain ⟨sn, sp⟩ := hS
  have tO := hP.1
  obtain ⟨d, rfl⟩ : ∃ e, d = e + 1 := ⟨d - 1, by omega⟩
  simp (disch := first | assumption | omega) only [zc_30]
  simp (disch := first | assumption | exact zk_30 | ((repeat (first | exact z1n | refine z1I ?_ | refine z1R ?_)); done) | exact rfl | omega | decide) only [zb_30_0, r_iload_2, r_istore_3i, r_istore_3r, r_istore_3j, r_iconst, r_istore_4i, r_istore_4r, r_istore_4j, r_goto_w, r_iload_4, r_aload_0, r_gf_130, r_icmp_ge, r_aload_1, r_gf_129, r_ial, r_ial30, r_ial32, r_iload_3, r_inv_3_0, r_inv_3_1, r_inv_3_2, r_inv_3_3, r_inv_3_4, r_K0, r_K1, r_if_eq, r_ishl, r_ior, r_iinc_4i, r_iinc_4r, r_iinc_4j, r_goto, r_iret, r_bret_0, r_bret_1, ↓reduceIte, not_true_eq_false, not_false_eq_true, Int.reduceEq, Int.reduceLE, Int.reduceLT, Int.reduceAdd, Int.reduceNeg, Int.reduceMul, Int.reduceSub, Int.reduceToNat]
  refine (z_chainI (F := fun k => zwp (zcall d) 30 Q (zB 30 1) [.ref 116, .ref a, zi (v : Nat), zi (zFs ρ v k : Nat), zi k] [] (s, V)) n0 (fun k k0 k1 => ?_)).trans ?_
  · have hk := sp k k0 k1
    obtain ⟨⟨x0, x1⟩, -⟩ := zPlc_ok hW k0 k1
    have hl := zFs_lt hW hv k0 (by omega : k ≤ ρ.n)
    have ho := zone_lt (x := zPlc ρ k) (by omega)
    rw [zFs_s k0]
    generalize zFs ρ v k = m at hl
    generalize zPlc ρ k = x at hk x0 x1 ho
    conv => lhs; rw [zb_30_1]
    simp (disch := first | assumption | exact zk_30 | ((repeat (first | exact z1n | refine z1I ?_ | refine z1R ?_)); done) | exact rfl | omega | decide) only [zb_30_2, r_iload_2, r_istore_3i, r_istore_3r, r_istore_3j, r_iconst, r_istore_4i, r_istore_4r, r_istore_4j, r_goto_w, r_iload_4, r_aload_0, r_gf_130, r_icmp_ge, r_aload_1, r_gf_129, r_ial, r_ial30, r_ial32, r_iload_3, r_inv_3_0, r_inv_3_1, r_inv_3_2, r_inv_3_3, r_inv_3_4, r_K0, r_K1, r_if_eq, r_ishl, r_ior, r_iinc_4i, r_iinc_4r, r_iinc_4j, r_goto, r_iret, r_bret_0, r_bret_1, sn, g2, hk, c_lack (hC := hC), zshl_z, zor_n, ↓reduceIte, not_true_eq_false, not_false_eq_true, Int.reduceEq, Int.reduceLE, Int.reduceLT, Int.reduceAdd, Int.reduceNeg, Int.reduceMul, Int.reduceSub, Int.reduceToNat]
    rw [if_neg (by omega)]
    by_cases q : zLack ρ x m = true
    · rw [if_pos q, if_pos q]
    · rw [if_neg q, if_neg q]
  · simp (disch := first | assumption | exact zk_30 | ((repeat (first | exact z1n | refine z1I ?_ | refine z1R ?_)); done) | exact rfl | omega | decide) only [zb_30_1, zb_30_3, r_iload_2, r_istore_3i, r_istore_3r, r_istore_3j, r_iconst, r_istore_4i, r_istore_4r, r_istore_4j, r_goto_w, r_iload_4, r_aload_0, r_gf_130, r_icmp_ge, r_aload_1, r_gf_129, r_ial, r_ial30, r_ial32, r_iload_3, r_inv_3_0, r_inv_3_1, r_inv_3_2, r_inv_3_3, r_inv_3_4, r_K0, r_K1, r_if_eq, r_ishl, r_ior, r_iinc_4i, r_iinc_4r, r_iinc_4j, r_goto, r_iret, r_bret_0, r_bret_1, sn, Int.le_refl, ↓reduceIte, not_true_eq_false, not_false_eq_true, Int.reduceEq, Int.reduceLE, Int.reduceLT, Int.reduceAdd, Int.reduceNeg, Int.reduceMul, Int.reduceSub, Int.reduceToNat]
    rfl
set_option maxRecDepth 20000 in
theorem m_failing (hd : 5 ≤ d) (hM : zMP s V) (hC : zMC ρ V) (hW : zWF ρ) (hR : ∀ k, 0 ≤ k → k < ρ.n → V 170 k = zi (zPlc ρ k)) {v : Nat} (hv : v < 4096) : zcall d 248 [.ref 164, zi (v : Nat)] (s, V) Q = Q (.inl (some (zi (zFail ρ v : Nat)))) (s, V) := by
  obtain ⟨n0, n1, c0, c1⟩ := hW.1
  have tM := hM.1
  have vm_s : V 164 0 = .ref 165 := (hM.2 0 (by decide)).1
  have tm_s : s.tg 165 = 20 := (hM.2 0 (by decide)).2.1
  have lm_s : s.ln 165 = 230 := (hM.2 0 (by decide)).2.2
  have vm_row : V 164 8 = .ref 170 := (hM.2 5 (by decide)).1
  have tm_row : s.tg 170 = 20 := (hM.2 5 (by decide)).2.1
  have lm_row : s.ln 170 = 12 := (hM.2 5 (by decide)).2.2
  have e := hC.1
  obtain ⟨d, rfl⟩ : ∃ e, d = e + 1 := ⟨d - 1, by omega⟩
  simp (disch := first | assumption | omega) only [zc_248]
  simp (disch := first | assumption | exact zk_248 | ((repeat (first | exact z1n | refine z1I ?_ | refine z1R ?_)); done) | exact rfl | omega | decide) only [zb_248_0, r_iload_1, r_istore_2i, r_istore_2r, r_istore_2j, r_iconst, r_istore_3i, r_istore_3r, r_istore_3j, r_goto_w, r_iload_3, r_aload_0, r_gf_640, r_ial, r_ial30, r_ial32, r_icmp_ge, r_iload_2, r_gf_648, r_inv_3_0, r_inv_3_1, r_inv_3_2, r_inv_3_3, r_inv_3_4, r_K0, r_K1, r_if_eq, r_ishl, r_goto, r_ior, r_iinc_3i, r_iinc_3r, r_iinc_3j, r_iret, r_bret_0, r_bret_1, vm_s, vm_row, ↓reduceIte, not_true_eq_false, not_false_eq_true, Int.reduceEq, Int.reduceLE, Int.reduceLT, Int.reduceAdd, Int.reduceNeg, Int.reduceMul, Int.reduceSub, Int.reduceToNat]
  refine (z_chainI (F := fun k => zwp (zcall d) 248 Q (zB 248 1) [.ref 164, zi (v : Nat), zi (zFs ρ v k : Nat), zi k] [] (s, V)) n0 (fun k k0 k1 => ?_)).trans ?_
  · have hk := hR k k0 k1
    obtain ⟨⟨x0, x1⟩, -⟩ := zPlc_ok hW k0 k1
    have hl := zFs_lt hW hv k0 (by omega : k ≤ ρ.n)
    have ho := zone_lt (x := zPlc ρ k) (by omega)
    rw [zFs_s k0]
    generalize zFs ρ v k = m at hl
    generalize zPlc ρ k = x at hk x0 x1 ho
    have z0 := zor_n (a := m) (b := 0) (by omega) (by omega)
    rw [Nat.or_zero, show ((0 : Nat) : Int) = 0 from rfl] at z0
    conv => lhs; rw [zb_248_1]
    simp (disch := first | assumption | exact zk_248 | ((repeat (first | exact z1n | refine z1I ?_ | refine z1R ?_)); done) | exact rfl | omega | decide) only [zb_248_2, zb_248_3, r_iload_1, r_istore_2i, r_istore_2r, r_istore_2j, r_iconst, r_istore_3i, r_istore_3r, r_istore_3j, r_goto_w, r_iload_3, r_aload_0, r_gf_640, r_ial, r_ial30, r_ial32, r_icmp_ge, r_iload_2, r_gf_648, r_inv_3_0, r_inv_3_1, r_inv_3_2, r_inv_3_3, r_inv_3_4, r_K0, r_K1, r_if_eq, r_ishl, r_goto, r_ior, r_iinc_3i, r_iinc_3r, r_iinc_3j, r_iret, r_bret_0, r_bret_1, vm_s, vm_row, e, hk, m_isCutOff (hC := hC), zshl_z, zor_n, z0, ↓reduceIte, not_true_eq_false, not_false_eq_true, Int.reduceEq, Int.reduceLE, Int.reduceLT, Int.reduceAdd, Int.reduceNeg, Int.reduceMul, Int.reduceSub, Int.reduceToNat]
    rw [if_neg (by omega)]
    by_cases q : zLack ρ x m = true
    · rw [if_pos q, if_pos q]
    · rw [if_neg q, if_neg q]
  · simp (disch := first | assumption | exact zk_248 | ((repeat (first | exact z1n | refine z1I ?_ | refine z1R ?_)); done) | exact rfl | omega | decide) only [zb_248_1, zb_248_4, r_iload_1, r_istore_2i, r_istore_2r, r_istore_2j, r_iconst, r_istore_3i, r_istore_3r, r_istore_3j, r_goto_w, r_iload_3, r_aload_0, r_gf_640, r_ial, r_ial30, r_ial32, r_icmp_ge, r_iload_2, r_gf_648, r_inv_3_0, r_inv_3_1, r_inv_3_2, r_inv_3_3, r_inv_3_4, r_K0, r_K1, r_if_eq, r_ishl, r_goto, r_ior, r_iinc_3i, r_iinc_3r, r_iinc_3j, r_iret, r_bret_0, r_bret_1, vm_s, vm_row, e, Int.le_refl, ↓reduceIte, not_true_eq_false, not_false_eq_true, Int.reduceEq, Int.reduceLE, Int.reduceLT, Int.reduceAdd, Int.reduceNeg, Int.reduceMul, Int.reduceSub, Int.reduceToNat]
    rfl
/-- the model's row of what makes x fail -/
def zMF (ρ : zR) (x : Int) (V : zV) : Prop := ∀ v : Nat, v < 2 ^ ρ.n.toNat → V 189 v = zi (zb1 (zin (zFail ρ v) x))
set_option maxRecDepth 20000 in
theorem m_laysFailing (hd : 6 ≤ d) (hM : zMP s V) (hC : zMC ρ V) (hW : zWF ρ) {x : Int} (x0 : 0 ≤ x) (x1 : x < ρ.n) (hQ : ∀ V', zFm [169, 170, 189] [] V V' → zMF ρ x V' → Q (.inl none) (s, V')) : zcall d 250 [.ref 164, zi x] (s, V) Q := by
  obtain ⟨n0, n1, c0, c1⟩ := hW.1
  have tM := hM.1
  have vm_s : V 164 0 = .ref 165 := (hM.2 0 (by decide)).1
  have tm_s : s.tg 165 = 20 := (hM.2 0 (by decide)).2.1
  have lm_s : s.ln 165 = 230 := (hM.2 0 (by decide)).2.2
  have vm_isFailing : V 164 39 = .ref 189 := (hM.2 24 (by decide)).1
  have tm_isFailing : s.tg 189 = 23 := (hM.2 24 (by decide)).2.1
  have lm_isFailing : s.ln 189 = 4096 := (hM.2 24 (by decide)).2.2
  obtain ⟨d, rfl⟩ : ∃ e, d = e + 1 := ⟨d - 1, by omega⟩
  simp (disch := first | assumption | omega) only [zc_250]
  simp (disch := first | assumption | exact zk_250 | ((repeat (first | exact z1n | refine z1I ?_ | refine z1R ?_)); done) | exact rfl | omega | decide) only [zb_250_0, r_aload_0, r_inv_1_0, r_inv_1_1, r_inv_1_2, r_inv_1_3, r_inv_1_4, r_K0, r_K1, r_iconst, r_istore_2i, r_istore_2r, r_istore_2j, r_goto_w, r_iload_2, r_gf_640, r_ial, r_ial30, r_ial32, r_ishl, r_icmp_ge, r_gf_679, r_inv_2_0, r_inv_2_1, r_inv_2_2, r_inv_2_3, r_inv_2_4, r_iload_1, r_ishr, r_iand, r_icmp_ne, r_goto, r_bastore, r_iinc_2i, r_iinc_2r, r_iinc_2j, r_ret, vm_s, vm_isFailing, ↓reduceIte, not_true_eq_false, not_false_eq_true, Int.reduceEq, Int.reduceLE, Int.reduceLT, Int.reduceAdd, Int.reduceNeg, Int.reduceMul, Int.reduceSub, Int.reduceToNat]
  refine m_laysOrder (by omega) hM hC hW (fun V1 f1 e1 e2 => ?_)
  simp (disch := first | assumption | exact zk_250 | ((repeat (first | exact z1n | refine z1I ?_ | refine z1R ?_)); done) | exact rfl | omega | decide) only [r_aload_0, r_inv_1_0, r_inv_1_1, r_inv_1_2, r_inv_1_3, r_inv_1_4, r_K0, r_K1, r_iconst, r_istore_2i, r_istore_2r, r_istore_2j, r_goto_w, r_iload_2, r_gf_640, r_ial, r_ial30, r_ial32, r_ishl, r_icmp_ge, r_gf_679, r_inv_2_0, r_inv_2_1, r_inv_2_2, r_inv_2_3, r_inv_2_4, r_iload_1, r_ishr, r_iand, r_icmp_ne, r_goto, r_bastore, r_iinc_2i, r_iinc_2r, r_iinc_2j, r_ret, vm_s, vm_isFailing, ↓reduceIte, not_true_eq_false, not_false_eq_true, Int.reduceEq, Int.reduceLE, Int.reduceLT, Int.reduceAdd, Int.reduceNeg, Int.reduceMul, Int.reduceSub, Int.reduceToNat]
  obtain ⟨w0, w1⟩ := zTwo_rng n1
  have f1' : zFm [169, 170, 189] [] V V1 := f1.mono (fun r hr => by simp at hr; simp; omega) (fun _ h => h)
  have hx := z_iter (i := 0) (n := zTwo ρ.n) (I := fun k (q : zV) => zFm [169, 170, 189] [] V q ∧ (∀ j, 0 ≤ j → j < ρ.n → q 170 j = zi (zPlc ρ j)) ∧ ∀ v : Nat, (v : Int) < k → q 189 v = zi (zb1 (zin (zFail ρ v) x))) (P := fun k q => zwp (zcall d) 250 Q (zB 250 1) [.ref 164, zi x, zi k] [] (s, q)) (by omega)
  refine hx ?_ ?_ V1 ⟨f1', e2, fun v hv => by omega⟩
  · rintro k V2 k0 k1 ⟨f2, g2, s2⟩ ih
    obtain ⟨v, rfl⟩ : ∃ v : Nat, k = v := ⟨k.toNat, by omega⟩
    have hM2 := hM.fm f2 (by decide)
    have hC2 := hC.fm f2 (by decide)
    have u0 : V2 164 0 = .ref 165 := (f2.2 0 (by simp)).trans vm_s
    have u1 : V2 164 39 = .ref 189 := (f2.2 39 (by simp)).trans vm_isFailing
    have gn : V2 165 0 = zi ρ.n := hC2.1
    have hv : v < 4096 := by omega
    have hl := zFail_lt hW hv
    have hh := zhas (a := zFail ρ v) (x := x) (by omega) x0 (by omega)
    have := ih (zput V2 189 (v : Int) (zi (zb1 (zin (zFail ρ v) x)))) ⟨f2.pr (by simp) (by omega), fun j j0 j1 => by rw [zput_r (by omega)]; exact g2 j j0 j1, fun u hu => by
      by_cases q : u = v
      · rw [q, zput_at]
      · rw [zput_i (by omega)]; exact s2 u (by omega)⟩
    conv => rw [zb_250_1]
    by_cases q : zin (zFail ρ v) x = true
    · rw [if_pos q] at hh
      rw [q, show zb1 true = 1 from rfl] at this
      simp (disch := first | assumption | exact zk_250 | ((repeat (first | exact z1n | refine z1I ?_ | refine z1R ?_)); done) | exact rfl | omega | decide) only [zb_250_2, zb_250_3, r_aload_0, r_inv_1_0, r_inv_1_1, r_inv_1_2, r_inv_1_3, r_inv_1_4, r_K0, r_K1, r_iconst, r_istore_2i, r_istore_2r, r_istore_2j, r_goto_w, r_iload_2, r_gf_640, r_ial, r_ial30, r_ial32, r_ishl, r_icmp_ge, r_gf_679, r_inv_2_0, r_inv_2_1, r_inv_2_2, r_inv_2_3, r_inv_2_4, r_iload_1, r_ishr, r_iand, r_icmp_ne, r_goto, r_bastore, r_iinc_2i, r_iinc_2r, r_iinc_2j, r_ret, vm_s, vm_isFailing, u0, u1, gn, zshl_two, m_failing (hC := hC2), hh, ↓reduceIte, not_true_eq_false, not_false_eq_true, Int.reduceEq, Int.reduceLE, Int.reduceLT, Int.reduceAdd, Int.reduceNeg, Int.reduceMul, Int.reduceSub, Int.reduceToNat]
      rw [if_neg (by omega)]
      exact this
    · rw [if_neg q] at hh
      rw [show zin (zFail ρ v) x = false by simpa using q, show zb1 false = 0 from rfl] at this
      simp (disch := first | assumption | exact zk_250 | ((repeat (first | exact z1n | refine z1I ?_ | refine z1R ?_)); done) | exact rfl | omega | decide) only [zb_250_2, zb_250_3, r_aload_0, r_inv_1_0, r_inv_1_1, r_inv_1_2, r_inv_1_3, r_inv_1_4, r_K0, r_K1, r_iconst, r_istore_2i, r_istore_2r, r_istore_2j, r_goto_w, r_iload_2, r_gf_640, r_ial, r_ial30, r_ial32, r_ishl, r_icmp_ge, r_gf_679, r_inv_2_0, r_inv_2_1, r_inv_2_2, r_inv_2_3, r_inv_2_4, r_iload_1, r_ishr, r_iand, r_icmp_ne, r_goto, r_bastore, r_iinc_2i, r_iinc_2r, r_iinc_2j, r_ret, vm_s, vm_isFailing, u0, u1, gn, zshl_two, m_failing (hC := hC2), hh, ↓reduceIte, not_true_eq_false, not_false_eq_true, Int.reduceEq, Int.reduceLE, Int.reduceLT, Int.reduceAdd, Int.reduceNeg, Int.reduceMul, Int.reduceSub, Int.reduceToNat]
      rw [if_neg (by omega)]
      exact this
  · rintro V2 ⟨f2, g2, s2⟩
    have u0 : V2 164 0 = .ref 165 := (f2.2 0 (by simp)).trans vm_s
    have gn : V2 165 0 = zi ρ.n := (hC.fm f2 (by decide)).1
    have := hQ V2 f2 (fun v hv => s2 v (by unfold zTwo; omega))
    simp (disch := first | assumption | exact zk_250 | ((repeat (first | exact z1n | refine z1I ?_ | refine z1R ?_)); done) | exact rfl | omega | decide) only [zb_250_1, zb_250_4, r_aload_0, r_inv_1_0, r_inv_1_1, r_inv_1_2, r_inv_1_3, r_inv_1_4, r_K0, r_K1, r_iconst, r_istore_2i, r_istore_2r, r_istore_2j, r_goto_w, r_iload_2, r_gf_640, r_ial, r_ial30, r_ial32, r_ishl, r_icmp_ge, r_gf_679, r_inv_2_0, r_inv_2_1, r_inv_2_2, r_inv_2_3, r_inv_2_4, r_iload_1, r_ishr, r_iand, r_icmp_ne, r_goto, r_bastore, r_iinc_2i, r_iinc_2r, r_iinc_2j, r_ret, vm_s, vm_isFailing, u0, gn, zshl_two, Int.le_refl, ↓reduceIte, not_true_eq_false, not_false_eq_true, Int.reduceEq, Int.reduceLE, Int.reduceLT, Int.reduceAdd, Int.reduceNeg, Int.reduceMul, Int.reduceSub, Int.reduceToNat]
    exact this
set_option maxRecDepth 20000 in
theorem m_size (hd : 1 ≤ d) {v : Nat} (hv : v < 4096) : zcall d 251 [zi (v : Nat)] h Q = Q (.inl (some (zi (zpop v)))) h := by
  obtain ⟨d, rfl⟩ : ∃ e, d = e + 1 := ⟨d - 1, by omega⟩
  simp (disch := first | assumption | omega) only [zc_251]
  simp (disch := first | assumption | exact zk_251 | ((repeat (first | exact z1n | refine z1I ?_ | refine z1R ?_)); done) | exact rfl | omega | decide) only [zb_251_0, r_iconst, r_istore_1i, r_istore_1r, r_istore_1j, r_istore_2i, r_istore_2r, r_istore_2j, r_goto_w, r_iload_2, r_icmp_ge, r_iload_1, r_iload_0, r_ishr, r_iand, r_iadd, r_iinc_2i, r_iinc_2r, r_iinc_2j, r_goto, r_iret, r_bret_0, r_bret_1, ↓reduceIte, not_true_eq_false, not_false_eq_true, Int.reduceEq, Int.reduceLE, Int.reduceLT, Int.reduceAdd, Int.reduceNeg, Int.reduceMul, Int.reduceSub, Int.reduceToNat]
  unfold zpop
  refine (z_chainI (F := fun k => zwp (zcall d) 251 Q (zB 251 1) [zi (v : Nat), zi (zct (zin v) k), zi k] [] h) (n := 12) (by omega) (fun k k0 k1 => ?_)).trans ?_
  · have hh := zhas (a := v) (x := k) (by omega) k0 (by omega)
    have hr := zct_rng (p := zin v) k0
    rw [zct_s k0]
    generalize zct (zin v) k = m at hr
    conv => lhs; rw [zb_251_1]
    by_cases q : zin v k = true
    · rw [if_pos q] at hh ⊢
      simp (disch := first | assumption | exact zk_251 | ((repeat (first | exact z1n | refine z1I ?_ | refine z1R ?_)); done) | exact rfl | omega | decide) only [r_iconst, r_istore_1i, r_istore_1r, r_istore_1j, r_istore_2i, r_istore_2r, r_istore_2j, r_goto_w, r_iload_2, r_icmp_ge, r_iload_1, r_iload_0, r_ishr, r_iand, r_iadd, r_iinc_2i, r_iinc_2r, r_iinc_2j, r_goto, r_iret, r_bret_0, r_bret_1, hh, ↓reduceIte, not_true_eq_false, not_false_eq_true, Int.reduceEq, Int.reduceLE, Int.reduceLT, Int.reduceAdd, Int.reduceNeg, Int.reduceMul, Int.reduceSub, Int.reduceToNat]
      rw [if_neg (by omega)]
    · rw [if_neg q] at hh ⊢
      simp (disch := first | assumption | exact zk_251 | ((repeat (first | exact z1n | refine z1I ?_ | refine z1R ?_)); done) | exact rfl | omega | decide) only [r_iconst, r_istore_1i, r_istore_1r, r_istore_1j, r_istore_2i, r_istore_2r, r_istore_2j, r_goto_w, r_iload_2, r_icmp_ge, r_iload_1, r_iload_0, r_ishr, r_iand, r_iadd, r_iinc_2i, r_iinc_2r, r_iinc_2j, r_goto, r_iret, r_bret_0, r_bret_1, hh, Int.add_zero, ↓reduceIte, not_true_eq_false, not_false_eq_true, Int.reduceEq, Int.reduceLE, Int.reduceLT, Int.reduceAdd, Int.reduceNeg, Int.reduceMul, Int.reduceSub, Int.reduceToNat]
      rw [if_neg (by omega)]
  · simp (disch := first | assumption | exact zk_251 | ((repeat (first | exact z1n | refine z1I ?_ | refine z1R ?_)); done) | exact rfl | omega | decide) only [zb_251_1, zb_251_2, r_iconst, r_istore_1i, r_istore_1r, r_istore_1j, r_istore_2i, r_istore_2r, r_istore_2j, r_goto_w, r_iload_2, r_icmp_ge, r_iload_1, r_iload_0, r_ishr, r_iand, r_iadd, r_iinc_2i, r_iinc_2r, r_iinc_2j, r_goto, r_iret, r_bret_0, r_bret_1, Int.le_refl, ↓reduceIte, not_true_eq_false, not_false_eq_true, Int.reduceEq, Int.reduceLE, Int.reduceLT, Int.reduceAdd, Int.reduceNeg, Int.reduceMul, Int.reduceSub, Int.reduceToNat]
    rfl
end
