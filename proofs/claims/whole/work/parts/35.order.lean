/-! ORDER, 2: the model's order; own times -/
def zOwn (ρ : zR) (x : Int) : Int := zdiv (ρ.S 0 x * ρ.S 1 x + 99) 100
theorem zdiv_100 {y : Int} (h0 : 0 ≤ y) (h1 : y < 2147483648) : zdiv y 100 = y / 100 := by
  unfold zdiv
  rw [Int32.toInt_div_of_ne_right _ _ (by decide), z_rng (by omega) h1, z_rng (by omega) (by omega), Int.tdiv_eq_ediv_of_nonneg h0]
theorem zOwn_rng {ρ : zR} (hW : zWF ρ) {x : Int} (x0 : 0 ≤ x) (x1 : x < ρ.n) : 1 ≤ zOwn ρ x ∧ zOwn ρ x ≤ 400 := by
  obtain ⟨⟨a1, a2⟩, ⟨b1, b2⟩, -⟩ := hW.2.1 x x0 x1
  have h1 : 1 * 50 ≤ ρ.S 0 x * ρ.S 1 x := Int.mul_le_mul a1 b1 (by omega) (by omega)
  have h2 : ρ.S 0 x * ρ.S 1 x ≤ 100 * 400 := Int.mul_le_mul a2 b2 (by omega) (by omega)
  unfold zOwn
  rw [zdiv_100 (by omega) (by omega)]
  omega
section
variable {d : Nat} {s : zS} {V : zV} {Q : zO → zH → Prop} {ρ : zR} {h : zH}
set_option maxRecDepth 20000 in
theorem m_laysOrder (hd : 4 ≤ d) (hM : zMP s V) (hC : zMC ρ V) (hW : zWF ρ) (hQ : ∀ V', zFm [169, 170] [] V V' → (∀ x, 0 ≤ x → x < 12 → V' 169 x = zi (zNds ρ x : Nat)) → (∀ k, 0 ≤ k → k < ρ.n → V' 170 k = zi (zPlc ρ k)) → Q (.inl none) (s, V')) : zcall d 181 [.ref 164] (s, V) Q := by
  obtain ⟨n0, n1, c0, c1⟩ := hW.1
  have tM := hM.1
  have vm_s : V 164 0 = .ref 165 := (hM.2 0 (by decide)).1
  have tm_s : s.tg 165 = 20 := (hM.2 0 (by decide)).2.1
  have lm_s : s.ln 165 = 230 := (hM.2 0 (by decide)).2.2
  have vm_needs : V 164 7 = .ref 169 := (hM.2 4 (by decide)).1
  have tm_needs : s.tg 169 = 20 := (hM.2 4 (by decide)).2.1
  have lm_needs : s.ln 169 = 12 := (hM.2 4 (by decide)).2.2
  have vm_row : V 164 8 = .ref 170 := (hM.2 5 (by decide)).1
  have tm_row : s.tg 170 = 20 := (hM.2 5 (by decide)).2.1
  have lm_row : s.ln 170 = 12 := (hM.2 5 (by decide)).2.2
  obtain ⟨d, rfl⟩ : ∃ e, d = e + 1 := ⟨d - 1, by omega⟩
  simp (disch := first | assumption | omega) only [zc_181]
  simp (disch := first | assumption | exact zk_181 | ((repeat (first | exact z1n | refine z1I ?_ | refine z1R ?_)); done) | exact rfl | omega | decide) only [zb_181_0, r_aload_0, r_inv_1_0, r_inv_1_1, r_inv_1_2, r_inv_1_3, r_inv_1_4, r_K0, r_K1, r_iconst, r_istore_1i, r_istore_1r, r_istore_1j, r_istore_2i, r_istore_2r, r_istore_2j, r_goto_w, r_iload_2, r_gf_640, r_ial, r_ial30, r_ial32, r_icmp_ge, r_istore_3i, r_istore_3r, r_istore_3j, r_iload_1, r_iload_3, r_ishr, r_iand, r_icmp_eq, r_gf_647, r_ixor, r_if_eq, r_iinc_3i, r_iinc_3r, r_iinc_3j, r_goto, r_gf_648, r_iastore, r_ishl, r_ior, r_iinc_2i, r_iinc_2r, r_iinc_2j, r_ret, vm_s, vm_needs, vm_row, ↓reduceIte, not_true_eq_false, not_false_eq_true, Int.reduceEq, Int.reduceLE, Int.reduceLT, Int.reduceAdd, Int.reduceNeg, Int.reduceMul, Int.reduceSub, Int.reduceToNat]
  refine m_laysNeeds (by omega) hM hC hW (fun V1 f1 e1 => ?_)
  simp (disch := first | assumption | exact zk_181 | ((repeat (first | exact z1n | refine z1I ?_ | refine z1R ?_)); done) | exact rfl | omega | decide) only [r_aload_0, r_inv_1_0, r_inv_1_1, r_inv_1_2, r_inv_1_3, r_inv_1_4, r_K0, r_K1, r_iconst, r_istore_1i, r_istore_1r, r_istore_1j, r_istore_2i, r_istore_2r, r_istore_2j, r_goto_w, r_iload_2, r_gf_640, r_ial, r_ial30, r_ial32, r_icmp_ge, r_istore_3i, r_istore_3r, r_istore_3j, r_iload_1, r_iload_3, r_ishr, r_iand, r_icmp_eq, r_gf_647, r_ixor, r_if_eq, r_iinc_3i, r_iinc_3r, r_iinc_3j, r_goto, r_gf_648, r_iastore, r_ishl, r_ior, r_iinc_2i, r_iinc_2r, r_iinc_2j, r_ret, vm_s, vm_needs, vm_row, ↓reduceIte, not_true_eq_false, not_false_eq_true, Int.reduceEq, Int.reduceLE, Int.reduceLT, Int.reduceAdd, Int.reduceNeg, Int.reduceMul, Int.reduceSub, Int.reduceToNat]
  have f1' : zFm [169, 170] [] V V1 := f1.mono (fun r hr => by simp at hr; simp [hr]) (fun _ h => h)
  have hx := z_iter (i := 0) (n := ρ.n) (I := fun k (q : zV × Value) => zFm [169, 170] [] V q.1 ∧ (∀ x, 0 ≤ x → x < 12 → q.1 169 x = zi (zNds ρ x : Nat)) ∧ ∀ j, 0 ≤ j → j < k → q.1 170 j = zi (zPlc ρ j)) (P := fun k q => zwp (zcall d) 181 Q (zB 181 1) [.ref 164, zi (zDone ρ k.toNat : Nat), zi k, q.2] [] (s, q.1)) n0
  refine hx ?_ ?_ (V1, zJ) ⟨f1', e1, fun j _ _ => by omega⟩
  · rintro k ⟨V2, w⟩ k0 k1 ⟨f2, e2, s2⟩ ih
    dsimp only at f2 e2 s2 ih ⊢
    obtain ⟨i1, i2, i3, i4, i5⟩ := zDone_ok hW k.toNat (by omega)
    obtain ⟨⟨x0, x1⟩, x2, x3, x4⟩ := zPlc_ok hW k0 k1
    have g0 : V2 164 0 = .ref 165 := (f2.2 0 (by simp)).trans vm_s
    have g7 : V2 164 7 = .ref 169 := (f2.2 7 (by simp)).trans vm_needs
    have g8 : V2 164 8 = .ref 170 := (f2.2 8 (by simp)).trans vm_row
    have gn : V2 165 0 = zi ρ.n := (hC.fm f2 (by decide)).1
    have ho := zone_lt (x := zPlc ρ k) (by omega)
    generalize hdn : zDone ρ k.toNat = dn at i1 i2 i3 i4 i5 x2 x3 x4
    conv => rw [zb_181_1]
    simp (disch := first | assumption | exact zk_181 | ((repeat (first | exact z1n | refine z1I ?_ | refine z1R ?_)); done) | exact rfl | omega | decide) only [r_aload_0, r_inv_1_0, r_inv_1_1, r_inv_1_2, r_inv_1_3, r_inv_1_4, r_K0, r_K1, r_iconst, r_istore_1i, r_istore_1r, r_istore_1j, r_istore_2i, r_istore_2r, r_istore_2j, r_goto_w, r_iload_2, r_gf_640, r_ial, r_ial30, r_ial32, r_icmp_ge, r_istore_3i, r_istore_3r, r_istore_3j, r_iload_1, r_iload_3, r_ishr, r_iand, r_icmp_eq, r_gf_647, r_ixor, r_if_eq, r_iinc_3i, r_iinc_3r, r_iinc_3j, r_goto, r_gf_648, r_iastore, r_ishl, r_ior, r_iinc_2i, r_iinc_2r, r_iinc_2j, r_ret, vm_s, vm_needs, vm_row, g0, gn, ↓reduceIte, not_true_eq_false, not_false_eq_true, Int.reduceEq, Int.reduceLE, Int.reduceLT, Int.reduceAdd, Int.reduceNeg, Int.reduceMul, Int.reduceSub, Int.reduceToNat]
    rw [if_neg (by omega : ¬ ρ.n ≤ k)]
    have hin : ∀ j, 0 ≤ j → j < ρ.n → V2 169 j = zi (zNeeds ρ j : Nat) := fun j j0 j1 => by
      rw [e2 j j0 (by omega)]
      unfold zNds
      rw [if_pos j1]
    have inner := z_chainA (F := fun j => zwp (zcall d) 181 Q (zB 181 2) [.ref 164, zi (dn : Nat), zi k, zi j] [] (s, V2)) x0 (fun j j0 j1 => by
      have hj := hin j j0 (by omega)
      have hl := zNeeds_lt hW j
      have hdf := zdf_lt (b := dn) hl
      have hh := zhas (a := dn) (x := j) (by omega) j0 (by omega)
      have hb := x4 j j0 j1
      conv => lhs; rw [zb_181_2]
      by_cases q : zin dn j = true
      · rw [if_pos q] at hh
        simp (disch := first | assumption | exact zk_181 | ((repeat (first | exact z1n | refine z1I ?_ | refine z1R ?_)); done) | exact rfl | omega | decide) only [zb_181_3, r_aload_0, r_inv_1_0, r_inv_1_1, r_inv_1_2, r_inv_1_3, r_inv_1_4, r_K0, r_K1, r_iconst, r_istore_1i, r_istore_1r, r_istore_1j, r_istore_2i, r_istore_2r, r_istore_2j, r_goto_w, r_iload_2, r_gf_640, r_ial, r_ial30, r_ial32, r_icmp_ge, r_istore_3i, r_istore_3r, r_istore_3j, r_iload_1, r_iload_3, r_ishr, r_iand, r_icmp_eq, r_gf_647, r_ixor, r_if_eq, r_iinc_3i, r_iinc_3r, r_iinc_3j, r_goto, r_gf_648, r_iastore, r_ishl, r_ior, r_iinc_2i, r_iinc_2r, r_iinc_2j, r_ret, vm_s, vm_needs, vm_row, hh, g7, hj, zandn_n, ↓reduceIte, not_true_eq_false, not_false_eq_true, Int.reduceEq, Int.reduceLE, Int.reduceLT, Int.reduceAdd, Int.reduceNeg, Int.reduceMul, Int.reduceSub, Int.reduceToNat]
      · rw [if_neg q] at hh
        have hb2 : ¬ zdf (zNeeds ρ j) dn = 0 := fun c => by simp [q, c] at hb
        simp (disch := first | assumption | exact zk_181 | ((repeat (first | exact z1n | refine z1I ?_ | refine z1R ?_)); done) | exact rfl | omega | decide) only [zb_181_3, r_aload_0, r_inv_1_0, r_inv_1_1, r_inv_1_2, r_inv_1_3, r_inv_1_4, r_K0, r_K1, r_iconst, r_istore_1i, r_istore_1r, r_istore_1j, r_istore_2i, r_istore_2r, r_istore_2j, r_goto_w, r_iload_2, r_gf_640, r_ial, r_ial30, r_ial32, r_icmp_ge, r_istore_3i, r_istore_3r, r_istore_3j, r_iload_1, r_iload_3, r_ishr, r_iand, r_icmp_eq, r_gf_647, r_ixor, r_if_eq, r_iinc_3i, r_iinc_3r, r_iinc_3j, r_goto, r_gf_648, r_iastore, r_ishl, r_ior, r_iinc_2i, r_iinc_2r, r_iinc_2j, r_ret, vm_s, vm_needs, vm_row, hh, g7, hj, zandn_n, ↓reduceIte, not_true_eq_false, not_false_eq_true, Int.reduceEq, Int.reduceLE, Int.reduceLT, Int.reduceAdd, Int.reduceNeg, Int.reduceMul, Int.reduceSub, Int.reduceToNat]
        rw [if_neg (by omega)])
    rw [inner]
    have hj := hin (zPlc ρ k) x0 x1
    have hl := zNeeds_lt hW (zPlc ρ k)
    have hdf : zdf (zNeeds ρ (zPlc ρ k)) dn = 0 := (zdf_zero hl).mpr (fun y y0 y1 hy => x3 y y0 ((zNeeds_iff hW x0 x1 y0).mp hy))
    have hdf2 : ((zdf (zNeeds ρ (zPlc ρ k)) dn : Nat) : Int) = 0 := by rw [hdf]; rfl
    have hh := zhas (a := dn) (x := zPlc ρ k) (by omega) x0 (by omega)
    rw [x2, if_neg (by decide)] at hh
    have n1 : ∀ x, 0 ≤ x → x < 12 → zput V2 170 k (zi (zPlc ρ k)) 169 x = zi (zNds ρ x : Nat) := fun x y0 y1 => by
      rw [zput_r (by omega)]; exact e2 x y0 y1
    have n2 : ∀ j, 0 ≤ j → j < k + 1 → zput V2 170 k (zi (zPlc ρ k)) 170 j = zi (zPlc ρ j) := fun j j0 j1 => by
      by_cases q : j = k
      · rw [q, zput_at]
      · rw [zput_i q]; exact s2 j j0 (by omega)
    have hnext := ih (zput V2 170 k (zi (zPlc ρ k)), zi (zPlc ρ k)) ⟨f2.pr (by simp) (by omega), n1, n2⟩
    have hdk : zDone ρ (k + 1).toNat = dn ||| zone (zPlc ρ k) := by
      rw [show (k + 1).toNat = k.toNat + 1 by omega, ← hdn]
      rfl
    rw [hdk] at hnext
    conv => rw [zb_181_2]
    simp (disch := first | assumption | exact zk_181 | ((repeat (first | exact z1n | refine z1I ?_ | refine z1R ?_)); done) | exact rfl | omega | decide) only [zb_181_4, r_aload_0, r_inv_1_0, r_inv_1_1, r_inv_1_2, r_inv_1_3, r_inv_1_4, r_K0, r_K1, r_iconst, r_istore_1i, r_istore_1r, r_istore_1j, r_istore_2i, r_istore_2r, r_istore_2j, r_goto_w, r_iload_2, r_gf_640, r_ial, r_ial30, r_ial32, r_icmp_ge, r_istore_3i, r_istore_3r, r_istore_3j, r_iload_1, r_iload_3, r_ishr, r_iand, r_icmp_eq, r_gf_647, r_ixor, r_if_eq, r_iinc_3i, r_iinc_3r, r_iinc_3j, r_goto, r_gf_648, r_iastore, r_ishl, r_ior, r_iinc_2i, r_iinc_2r, r_iinc_2j, r_ret, vm_s, vm_needs, vm_row, hh, g7, g8, hj, zandn_n, hdf2, zshl_z, zor_n, ↓reduceIte, not_true_eq_false, not_false_eq_true, Int.reduceEq, Int.reduceLE, Int.reduceLT, Int.reduceAdd, Int.reduceNeg, Int.reduceMul, Int.reduceSub, Int.reduceToNat]
    exact hnext
  · rintro ⟨V2, w⟩ ⟨f2, e2, s2⟩
    dsimp only at f2 e2 s2 ⊢
    have g0 : V2 164 0 = .ref 165 := (f2.2 0 (by simp)).trans vm_s
    have gn : V2 165 0 = zi ρ.n := (hC.fm f2 (by decide)).1
    simp (disch := first | assumption | exact zk_181 | ((repeat (first | exact z1n | refine z1I ?_ | refine z1R ?_)); done) | exact rfl | omega | decide) only [zb_181_1, zb_181_5, r_aload_0, r_inv_1_0, r_inv_1_1, r_inv_1_2, r_inv_1_3, r_inv_1_4, r_K0, r_K1, r_iconst, r_istore_1i, r_istore_1r, r_istore_1j, r_istore_2i, r_istore_2r, r_istore_2j, r_goto_w, r_iload_2, r_gf_640, r_ial, r_ial30, r_ial32, r_icmp_ge, r_istore_3i, r_istore_3r, r_istore_3j, r_iload_1, r_iload_3, r_ishr, r_iand, r_icmp_eq, r_gf_647, r_ixor, r_if_eq, r_iinc_3i, r_iinc_3r, r_iinc_3j, r_goto, r_gf_648, r_iastore, r_ishl, r_ior, r_iinc_2i, r_iinc_2r, r_iinc_2j, r_ret, vm_s, vm_needs, vm_row, g0, gn, Int.le_refl, ↓reduceIte, not_true_eq_false, not_false_eq_true, Int.reduceEq, Int.reduceLE, Int.reduceLT, Int.reduceAdd, Int.reduceNeg, Int.reduceMul, Int.reduceSub, Int.reduceToNat]
    exact hQ V2 f2 e2 s2
end
/-! what is computed along the order -/
def zAlo (ρ : zR) (f : (Int → Int) → Int → Int) : Nat → Int → Int
  | 0 => fun _ => 0
  | k + 1 => fun y => if y = zPlc ρ k then f (zAlo ρ f k) (zPlc ρ k) else zAlo ρ f k y
/-- what x comes to: its longest chain; its bound -/
def zChO (ρ : zR) (A : Int → Int) (x : Int) : Int := zfo (fun c m => if ρ.K 0 c = x then (if m < A (ρ.K 1 c) + 1 then A (ρ.K 1 c) + 1 else m) else m) 0 ρ.c
def zBnS (ρ : zR) (A : Int → Int) (x k : Int) : Int := zfo (fun c m => if ρ.K 0 c = x then m + ρ.K 3 c * (if ρ.K 2 c < A (ρ.K 1 c) then ρ.K 2 c else A (ρ.K 1 c)) else m) (zOwn ρ x) k
def zBnO (ρ : zR) (A : Int → Int) (x : Int) : Int := if zBnS ρ A x ρ.c < 100000 then zBnS ρ A x ρ.c else 100000
def zChn (ρ : zR) : Int → Int := zAlo ρ (zChO ρ) ρ.n.toNat
def zBnd (ρ : zR) : Int → Int := zAlo ρ (zBnO ρ) ρ.n.toNat
theorem zAlo_rng {ρ : zR} {f : (Int → Int) → Int → Int} {B : Int → Int} (h0 : ∀ k, 0 ≤ k → 0 ≤ B k) (hm : ∀ k, 0 ≤ k → B k ≤ B (k + 1)) (hf : ∀ (k : Int) A x, 0 ≤ k → (∀ y, 0 ≤ A y ∧ A y ≤ B k) → 0 ≤ f A x ∧ f A x ≤ B (k + 1)) (k : Nat) : ∀ y, 0 ≤ zAlo ρ f k y ∧ zAlo ρ f k y ≤ B k := by
  induction k with
  | zero => intro y; exact ⟨Int.le_refl _, h0 0 (by omega)⟩
  | succ k ih =>
    intro y
    show 0 ≤ (if y = zPlc ρ k then f (zAlo ρ f k) (zPlc ρ k) else zAlo ρ f k y) ∧ (if y = zPlc ρ k then f (zAlo ρ f k) (zPlc ρ k) else zAlo ρ f k y) ≤ _
    split
    · exact hf k _ _ (by omega) ih
    · have h1 := ih y
      have h2 := hm k (by omega)
      exact ⟨h1.1, Int.le_trans h1.2 h2⟩
theorem zChO_rng {ρ : zR} (hc : 0 ≤ ρ.c) {A : Int → Int} {x B : Int} (hB : 0 ≤ B) (hA : ∀ y, 0 ≤ A y ∧ A y ≤ B) : 0 ≤ zChO ρ A x ∧ zChO ρ A x ≤ B + 1 := by
  refine zfo_inv (fun _ m => 0 ≤ m ∧ m ≤ B + 1) ⟨by omega, by omega⟩ (fun j y h1 h2 hy => ?_) hc
  have := hA (ρ.K 1 j)
  try dsimp only
  split
  · split <;> omega
  · exact hy
theorem zChK_rng {ρ : zR} (n : Nat) : ∀ y, 0 ≤ zAlo ρ (zChO ρ) n y ∧ (0 ≤ ρ.c → zAlo ρ (zChO ρ) n y ≤ n) := by
  by_cases hc : 0 ≤ ρ.c
  · intro y
    have := zAlo_rng (ρ := ρ) (f := zChO ρ) (B := fun k => k) (fun k h => h) (fun k _ => by omega) (fun k A x k0 h => zChO_rng hc k0 h) n y
    exact ⟨this.1, fun _ => this.2⟩
  · have hz : ∀ A x, zChO ρ A x = 0 := by
      intro A x
      unfold zChO zfo
      rw [show ρ.c.toNat = 0 by omega]
      rfl
    intro y
    have := zAlo_rng (ρ := ρ) (f := zChO ρ) (B := fun _ => 0) (fun k h => Int.le_refl _) (fun k _ => Int.le_refl _) (fun k A x k0 h => by rw [hz]; exact ⟨Int.le_refl _, Int.le_refl _⟩) n y
    exact ⟨this.1, fun h => absurd h hc⟩
theorem zBnS_rng {ρ : zR} (hW : zWF ρ) {A : Int → Int} (hA : ∀ y, 0 ≤ A y ∧ A y ≤ 100000) {x k : Int} (x0 : 0 ≤ x) (x1 : x < ρ.n) (k0 : 0 ≤ k) (k1 : k ≤ ρ.c) : 0 ≤ zBnS ρ A x k ∧ zBnS ρ A x k ≤ 400 + 1500 * k := by
  have ho := zOwn_rng hW x0 x1
  refine zfo_inv (fun k m => 0 ≤ m ∧ m ≤ 400 + 1500 * k) ⟨by omega, by omega⟩ (fun j y h1 h2 hy => ?_) k0
  obtain ⟨w0, w1, w2, w3, w4⟩ := hW.2.2.1 j h1 (by omega)
  have ha := hA (ρ.K 1 j)
  try dsimp only
  split
  · generalize he : (if ρ.K 2 j < A (ρ.K 1 j) then ρ.K 2 j else A (ρ.K 1 j)) = e
    have he1 : 0 ≤ e ∧ e ≤ 500 := by rw [← he]; split <;> omega
    have m1 : 0 ≤ ρ.K 3 j * e := Int.mul_nonneg (by omega) he1.1
    have m2 : ρ.K 3 j * e ≤ 3 * 500 := Int.mul_le_mul w3.2 he1.2 he1.1 (by omega)
    omega
  · omega
theorem zBnO_rng {ρ : zR} (hW : zWF ρ) {A : Int → Int} (hA : ∀ y, 0 ≤ A y ∧ A y ≤ 100000) {x : Int} (x0 : 0 ≤ x) (x1 : x < ρ.n) : 0 ≤ zBnO ρ A x ∧ zBnO ρ A x ≤ 100000 := by
  have := zBnS_rng hW hA x0 x1 hW.1.2.2.1 (Int.le_refl _)
  unfold zBnO
  split <;> omega
theorem zBnK_rng {ρ : zR} (hW : zWF ρ) (n : Nat) (hn : (n : Int) ≤ ρ.n) : ∀ y, 0 ≤ zAlo ρ (zBnO ρ) n y ∧ zAlo ρ (zBnO ρ) n y ≤ 100000 := by
  induction n with
  | zero => intro y; exact ⟨Int.le_refl _, by show (0 : Int) ≤ 100000; omega⟩
  | succ n ih =>
    intro y
    show 0 ≤ (if y = zPlc ρ n then zBnO ρ (zAlo ρ (zBnO ρ) n) (zPlc ρ n) else zAlo ρ (zBnO ρ) n y) ∧ (if y = zPlc ρ n then zBnO ρ (zAlo ρ (zBnO ρ) n) (zPlc ρ n) else zAlo ρ (zBnO ρ) n y) ≤ 100000
    split
    · obtain ⟨⟨x0, x1⟩, -⟩ := zPlc_ok hW (k := n) (by omega) (by omega)
      exact zBnO_rng hW (ih (by omega)) x0 x1
    · exact ih (by omega) y
/-- all are placed in the end -/
theorem zDone_all {ρ : zR} (hW : zWF ρ) {y : Int} (y0 : 0 ≤ y) (y1 : y < ρ.n) : zin (zDone ρ ρ.n.toNat) y = true := by
  have hn := hW.1
  obtain ⟨-, -, i3, -, -⟩ := zDone_ok hW ρ.n.toNat (by omega)
  exact zct_all (by omega) y y0 y1
