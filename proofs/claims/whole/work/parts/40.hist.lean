/-! HISTORY: what undo brings back, in both -/
def zKad (κ : Nat → Nat) : Prop := (∀ k, k < 4 → κ k = 44 ∨ κ k = 62 ∨ κ k = 80 ∨ κ k = 98) ∧ ∀ i j, i < 4 → j < 4 → κ i = κ j → i = j
def zHiP (s : zS) (V : zV) (κ : Nat → Nat) : Prop := s.tg 42 = 3 ∧ V 42 0 = .ref 43 ∧ s.tg 43 = 26 ∧ s.ln 43 = 4 ∧ (∀ k : Nat, k < 4 → V 43 k = .ref (κ k) ∧ zStP s V (κ k)) ∧ zKad κ
def zHiC (p : Int) (H : Nat → zR) (V : zV) (κ : Nat → Nat) : Prop := V 42 1 = zi p ∧ ∀ k : Nat, (k : Int) < p → zStC (H k) V (κ k)
/-- the past with one state more -/
def zHiQ (p : Int) : Nat := if p = 4 then 3 else p.toNat
def zHiN (p : Int) (H : Nat → zR) (ρ : zR) (k : Nat) : zR := if k < zHiQ p then H (if p = 4 then k + 1 else k) else ρ
section
variable {d : Nat} {s : zS} {V : zV} {Q : zO → zH → Prop} {a : Nat} {ρ : zR} {h : zH} {κ : Nat → Nat} {p : Int} {H : Nat → zR}
theorem zKad.apart (hK : zKad κ) {i j : Nat} (hi : i < 4) (hj : j < 4) (h : i ≠ j) : κ i + 18 ≤ κ j ∨ κ j + 18 ≤ κ i := by
  have h1 := hK.1 i hi
  have h2 := hK.1 j hj
  have h3 : κ i ≠ κ j := fun e => h (hK.2 i j hi hj e)
  omega
set_option maxRecDepth 20000 in
theorem c_dropOldest (hd : 1 ≤ d) (hP : zHiP s V κ) (hC : zHiC 4 H V κ) (hQ : ∀ V' κ', zFrg 42 44 V V' → zHiP s V' κ' → zHiC 3 (fun k => H (k + 1)) V' κ' → Q (.inl none) (s, V')) : zcall d 33 [.ref 42] (s, V) Q := by
  obtain ⟨t1, v1, t2, l2, hk, hK⟩ := hP
  obtain ⟨u1, hc⟩ := hC
  have k0 : V 43 0 = .ref (κ 0) := (hk 0 (by omega)).1
  have k1 : V 43 1 = .ref (κ 1) := (hk 1 (by omega)).1
  have k2 : V 43 2 = .ref (κ 2) := (hk 2 (by omega)).1
  have k3 : V 43 3 = .ref (κ 3) := (hk 3 (by omega)).1
  have s0 := (hk 0 (by omega)).2.1
  have s1 := (hk 1 (by omega)).2.1
  have s2 := (hk 2 (by omega)).2.1
  have s3 := (hk 3 (by omega)).2.1
  obtain ⟨d, rfl⟩ : ∃ e, d = e + 1 := ⟨d - 1, by omega⟩
  simp (disch := first | assumption | omega) only [zc_33]
  simp (disch := first | assumption | exact zk_33 | ((repeat (first | exact z1n | refine z1I ?_ | refine z1R ?_)); done) | exact rfl | omega | decide) only [zb_33_0, zb_33_1, zb_33_2, r_aload_0, r_gf_192, r_iconst, r_aaload, r_astore_1i, r_astore_1r, r_astore_1j, r_istore_2i, r_istore_2r, r_istore_2j, r_goto_w, r_iload_2, r_icmp_ge, r_isub, r_aastore, r_iinc_2i, r_iinc_2r, r_iinc_2j, r_goto, r_aload_1, r_dup_i, r_dup_r, r_gf_193, r_pf_193, r_ret, v1, u1, k0, k1, k2, k3, zput_r, zput_k, zput_at, ↓reduceIte, not_true_eq_false, not_false_eq_true, Int.reduceEq, Int.reduceLE, Int.reduceLT, Int.reduceAdd, Int.reduceNeg, Int.reduceMul, Int.reduceSub, Int.reduceToNat]
  generalize hV : zput (zput (zput (zput (zput V 43 0 (Value.ref (κ 1))) 43 1 (Value.ref (κ 2))) 43 2 (Value.ref (κ 3))) 43 3 (Value.ref (κ 0))) 42 1 (zi 3) = V'
  have hF : zFrg 42 44 V V' := by
    rw [← hV]
    repeat (first | exact zFrg.rf | refine zFrg.p ?_ (by omega) (by omega))
  have hlo : ∀ k, k < 4 → 44 ≤ κ k := fun k hk => by have := hK.1 k hk; omega
  have e0 : V' 43 0 = .ref (κ 1) := by rw [← hV]; simp (disch := omega) only [zput_r, zput_k, zput_at]
  have e1 : V' 43 1 = .ref (κ 2) := by rw [← hV]; simp (disch := omega) only [zput_r, zput_k, zput_at]
  have e2 : V' 43 2 = .ref (κ 3) := by rw [← hV]; simp (disch := omega) only [zput_r, zput_k, zput_at]
  have e3 : V' 43 3 = .ref (κ 0) := by rw [← hV]; simp (disch := omega) only [zput_r, zput_k, zput_at]
  have e4 : V' 42 0 = .ref 43 := by rw [← hV]; simp (disch := omega) only [zput_r, zput_k, zput_at]; exact v1
  have e5 : V' 42 1 = zi 3 := by rw [← hV]; exact zput_at
  have hst : ∀ k, k < 4 → zStP s V' (κ k) := fun k hk4 => (hk k hk4).2.frg hF (by have := hlo k hk4; omega)
  refine hQ V' (fun k => κ ((k + 1) % 4)) hF ⟨t1, e4, t2, l2, fun k hk4 => ?_, ⟨fun k hk4 => hK.1 _ (by omega), fun i j hi hj e => ?_⟩⟩ ⟨e5, fun k hk3 => ?_⟩
  · refine ⟨?_, hst _ (by omega)⟩
    rcases (by omega : k = 0 ∨ k = 1 ∨ k = 2 ∨ k = 3) with rfl | rfl | rfl | rfl
    · exact e0
    · exact e1
    · exact e2
    · exact e3
  · have := hK.2 _ _ (by omega) (by omega) e
    omega
  · have e : (k + 1) % 4 = k + 1 := by omega
    dsimp only
    rw [e]
    exact (hc (k + 1) (by omega)).frg hF (by have := hlo (k + 1) (by omega); omega)
set_option maxRecDepth 20000 in
/-- saving -/
theorem c_save (hd : 2 ≤ d) (hP : zHiP s V κ) (hC : zHiC p H V κ) (p0 : 0 ≤ p) (p1 : p ≤ 4) (ha : a + 18 ≤ 42) (hPa : zStP s V a) (hCa : zStC ρ V a) (hB : ρ.n ≤ 12 ∧ ρ.c ≤ 24) (hQ : ∀ V' κ', zFrg 42 116 V V' → zHiP s V' κ' → zHiC (zHiQ p + 1 : Nat) (zHiN p H ρ) V' κ' → Q (.inl none) (s, V')) : zcall d 32 [.ref 42, .ref a] (s, V) Q := by
  have t1 := hP.1
  have u1 := hC.1
  obtain ⟨d, rfl⟩ : ∃ e, d = e + 1 := ⟨d - 1, by omega⟩
  simp (disch := first | assumption | omega) only [zc_32]
  have rest : ∀ (q : Nat) (V1 : zV) (κ1 : Nat → Nat) (H1 : Nat → zR), q < 4 → zFrg 42 116 V V1 → zHiP s V1 κ1 → zHiC q H1 V1 κ1 → (∀ V' κ', zFrg 42 116 V V' → zHiP s V' κ' → zHiC (q + 1 : Nat) (fun k => if k < q then H1 k else ρ) V' κ' → Q (.inl none) (s, V')) → zwp (zcall d) 32 Q (zB 32 1) [.ref 42, .ref a] [] (s, V1) := by
    intro q V1 κ1 H1 hq f1 hP1 hC1 hQ1
    have hP2 := hP1
    obtain ⟨t1, v1, t2, l2, hk, hK⟩ := hP2
    obtain ⟨u1, hc⟩ := hC1
    have kq : V1 43 (q : Int) = .ref (κ1 q) := (hk q hq).1
    have hqa := hK.1 q hq
    simp (disch := first | assumption | exact zk_32 | ((repeat (first | exact z1n | refine z1I ?_ | refine z1R ?_)); done) | exact rfl | omega | decide) only [zb_32_1, r_aload_0, r_gf_193, r_iconst, r_icmp_ne, r_inv_1_0, r_inv_1_1, r_inv_1_2, r_inv_1_3, r_inv_1_4, r_K0, r_K1, r_goto_w, r_gf_192, r_aaload, r_aload_1, r_inv_2_0, r_inv_2_1, r_inv_2_2, r_inv_2_3, r_inv_2_4, r_dup_i, r_dup_r, r_iadd, r_pf_193, r_ret, v1, u1, kq, ↓reduceIte, not_true_eq_false, not_false_eq_true, Int.reduceEq, Int.reduceLE, Int.reduceLT, Int.reduceAdd, Int.reduceNeg, Int.reduceMul, Int.reduceSub, Int.reduceToNat]
    refine c_copyFrom (by omega) (a := κ1 q) (b := a) (by omega) (hk q hq).2 (hPa.frg f1 (by omega)) (hCa.frg f1 (by omega)) hB (fun V2 y1 y2 y3 => ?_)
    have w1 : V2 42 1 = zi q := by rw [y1 42 (by omega)]; exact u1
    have fin : zFrg 42 116 V (zput V2 42 1 (zi (q + 1))) := (f1.tr (fun r hr => y1 r (by omega))).p (by omega) (by omega)
    have e1 : ∀ r, r ≠ 42 → zput V2 42 1 (zi ((q : Int) + 1)) r = V2 r := fun r hr => zput_row hr
    have tr : ∀ k, k < 4 → zFrg 42 43 V2 (zput V2 42 1 (zi ((q : Int) + 1))) := fun k _ => zFrg.rf.p (by omega) (by omega)
    simp (disch := first | assumption | exact zk_32 | ((repeat (first | exact z1n | refine z1I ?_ | refine z1R ?_)); done) | exact rfl | omega | decide) only [r_aload_0, r_gf_193, r_iconst, r_icmp_ne, r_inv_1_0, r_inv_1_1, r_inv_1_2, r_inv_1_3, r_inv_1_4, r_K0, r_K1, r_goto_w, r_gf_192, r_aaload, r_aload_1, r_inv_2_0, r_inv_2_1, r_inv_2_2, r_inv_2_3, r_inv_2_4, r_dup_i, r_dup_r, r_iadd, r_pf_193, r_ret, w1, ↓reduceIte, not_true_eq_false, not_false_eq_true, Int.reduceEq, Int.reduceLE, Int.reduceLT, Int.reduceAdd, Int.reduceNeg, Int.reduceMul, Int.reduceSub, Int.reduceToNat]
    refine hQ1 _ κ1 fin ⟨t1, ?_, t2, l2, fun k hk4 => ⟨?_, ?_⟩, hK⟩ ⟨zput_at, fun k hkq => ?_⟩
    · rw [zput_k (by omega), y1 42 (by omega)]; exact v1
    · rw [e1 43 (by omega), y1 43 (by omega)]; exact (hk k hk4).1
    · have hkk := hK.1 k hk4
      by_cases e : k = q
      · subst e
        exact y2.frg (tr k hk4) (by omega)
      · exact ((hk k hk4).2.fr y1 (by have := hK.apart hk4 hq e; omega)).frg (tr k hk4) (by omega)
    · have hkk := hK.1 k (by omega)
      by_cases e : k = q
      · subst e
        dsimp only
        rw [if_neg (by omega)]
        exact y3.frg (tr k (by omega)) (by omega)
      · dsimp only
        rw [if_pos (by omega)]
        exact ((hc k (by omega)).fr y1 (by have := hK.apart (by omega : k < 4) hq e; omega)).frg (tr k (by omega)) (by omega)
  by_cases e : p = 4
  · subst e
    simp (disch := first | assumption | exact zk_32 | ((repeat (first | exact z1n | refine z1I ?_ | refine z1R ?_)); done) | exact rfl | omega | decide) only [zb_32_0, r_aload_0, r_gf_193, r_iconst, r_icmp_ne, r_inv_1_0, r_inv_1_1, r_inv_1_2, r_inv_1_3, r_inv_1_4, r_K0, r_K1, r_goto_w, r_gf_192, r_aaload, r_aload_1, r_inv_2_0, r_inv_2_1, r_inv_2_2, r_inv_2_3, r_inv_2_4, r_dup_i, r_dup_r, r_iadd, r_pf_193, r_ret, u1, ↓reduceIte, not_true_eq_false, not_false_eq_true, Int.reduceEq, Int.reduceLE, Int.reduceLT, Int.reduceAdd, Int.reduceNeg, Int.reduceMul, Int.reduceSub, Int.reduceToNat]
    refine c_dropOldest (by omega) hP hC (fun V1 κ1 f1 hP1 hC1 => ?_)
    simp (disch := first | assumption | exact zk_32 | ((repeat (first | exact z1n | refine z1I ?_ | refine z1R ?_)); done) | exact rfl | omega | decide) only [r_aload_0, r_gf_193, r_iconst, r_icmp_ne, r_inv_1_0, r_inv_1_1, r_inv_1_2, r_inv_1_3, r_inv_1_4, r_K0, r_K1, r_goto_w, r_gf_192, r_aaload, r_aload_1, r_inv_2_0, r_inv_2_1, r_inv_2_2, r_inv_2_3, r_inv_2_4, r_dup_i, r_dup_r, r_iadd, r_pf_193, r_ret, ↓reduceIte, not_true_eq_false, not_false_eq_true, Int.reduceEq, Int.reduceLE, Int.reduceLT, Int.reduceAdd, Int.reduceNeg, Int.reduceMul, Int.reduceSub, Int.reduceToNat]
    refine rest 3 V1 κ1 _ (by omega) (fun r hr => f1 r (by omega)) hP1 hC1 (fun V' κ' g1 g2 g3 => hQ V' κ' g1 g2 ?_)
    exact g3
  · simp (disch := first | assumption | exact zk_32 | ((repeat (first | exact z1n | refine z1I ?_ | refine z1R ?_)); done) | exact rfl | omega | decide) only [zb_32_0, r_aload_0, r_gf_193, r_iconst, r_icmp_ne, r_inv_1_0, r_inv_1_1, r_inv_1_2, r_inv_1_3, r_inv_1_4, r_K0, r_K1, r_goto_w, r_gf_192, r_aaload, r_aload_1, r_inv_2_0, r_inv_2_1, r_inv_2_2, r_inv_2_3, r_inv_2_4, r_dup_i, r_dup_r, r_iadd, r_pf_193, r_ret, u1, e, ↓reduceIte, not_true_eq_false, not_false_eq_true, Int.reduceEq, Int.reduceLE, Int.reduceLT, Int.reduceAdd, Int.reduceNeg, Int.reduceMul, Int.reduceSub, Int.reduceToNat]
    have hq : (p.toNat : Int) = p := by omega
    have hC' : zHiC (p.toNat : Int) H V κ := by rw [hq]; exact hC
    have e3 : zHiQ p = p.toNat := by unfold zHiQ; rw [if_neg e]
    have e4 : zHiN p H ρ = fun k => if k < p.toNat then H k else ρ := by
      funext k
      unfold zHiN
      rw [e3, if_neg e]
    rw [e3, e4] at hQ
    exact rest p.toNat V κ H (by omega) zFrg.rf hP hC' (fun V' κ' g1 g2 g3 => hQ V' κ' g1 g2 g3)
set_option maxRecDepth 20000 in
theorem c_whyEmpty (hd : 1 ≤ d) (hP : zHiP s V κ) (hC : zHiC p H V κ) (p0 : 0 ≤ p) (p1 : p ≤ 4) : zcall d 34 [.ref 42] (s, V) Q = if p = 0 then Q (.inl (some (zi 3))) (s, V) else Q (.inl (some (zi 0))) (s, V) := by
  have t1 := hP.1
  have u1 := hC.1
  obtain ⟨d, rfl⟩ : ∃ e, d = e + 1 := ⟨d - 1, by omega⟩
  simp (disch := first | assumption | omega) only [zc_34]
  simp (disch := first | assumption | exact zk_34 | ((repeat (first | exact z1n | refine z1I ?_ | refine z1R ?_)); done) | exact rfl | omega | decide) only [zb_34_0, zb_34_1, zb_34_2, r_aload_0, r_gf_193, r_if_ne, r_iconst, r_goto, r_goto_w, r_iret, r_bret_0, r_bret_1, u1, ↓reduceIte, not_true_eq_false, not_false_eq_true, Int.reduceEq, Int.reduceLE, Int.reduceLT, Int.reduceAdd, Int.reduceNeg, Int.reduceMul, Int.reduceSub, Int.reduceToNat]
  (repeat' split) <;> first | rfl | (exfalso; omega) | (exfalso; grind)
set_option maxRecDepth 20000 in
theorem c_restore (hd : 2 ≤ d) (hP : zHiP s V κ) (hC : zHiC p H V κ) (p0 : 1 ≤ p) (p1 : p ≤ 4) (ha : a + 18 ≤ 42) (hPa : zStP s V a) (hB : (H (p.toNat - 1)).n ≤ 12 ∧ (H (p.toNat - 1)).c ≤ 24) (hQ : ∀ V', (∀ r : Nat, r ≠ 42 → r < a ∨ a + 18 ≤ r → V' r = V r) → zHiP s V' κ → zHiC (p - 1) H V' κ → zStP s V' a → zStC (H (p.toNat - 1)) V' a → Q (.inl (some (zi (p - 1)))) (s, V')) : zcall d 35 [.ref 42, .ref a] (s, V) Q := by
  obtain ⟨q, hq⟩ : ∃ q : Nat, p = q + 1 := ⟨p.toNat - 1, by omega⟩
  have hqn : p.toNat - 1 = q := by omega
  rw [hqn] at hB hQ
  have hP2 := hP
  obtain ⟨t1, v1, t2, l2, hk, hK⟩ := hP2
  obtain ⟨u1, hc⟩ := hC
  have tA := hPa.1
  have kq : V 43 (q : Int) = .ref (κ q) := (hk q (by omega)).1
  have hqa := hK.1 q (by omega)
  have e1 : p - 1 = q := by omega
  have fx : zFrg 42 43 V (zput V 42 1 (zi (q : Int))) := zFrg.rf.p (by omega) (by omega)
  obtain ⟨d, rfl⟩ : ∃ e, d = e + 1 := ⟨d - 1, by omega⟩
  simp (disch := first | assumption | omega) only [zc_35]
  simp (disch := first | assumption | exact zk_35 | ((repeat (first | exact z1n | refine z1I ?_ | refine z1R ?_)); done) | exact rfl | omega | decide) only [zb_35_0, r_aload_0, r_dup_i, r_dup_r, r_gf_193, r_iconst, r_isub, r_pf_193, r_aload_1, r_gf_192, r_aaload, r_inv_2_0, r_inv_2_1, r_inv_2_2, r_inv_2_3, r_inv_2_4, r_K0, r_K1, r_iret, r_bret_0, r_bret_1, v1, u1, zput_k, zput_at, zput_r, e1, kq, ↓reduceIte, not_true_eq_false, not_false_eq_true, Int.reduceEq, Int.reduceLE, Int.reduceLT, Int.reduceAdd, Int.reduceNeg, Int.reduceMul, Int.reduceSub, Int.reduceToNat]
  refine c_copyFrom (by omega) (a := a) (b := κ q) (by omega) (hPa.frg fx (by omega)) ((hk q (by omega)).2.frg fx (by omega)) ((hc q (by omega)).frg fx (by omega)) hB (fun V2 y1 y2 y3 => ?_)
  have w1 : V2 42 1 = zi q := by rw [y1 42 (by omega)]; exact zput_at
  simp (disch := first | assumption | exact zk_35 | ((repeat (first | exact z1n | refine z1I ?_ | refine z1R ?_)); done) | exact rfl | omega | decide) only [r_aload_0, r_dup_i, r_dup_r, r_gf_193, r_iconst, r_isub, r_pf_193, r_aload_1, r_gf_192, r_aaload, r_inv_2_0, r_inv_2_1, r_inv_2_2, r_inv_2_3, r_inv_2_4, r_K0, r_K1, r_iret, r_bret_0, r_bret_1, w1, ↓reduceIte, not_true_eq_false, not_false_eq_true, Int.reduceEq, Int.reduceLE, Int.reduceLT, Int.reduceAdd, Int.reduceNeg, Int.reduceMul, Int.reduceSub, Int.reduceToNat]
  have e5 : ∀ r : Nat, r ≠ 42 → r < a ∨ a + 18 ≤ r → V2 r = V r := fun r h1 h2 => (y1 r h2).trans (zput_row h1)
  rw [e1] at hQ
  refine hQ V2 e5 ⟨t1, ?_, t2, l2, fun k hk4 => ⟨?_, ?_⟩, hK⟩ ⟨w1, fun k hkq => ?_⟩ y2 y3
  · rw [y1 42 (by omega), zput_k (by omega)]; exact v1
  · rw [e5 43 (by omega) (by omega)]; exact (hk k hk4).1
  · have := hK.1 k hk4
    exact ((hk k hk4).2.frg fx (by omega)).fr y1 (by omega)
  · have := hK.1 k (by omega)
    exact ((hc k (by omega)).frg fx (by omega)).fr y1 (by omega)
end
