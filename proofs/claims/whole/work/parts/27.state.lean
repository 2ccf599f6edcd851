/-! STATE, 5: steps, copying, in the machine -/
def zSteps (ρ : zR) : Nat → zR
  | 0 => ρ
  | k + 1 => zStep (zSteps ρ k)
theorem zSteps_wf {ρ : zR} (hW : zWF ρ) (k : Nat) : zSame ρ (zSteps ρ k) ∧ zWF (zSteps ρ k) := by
  induction k with
  | zero => exact ⟨zSame.rf, hW⟩
  | succ k ih => exact ⟨ih.1.tr (zStep_wf ih.2).1, (zStep_wf ih.2).2⟩
section
variable {d : Nat} {s : zS} {V : zV} {Q : zO → zH → Prop} {a : Nat} {ρ : zR} {h : zH}
set_option maxRecDepth 20000 in
theorem c_makeStep (hd : 4 ≤ d) (hP : zStP s V a) (hC : zStC ρ V a) (hW : zWF ρ) (hQ : zTo s V a (zStep ρ) Q (.inl (some (zi ((zStp ρ ρ.n).2 : Nat))))) : zcall d 99 [.ref a] (s, V) Q := by
  obtain ⟨n0, n1, c0, c1⟩ := hW.1
  have hv : zDown ρ < 4096 := zms_lt n0 n1
  have tO := hP.1
  have vn := hC.1
  have vc := hC.2.1
  obtain ⟨d, rfl⟩ : ∃ e, d = e + 1 := ⟨d - 1, by omega⟩
  simp (disch := first | assumption | omega) only [zc_99]
  simp (disch := first | assumption | exact zk_99 | ((repeat (first | exact z1n | refine z1I ?_ | refine z1R ?_)); done) | exact rfl | omega | decide) only [zb_99_0, r_aload_0, r_inv_1_0, r_inv_1_1, r_inv_1_2, r_inv_1_3, r_inv_1_4, r_K0, r_K1, r_istore_1i, r_istore_1r, r_istore_1j, r_iconst, r_istore_2i, r_istore_2r, r_istore_2j, r_istore_3i, r_istore_3r, r_istore_3j, r_goto_w, r_iload_3, r_gf_448, r_icmp_ge, r_iload_1, r_inv_3_0, r_inv_3_1, r_inv_3_2, r_inv_3_3, r_inv_3_4, r_istore_4i, r_istore_4r, r_istore_4j, r_inv_2_0, r_inv_2_1, r_inv_2_2, r_inv_2_3, r_inv_2_4, r_if_eq, r_iload_4, r_goto, r_gf_450, r_aaload, r_ial, r_ial30, r_ial32, r_icmp_lt, r_iload_2, r_ishl, r_ior, r_iinc_3i, r_iinc_3r, r_iinc_3j, r_iret, r_bret_0, r_bret_1, vn, vc, c_downSet (hC := hC), ↓reduceIte, not_true_eq_false, not_false_eq_true, Int.reduceEq, Int.reduceLE, Int.reduceLT, Int.reduceAdd, Int.reduceNeg, Int.reduceMul, Int.reduceSub, Int.reduceToNat]
  have hx := z_iter (i := 0) (n := ρ.n) (I := fun k (q : zV × Value) => (q.2 = zJ ∨ ∃ y, q.2 = zi y) ∧ zFr a V q.1 ∧ zStP s q.1 a ∧ zStC (zStp ρ k).1 q.1 a) (P := fun k q => zwp (zcall d) 99 Q (zB 99 1) [.ref a, zi (zDown ρ : Nat), zi ((zStp ρ k).2 : Nat), zi k, q.2] [] (s, q.1)) n0
  refine hx ?_ ?_ (V, zJ) ⟨Or.inl rfl, zFr.rf, hP, hC⟩
  · rintro k ⟨V1, w⟩ k0 k1 ⟨-, f1, p1, q1⟩ ih
    obtain ⟨i1, i2, i3⟩ := zStp_inv hW k0 (Int.le_of_lt k1)
    dsimp only at f1 p1 q1 ⊢
    have hl : zLack (zStp ρ k).1 = zLack ρ := zLack_K i1.K i1.c
    have hn1 : (zStp ρ k).1.n = ρ.n := i1.n
    have hW1 : zWF (zStp ρ k).1 := hW.same i1 i2
    have hr := i2 k k0 k1
    have hs := zfo_s (f := fun x (q : zR × Nat) => (zTurn ρ (zDown ρ) x q.1, if zFell ρ (zDown ρ) x q.1 = true then q.2 ||| zone x else q.2)) (x := (ρ, 0)) k0
    have hs1 : (zStp ρ (k + 1)).1 = zTurn ρ (zDown ρ) k (zStp ρ k).1 := congrArg Prod.fst hs
    have hs2 : (zStp ρ (k + 1)).2 = if zFell ρ (zDown ρ) k (zStp ρ k).1 = true then (zStp ρ k).2 ||| zone k else (zStp ρ k).2 := congrArg Prod.snd hs
    have next : ∀ V2 w2, (∃ y, w2 = zi y) → zFr a V1 V2 → zStP s V2 a → zStC (zTurn ρ (zDown ρ) k (zStp ρ k).1) V2 a → zwp (zcall d) 99 Q (zB 99 1) [.ref a, zi (zDown ρ : Nat), zi ((zStp ρ (k + 1)).2 : Nat), zi (k + 1), w2] [] (s, V2) := fun V2 w2 y1 y2 y3 y4 => ih (V2, w2) ⟨Or.inr y1, f1.tr y2, y3, by rw [hs1]; exact y4⟩
    obtain ⟨v0, v1⟩ : V1 a 0 = zi ρ.n ∧ True := ⟨q1.1.trans (by rw [hn1]), trivial⟩
    rw [zb_99_1]
    simp (disch := first | assumption | omega) only [r_iload_3, r_iload_1, r_aload_0, r_gf_448, v0, r_icmp_ge]
    rw [if_neg (by omega : ¬ ρ.n ≤ k)]
    have goL : ∀ (b : Bool), zLack ρ k (zDown ρ) = b → zwp (zcall d) 99 Q [.iload 1, .iload 3, .invokeinterface 158 2, .ifCond .eq 2, .aload 0, .iload 3, .iload 4, .invokeinterface 100 3, .goto 3] [.ref a, zi (zDown ρ : Nat), zi ((zStp ρ k).2 : Nat), zi k, zi (if b = true then 1 else 0)] [] (s, V1) := by
      intro b hb
      simp (disch := first | assumption | exact zk_99 | ((repeat (first | exact z1n | refine z1I ?_ | refine z1R ?_)); done) | exact rfl | omega | decide) only [r_aload_0, r_inv_1_0, r_inv_1_1, r_inv_1_2, r_inv_1_3, r_inv_1_4, r_K0, r_K1, r_istore_1i, r_istore_1r, r_istore_1j, r_iconst, r_istore_2i, r_istore_2r, r_istore_2j, r_istore_3i, r_istore_3r, r_istore_3j, r_goto_w, r_iload_3, r_gf_448, r_icmp_ge, r_iload_1, r_inv_3_0, r_inv_3_1, r_inv_3_2, r_inv_3_3, r_inv_3_4, r_istore_4i, r_istore_4r, r_istore_4j, r_inv_2_0, r_inv_2_1, r_inv_2_2, r_inv_2_3, r_inv_2_4, r_if_eq, r_iload_4, r_goto, r_gf_450, r_aaload, r_ial, r_ial30, r_ial32, r_icmp_lt, r_iload_2, r_ishl, r_ior, r_iinc_3i, r_iinc_3r, r_iinc_3j, r_iret, r_bret_0, r_bret_1, vn, vc, c_contains, ↓reduceIte, not_true_eq_false, not_false_eq_true, Int.reduceEq, Int.reduceLE, Int.reduceLT, Int.reduceAdd, Int.reduceNeg, Int.reduceMul, Int.reduceSub, Int.reduceToNat]
      by_cases e : zin (zDown ρ) k = true
      · rw [if_pos e]
        refine c_mend (by omega) p1 q1 (by omega) k0 (by omega) hr.2.2 (fun V2 y1 y2 y3 => ?_)
        simp (disch := first | assumption | exact zk_99 | ((repeat (first | exact z1n | refine z1I ?_ | refine z1R ?_)); done) | exact rfl | omega | decide) only [zb_99_3, r_aload_0, r_inv_1_0, r_inv_1_1, r_inv_1_2, r_inv_1_3, r_inv_1_4, r_K0, r_K1, r_istore_1i, r_istore_1r, r_istore_1j, r_iconst, r_istore_2i, r_istore_2r, r_istore_2j, r_istore_3i, r_istore_3r, r_istore_3j, r_goto_w, r_iload_3, r_gf_448, r_icmp_ge, r_iload_1, r_inv_3_0, r_inv_3_1, r_inv_3_2, r_inv_3_3, r_inv_3_4, r_istore_4i, r_istore_4r, r_istore_4j, r_inv_2_0, r_inv_2_1, r_inv_2_2, r_inv_2_3, r_inv_2_4, r_if_eq, r_iload_4, r_goto, r_gf_450, r_aaload, r_ial, r_ial30, r_ial32, r_icmp_lt, r_iload_2, r_ishl, r_ior, r_iinc_3i, r_iinc_3r, r_iinc_3j, r_iret, r_bret_0, r_bret_1, vn, vc, ↓reduceIte, not_true_eq_false, not_false_eq_true, Int.reduceEq, Int.reduceLE, Int.reduceLT, Int.reduceAdd, Int.reduceNeg, Int.reduceMul, Int.reduceSub, Int.reduceToNat]
        have ef : zFell ρ (zDown ρ) k (zStp ρ k).1 = false := by unfold zFell; rw [e]; rfl
        have := next V2 (zi (if b = true then 1 else 0)) ⟨_, rfl⟩ y1 y2 (by unfold zTurn; rw [if_pos e, hb]; exact y3)
        rw [hs2, ef, if_neg (by decide)] at this
        exact this
      · rw [if_neg e]
        simp (disch := first | assumption | exact zk_99 | ((repeat (first | exact z1n | refine z1I ?_ | refine z1R ?_)); done) | exact rfl | omega | decide) only [zb_99_2, r_aload_0, r_inv_1_0, r_inv_1_1, r_inv_1_2, r_inv_1_3, r_inv_1_4, r_K0, r_K1, r_istore_1i, r_istore_1r, r_istore_1j, r_iconst, r_istore_2i, r_istore_2r, r_istore_2j, r_istore_3i, r_istore_3r, r_istore_3j, r_goto_w, r_iload_3, r_gf_448, r_icmp_ge, r_iload_1, r_inv_3_0, r_inv_3_1, r_inv_3_2, r_inv_3_3, r_inv_3_4, r_istore_4i, r_istore_4r, r_istore_4j, r_inv_2_0, r_inv_2_1, r_inv_2_2, r_inv_2_3, r_inv_2_4, r_if_eq, r_iload_4, r_goto, r_gf_450, r_aaload, r_ial, r_ial30, r_ial32, r_icmp_lt, r_iload_2, r_ishl, r_ior, r_iinc_3i, r_iinc_3r, r_iinc_3j, r_iret, r_bret_0, r_bret_1, vn, vc, ↓reduceIte, not_true_eq_false, not_false_eq_true, Int.reduceEq, Int.reduceLE, Int.reduceLT, Int.reduceAdd, Int.reduceNeg, Int.reduceMul, Int.reduceSub, Int.reduceToNat]
        refine c_strain (by omega) p1 q1 (by omega) k0 (by omega) hr.2.1 (fun V2 y1 y2 y3 => ?_)
        have hsm : zSame (zStp ρ k).1 (zSt (zStp ρ k).1 k b) := zSame.st
        have hn2 : (zSt (zStp ρ k).1 k b).n = ρ.n := hsm.n.trans hn1
        have b7 : 0 ≤ (zSt (zStp ρ k).1 k b).S 7 k ∧ (zSt (zStp ρ k).1 k b).S 7 k ≤ 10 := by
          have := hr.2.1
          unfold zSt
          split
          · rw [zR.sS_S]; simp; omega
          · split
            · rw [zR.sS_S]; simp; omega
            · omega
        have b2 : 1 ≤ (zSt (zStp ρ k).1 k b).S 2 k ∧ (zSt (zStp ρ k).1 k b).S 2 k ≤ 9 := by
          rw [hsm.2.2.2 2 k (by omega) (by omega) (by omega)]
          exact (hW1.2.1 k k0 (by omega)).2.2.1
        have y3' := y3
        generalize hσ : zSt (zStp ρ k).1 k b = σ at y3 y3' hn2 b7 b2
        have vA2 : V2 a 2 = .ref (a + 1) := y2.2.1
        have vs7 : V2 (a + 1) 7 = .ref (a + 9) := (y2.2.2.2.2.2.2.2.1 7 (by omega)).1
        have vs2 : V2 (a + 1) 2 = .ref (a + 4) := (y2.2.2.2.2.2.2.2.1 2 (by omega)).1
        have tA := y2.2.2.1
        have lA := y2.2.2.2.1
        have t7 : s.tg (a + 9) = 20 := (y2.2.2.2.2.2.2.2.1 7 (by omega)).2.1
        have t2 : s.tg (a + 4) = 20 := (y2.2.2.2.2.2.2.2.1 2 (by omega)).2.1
        have l7 : s.ln (a + 9) = 12 := (y2.2.2.2.2.2.2.2.1 7 (by omega)).2.2
        have l2 : s.ln (a + 4) = 12 := (y2.2.2.2.2.2.2.2.1 2 (by omega)).2.2
        have w7 : V2 (a + 9) k = zi (σ.S 7 k) := y3.2.2.1 7 (by omega) k k0 (by omega)
        have w2 : V2 (a + 4) k = zi (σ.S 2 k) := y3.2.2.1 2 (by omega) k k0 (by omega)
        simp (disch := first | assumption | exact zk_99 | ((repeat (first | exact z1n | refine z1I ?_ | refine z1R ?_)); done) | exact rfl | omega | decide) only [r_aload_0, r_inv_1_0, r_inv_1_1, r_inv_1_2, r_inv_1_3, r_inv_1_4, r_K0, r_K1, r_istore_1i, r_istore_1r, r_istore_1j, r_iconst, r_istore_2i, r_istore_2r, r_istore_2j, r_istore_3i, r_istore_3r, r_istore_3j, r_goto_w, r_iload_3, r_gf_448, r_icmp_ge, r_iload_1, r_inv_3_0, r_inv_3_1, r_inv_3_2, r_inv_3_3, r_inv_3_4, r_istore_4i, r_istore_4r, r_istore_4j, r_inv_2_0, r_inv_2_1, r_inv_2_2, r_inv_2_3, r_inv_2_4, r_if_eq, r_iload_4, r_goto, r_gf_450, r_aaload, r_ial, r_ial30, r_ial32, r_icmp_lt, r_iload_2, r_ishl, r_ior, r_iinc_3i, r_iinc_3r, r_iinc_3j, r_iret, r_bret_0, r_bret_1, vn, vc, vA2, vs7, vs2, w7, w2, ↓reduceIte, not_true_eq_false, not_false_eq_true, Int.reduceEq, Int.reduceLE, Int.reduceLT, Int.reduceAdd, Int.reduceNeg, Int.reduceMul, Int.reduceSub, Int.reduceToNat]
        have ht : zTurn ρ (zDown ρ) k (zStp ρ k).1 = if σ.S 2 k ≤ σ.S 7 k then zGd σ k else σ := by
          unfold zTurn
          rw [if_neg e, hb, hσ]
        have hf : zFell ρ (zDown ρ) k (zStp ρ k).1 = decide (σ.S 2 k ≤ σ.S 7 k) := by
          unfold zFell
          rw [hb, hσ]
          simp [e]
        by_cases e5 : σ.S 7 k < σ.S 2 k
        · rw [if_pos e5]
          have := next V2 (zi (if b = true then 1 else 0)) ⟨_, rfl⟩ y1 y2 (by rw [ht, if_neg (by omega)]; exact y3')
          rw [hs2, hf, if_neg (by simp; omega)] at this
          simp (disch := first | assumption | exact zk_99 | ((repeat (first | exact z1n | refine z1I ?_ | refine z1R ?_)); done) | exact rfl | omega | decide) only [zb_99_3, r_aload_0, r_inv_1_0, r_inv_1_1, r_inv_1_2, r_inv_1_3, r_inv_1_4, r_K0, r_K1, r_istore_1i, r_istore_1r, r_istore_1j, r_iconst, r_istore_2i, r_istore_2r, r_istore_2j, r_istore_3i, r_istore_3r, r_istore_3j, r_goto_w, r_iload_3, r_gf_448, r_icmp_ge, r_iload_1, r_inv_3_0, r_inv_3_1, r_inv_3_2, r_inv_3_3, r_inv_3_4, r_istore_4i, r_istore_4r, r_istore_4j, r_inv_2_0, r_inv_2_1, r_inv_2_2, r_inv_2_3, r_inv_2_4, r_if_eq, r_iload_4, r_goto, r_gf_450, r_aaload, r_ial, r_ial30, r_ial32, r_icmp_lt, r_iload_2, r_ishl, r_ior, r_iinc_3i, r_iinc_3r, r_iinc_3j, r_iret, r_bret_0, r_bret_1, vn, vc, ↓reduceIte, not_true_eq_false, not_false_eq_true, Int.reduceEq, Int.reduceLE, Int.reduceLT, Int.reduceAdd, Int.reduceNeg, Int.reduceMul, Int.reduceSub, Int.reduceToNat]
          exact this
        · rw [if_neg e5]
          refine c_goDown (by omega) y2 y3 (by omega) k0 (by omega) (fun V3 z1 z2 z3 => ?_)
          have hzo := zone_lt (x := k) (by omega)
          simp (disch := first | assumption | exact zk_99 | ((repeat (first | exact z1n | refine z1I ?_ | refine z1R ?_)); done) | exact rfl | omega | decide) only [zb_99_3, r_aload_0, r_inv_1_0, r_inv_1_1, r_inv_1_2, r_inv_1_3, r_inv_1_4, r_K0, r_K1, r_istore_1i, r_istore_1r, r_istore_1j, r_iconst, r_istore_2i, r_istore_2r, r_istore_2j, r_istore_3i, r_istore_3r, r_istore_3j, r_goto_w, r_iload_3, r_gf_448, r_icmp_ge, r_iload_1, r_inv_3_0, r_inv_3_1, r_inv_3_2, r_inv_3_3, r_inv_3_4, r_istore_4i, r_istore_4r, r_istore_4j, r_inv_2_0, r_inv_2_1, r_inv_2_2, r_inv_2_3, r_inv_2_4, r_if_eq, r_iload_4, r_goto, r_gf_450, r_aaload, r_ial, r_ial30, r_ial32, r_icmp_lt, r_iload_2, r_ishl, r_ior, r_iinc_3i, r_iinc_3r, r_iinc_3j, r_iret, r_bret_0, r_bret_1, vn, vc, zshl_z, zor_n, ↓reduceIte, not_true_eq_false, not_false_eq_true, Int.reduceEq, Int.reduceLE, Int.reduceLT, Int.reduceAdd, Int.reduceNeg, Int.reduceMul, Int.reduceSub, Int.reduceToNat]
          have := next V3 (zi (if b = true then 1 else 0)) ⟨_, rfl⟩ (y1.tr z1) z2 (by rw [ht, if_pos (by omega)]; exact z3)
          rw [hs2, hf, if_pos (by simp; omega)] at this
          exact this
    have hL := c_lack (d := d) (Q := zK (zAl 99 89) 99 Q (zwp (zcall d) 99 Q) [.istore 4, .iload 1, .iload 3, .invokeinterface 158 2, .ifCond .eq 2, .aload 0, .iload 3, .iload 4, .invokeinterface 100 3, .goto 3] [.ref a, zi (zDown ρ : Nat), zi ((zStp ρ k).2 : Nat), zi k, w] []) (by omega) p1 q1 hW1 (x := k) (v := zDown ρ) k0 (by omega) hv
    rw [r_inv_3_0 (z1I (z1I (z1R z1n))), hL, hl]
    split
    · rename_i e
      have := goL true e
      rw [if_pos rfl] at this
      simp only [r_K1, r_istore_4i]
      exact this
    · rename_i e
      have := goL false (by simpa using e)
      rw [if_neg (by decide)] at this
      simp only [r_K1, r_istore_4i]
      exact this
  · rintro ⟨V1, w⟩ ⟨-, f1, p1, q1⟩
    obtain ⟨i1, i2, i3⟩ := zStp_inv hW n0 (Int.le_refl _)
    dsimp only at f1 p1 q1 ⊢
    have v0 : V1 a 0 = zi ρ.n := q1.1.trans (by rw [i1.n])
    simp (disch := first | assumption | exact zk_99 | ((repeat (first | exact z1n | refine z1I ?_ | refine z1R ?_)); done) | exact rfl | omega | decide) only [zb_99_1, zb_99_2, zb_99_3, zb_99_4, r_aload_0, r_inv_1_0, r_inv_1_1, r_inv_1_2, r_inv_1_3, r_inv_1_4, r_K0, r_K1, r_istore_1i, r_istore_1r, r_istore_1j, r_iconst, r_istore_2i, r_istore_2r, r_istore_2j, r_istore_3i, r_istore_3r, r_istore_3j, r_goto_w, r_iload_3, r_gf_448, r_icmp_ge, r_iload_1, r_inv_3_0, r_inv_3_1, r_inv_3_2, r_inv_3_3, r_inv_3_4, r_istore_4i, r_istore_4r, r_istore_4j, r_inv_2_0, r_inv_2_1, r_inv_2_2, r_inv_2_3, r_inv_2_4, r_if_eq, r_iload_4, r_goto, r_gf_450, r_aaload, r_ial, r_ial30, r_ial32, r_icmp_lt, r_iload_2, r_ishl, r_ior, r_iinc_3i, r_iinc_3r, r_iinc_3j, r_iret, r_bret_0, r_bret_1, vn, vc, v0, Int.le_refl, ↓reduceIte, not_true_eq_false, not_false_eq_true, Int.reduceEq, Int.reduceLE, Int.reduceLT, Int.reduceAdd, Int.reduceNeg, Int.reduceMul, Int.reduceSub, Int.reduceToNat]
    exact hQ V1 f1 p1 q1
set_option maxRecDepth 20000 in
theorem c_makeSteps (hd : 5 ≤ d) (hP : zStP s V a) (hC : zStC ρ V a) (hW : zWF ρ) {m : Int} (m0 : 0 ≤ m) (m1 : m ≤ 1000) (hQ : zTo s V a (zSteps ρ m.toNat) Q (.inl none)) : zcall d 98 [.ref a, zi m] (s, V) Q := by
  have tO := hP.1
  obtain ⟨d, rfl⟩ : ∃ e, d = e + 1 := ⟨d - 1, by omega⟩
  simp (disch := first | assumption | omega) only [zc_98]
  simp (disch := first | assumption | exact zk_98 | ((repeat (first | exact z1n | refine z1I ?_ | refine z1R ?_)); done) | exact rfl | omega | decide) only [zb_98_0, r_iconst, r_istore_2i, r_istore_2r, r_istore_2j, r_goto_w, r_iload_2, r_iload_1, r_icmp_ge, r_aload_0, r_inv_1_0, r_inv_1_1, r_inv_1_2, r_inv_1_3, r_inv_1_4, r_K0, r_K1, r_pop_i, r_pop_r, r_iinc_2i, r_iinc_2r, r_iinc_2j, r_goto, r_ret, ↓reduceIte, not_true_eq_false, not_false_eq_true, Int.reduceEq, Int.reduceLE, Int.reduceLT, Int.reduceAdd, Int.reduceNeg, Int.reduceMul, Int.reduceSub, Int.reduceToNat]
  have hx := z_iter (i := 0) (n := m) (I := fun k (q : zV) => zFr a V q ∧ zStP s q a ∧ zStC (zSteps ρ k.toNat) q a) (P := fun k q => zwp (zcall d) 98 Q (zB 98 1) [.ref a, zi m, zi k] [] (s, q)) m0
  refine hx ?_ ?_ V ⟨zFr.rf, hP, hC⟩
  · rintro k V1 k0 k1 ⟨f1, p1, q1⟩ ih
    rw [zb_98_1]
    simp (disch := first | assumption | exact zk_98 | ((repeat (first | exact z1n | refine z1I ?_ | refine z1R ?_)); done) | exact rfl | omega | decide) only [r_iconst, r_istore_2i, r_istore_2r, r_istore_2j, r_goto_w, r_iload_2, r_iload_1, r_icmp_ge, r_aload_0, r_inv_1_0, r_inv_1_1, r_inv_1_2, r_inv_1_3, r_inv_1_4, r_K0, r_K1, r_pop_i, r_pop_r, r_iinc_2i, r_iinc_2r, r_iinc_2j, r_goto, r_ret, ↓reduceIte, not_true_eq_false, not_false_eq_true, Int.reduceEq, Int.reduceLE, Int.reduceLT, Int.reduceAdd, Int.reduceNeg, Int.reduceMul, Int.reduceSub, Int.reduceToNat]
    rw [if_neg (by omega : ¬ m ≤ k)]
    refine c_makeStep (by omega) p1 q1 (zSteps_wf hW _).2 (fun V2 y1 y2 y3 => ?_)
    simp (disch := first | assumption | exact zk_98 | ((repeat (first | exact z1n | refine z1I ?_ | refine z1R ?_)); done) | exact rfl | omega | decide) only [r_iconst, r_istore_2i, r_istore_2r, r_istore_2j, r_goto_w, r_iload_2, r_iload_1, r_icmp_ge, r_aload_0, r_inv_1_0, r_inv_1_1, r_inv_1_2, r_inv_1_3, r_inv_1_4, r_K0, r_K1, r_pop_i, r_pop_r, r_iinc_2i, r_iinc_2r, r_iinc_2j, r_goto, r_ret, ↓reduceIte, not_true_eq_false, not_false_eq_true, Int.reduceEq, Int.reduceLE, Int.reduceLT, Int.reduceAdd, Int.reduceNeg, Int.reduceMul, Int.reduceSub, Int.reduceToNat]
    exact ih V2 ⟨f1.tr y1, y2, by rw [show (k + 1).toNat = k.toNat + 1 by omega]; exact y3⟩
  · rintro V1 ⟨f1, p1, q1⟩
    simp (disch := first | assumption | exact zk_98 | ((repeat (first | exact z1n | refine z1I ?_ | refine z1R ?_)); done) | exact rfl | omega | decide) only [zb_98_0, zb_98_1, zb_98_2, r_iconst, r_istore_2i, r_istore_2r, r_istore_2j, r_goto_w, r_iload_2, r_iload_1, r_icmp_ge, r_aload_0, r_inv_1_0, r_inv_1_1, r_inv_1_2, r_inv_1_3, r_inv_1_4, r_K0, r_K1, r_pop_i, r_pop_r, r_iinc_2i, r_iinc_2r, r_iinc_2j, r_goto, r_ret, Int.le_refl, ↓reduceIte, not_true_eq_false, not_false_eq_true, Int.reduceEq, Int.reduceLE, Int.reduceLT, Int.reduceAdd, Int.reduceNeg, Int.reduceMul, Int.reduceSub, Int.reduceToNat]
    exact hQ V1 f1 p1 q1
set_option maxRecDepth 20000 in
/-- copyFrom -/
theorem c_copyFrom (hd : 1 ≤ d) {b : Nat} (hab : a + 18 ≤ b ∨ b + 18 ≤ a) (hP : zStP s V a) (hPb : zStP s V b) (hC : zStC ρ V b) (hB : ρ.n ≤ 12 ∧ ρ.c ≤ 24) (hQ : zTo s V a ρ Q (.inl none)) : zcall d 66 [.ref a, .ref b] (s, V) Q := by
  have tO := hP.1
  have tOb := hPb.1
  obtain ⟨d, rfl⟩ : ∃ e, d = e + 1 := ⟨d - 1, by omega⟩
  simp (disch := first | assumption | omega) only [zc_66]
  have un : V b 0 = zi ρ.n := hC.1
  have uc : V b 1 = zi ρ.c := hC.2.1
  simp (disch := first | assumption | omega | exact zk_66) only [zb_66_0, r_aload_0, r_aload_1, r_gf_448, r_gf_449, un, uc, r_pf_448, r_pf_449, zput_r, r_iconst, r_istore_2i, r_istore_2r, r_istore_2j, r_goto_w]
  generalize hV0 : zput (zput V a 0 (zi ρ.n)) a 1 (zi ρ.c) = V0
  have F0 : zFr a V V0 := by rw [← hV0]; exact (zFr.put (by omega) (by omega)).tr (zFr.put (by omega) (by omega))
  have P0 : zStP s V0 a := by rw [← hV0]; exact (hP.putf (by omega) (by omega)).putf (by omega) (by omega)
  have N0 : V0 a 0 = zi ρ.n ∧ V0 a 1 = zi ρ.c := by rw [← hV0]; exact ⟨(zput_k (by omega)).trans zput_at, zput_at⟩
  have hx := z_iter (i := 0) (n := 9) (I := fun k (q : zV) => zFr a V q ∧ zStP s q a ∧ (q a 0 = zi ρ.n ∧ q a 1 = zi ρ.c) ∧ ∀ i : Nat, (i : Int) < k → ∀ x : Int, 0 ≤ x → x < 12 → q (a + 2 + i) x = V (b + 2 + i) x) (P := fun k q => zwp (zcall d) 66 Q (zB 66 1) [.ref a, .ref b, zi k] [] (s, q)) (by omega)
  refine hx ?_ ?_ V0 ⟨F0, P0, N0, fun i hi => by omega⟩
  · rintro k V1 k0 k1 ⟨f1, p1, n1, e1⟩ ih
    obtain ⟨j, rfl⟩ : ∃ j : Nat, k = j := ⟨k.toNat, by omega⟩
    have Pb := hPb.fr f1 hab
    have va : V1 a 2 = .ref (a + 1) := p1.2.1
    have vb : V1 b 2 = .ref (b + 1) := Pb.2.1
    have ta := p1.2.2.1
    have la := p1.2.2.2.1
    have tb := Pb.2.2.1
    have lb := Pb.2.2.2.1
    obtain ⟨ra, sa, qa⟩ := p1.2.2.2.2.2.2.2.1 j (by omega)
    obtain ⟨rb, sb, qb⟩ := Pb.2.2.2.2.2.2.2.1 j (by omega)
    rw [zb_66_1]
    simp (disch := first | assumption | exact zk_66 | ((repeat (first | exact z1n | refine z1I ?_ | refine z1R ?_)); done) | exact rfl | omega | decide) only [r_aload_0, r_aload_1, r_gf_448, r_pf_448, r_gf_449, r_pf_449, r_iconst, r_istore_2i, r_istore_2r, r_istore_2j, r_goto_w, r_iload_2, r_icmp_gt, r_gf_450, r_aaload, r_copy, r_iinc_2i, r_iinc_2r, r_iinc_2j, r_goto, r_gf_451, r_ret, va, vb, ra, rb, ↓reduceIte, not_true_eq_false, not_false_eq_true, Int.reduceEq, Int.reduceLE, Int.reduceLT, Int.reduceAdd, Int.reduceNeg, Int.reduceMul, Int.reduceSub, Int.reduceToNat]
    rw [if_neg (by omega)]
    refine ih _ ⟨f1.tr (zFr.row (by omega) (by omega)), ?_, ⟨(congrFun (zrow_r (by omega)) 0).trans n1.1, (congrFun (zrow_r (by omega)) 1).trans n1.2⟩, fun i hi x x0 x1 => ?_⟩
    · exact p1.of (congrFun (zrow_r (by omega)) 2) (congrFun (zrow_r (by omega)) 3) (zrow_r (by omega)) (zrow_r (by omega))
    · by_cases e : i = j
      · subst e
        rw [zrow_at]
        rw [if_pos (by omega), show (0 : Int) + (x - 0) = x by omega, f1 _ (by omega)]
      · rw [zrow_r (by omega)]
        exact e1 i (by omega) x x0 x1
  · rintro V1 ⟨f1, p1, n1, e1⟩
    simp (disch := first | assumption | exact zk_66 | ((repeat (first | exact z1n | refine z1I ?_ | refine z1R ?_)); done) | exact rfl | omega | decide) only [zb_66_1, zb_66_2, r_aload_0, r_aload_1, r_gf_448, r_pf_448, r_gf_449, r_pf_449, r_iconst, r_istore_2i, r_istore_2r, r_istore_2j, r_goto_w, r_iload_2, r_icmp_gt, r_gf_450, r_aaload, r_copy, r_iinc_2i, r_iinc_2r, r_iinc_2j, r_goto, r_gf_451, r_ret, ↓reduceIte, not_true_eq_false, not_false_eq_true, Int.reduceEq, Int.reduceLE, Int.reduceLT, Int.reduceAdd, Int.reduceNeg, Int.reduceMul, Int.reduceSub, Int.reduceToNat]
    have hy := z_iter (i := 0) (n := 6) (I := fun k (q : zV) => zFr a V q ∧ zStP s q a ∧ (q a 0 = zi ρ.n ∧ q a 1 = zi ρ.c) ∧ (∀ i : Nat, (i : Int) < 9 → ∀ x : Int, 0 ≤ x → x < 12 → q (a + 2 + i) x = V (b + 2 + i) x) ∧ ∀ i : Nat, (i : Int) < k → ∀ x : Int, 0 ≤ x → x < 24 → q (a + 12 + i) x = V (b + 12 + i) x) (P := fun k q => zwp (zcall d) 66 Q (zB 66 3) [.ref a, .ref b, zi k] [] (s, q)) (by omega)
    refine hy ?_ ?_ V1 ⟨f1, p1, n1, e1, fun i hi => by omega⟩
    · rintro k V1 k0 k1 ⟨f1, p1, n1, e1, e2⟩ ih
      obtain ⟨j, rfl⟩ : ∃ j : Nat, k = j := ⟨k.toNat, by omega⟩
      have Pb := hPb.fr f1 hab
      have va : V1 a 3 = .ref (a + 11) := p1.2.2.2.2.1
      have vb : V1 b 3 = .ref (b + 11) := Pb.2.2.2.2.1
      have ta := p1.2.2.2.2.2.1
      have la := p1.2.2.2.2.2.2.1
      have tb := Pb.2.2.2.2.2.1
      have lb := Pb.2.2.2.2.2.2.1
      obtain ⟨ra, sa, qa⟩ := p1.2.2.2.2.2.2.2.2 j (by omega)
      obtain ⟨rb, sb, qb⟩ := Pb.2.2.2.2.2.2.2.2 j (by omega)
      rw [zb_66_3]
      simp (disch := first | assumption | exact zk_66 | ((repeat (first | exact z1n | refine z1I ?_ | refine z1R ?_)); done) | exact rfl | omega | decide) only [r_aload_0, r_aload_1, r_gf_448, r_pf_448, r_gf_449, r_pf_449, r_iconst, r_istore_2i, r_istore_2r, r_istore_2j, r_goto_w, r_iload_2, r_icmp_gt, r_gf_450, r_aaload, r_copy, r_iinc_2i, r_iinc_2r, r_iinc_2j, r_goto, r_gf_451, r_ret, va, vb, ra, rb, ↓reduceIte, not_true_eq_false, not_false_eq_true, Int.reduceEq, Int.reduceLE, Int.reduceLT, Int.reduceAdd, Int.reduceNeg, Int.reduceMul, Int.reduceSub, Int.reduceToNat]
      rw [if_neg (by omega)]
      refine ih _ ⟨f1.tr (zFr.row (by omega) (by omega)), ?_, ⟨(congrFun (zrow_r (by omega)) 0).trans n1.1, (congrFun (zrow_r (by omega)) 1).trans n1.2⟩, fun i hi x x0 x1 => ?_, fun i hi x x0 x1 => ?_⟩
      · exact p1.of (congrFun (zrow_r (by omega)) 2) (congrFun (zrow_r (by omega)) 3) (zrow_r (by omega)) (zrow_r (by omega))
      · rw [zrow_r (by omega)]
        exact e1 i hi x x0 x1
      · by_cases e : i = j
        · subst e
          rw [zrow_at]
          rw [if_pos (by omega), show (0 : Int) + (x - 0) = x by omega, f1 _ (by omega)]
        · rw [zrow_r (by omega)]
          exact e2 i (by omega) x x0 x1
    · rintro V1 ⟨f1, p1, n1, e1, e2⟩
      simp (disch := first | assumption | exact zk_66 | ((repeat (first | exact z1n | refine z1I ?_ | refine z1R ?_)); done) | exact rfl | omega | decide) only [zb_66_3, zb_66_4, r_aload_0, r_aload_1, r_gf_448, r_pf_448, r_gf_449, r_pf_449, r_iconst, r_istore_2i, r_istore_2r, r_istore_2j, r_goto_w, r_iload_2, r_icmp_gt, r_gf_450, r_aaload, r_copy, r_iinc_2i, r_iinc_2r, r_iinc_2j, r_goto, r_gf_451, r_ret, ↓reduceIte, not_true_eq_false, not_false_eq_true, Int.reduceEq, Int.reduceLE, Int.reduceLT, Int.reduceAdd, Int.reduceNeg, Int.reduceMul, Int.reduceSub, Int.reduceToNat]
      refine hQ V1 f1 p1 ⟨n1.1, n1.2, fun k hk x x0 x1 => ?_, fun k hk x x0 x1 => ?_, fun x x0 x1 => ?_⟩
      · rw [e1 k (by omega) x x0 (by omega)]
        exact hC.2.2.1 k hk x x0 x1
      · rw [e2 k (by omega) x x0 (by omega)]
        exact hC.2.2.2.1 k hk x x0 x1
      · rw [e2 5 (by omega) x x0 (by omega)]
        exact hC.2.2.2.2 x x0 x1
end
