/-! SPREADING in thought -/
/-- those that fall in the k-th step (from 1 on) behind the fall of x -/
def zFal (ρ : zR) (x k : Int) : Nat := (zStp (zSteps (zGd ρ x) (k - 1).toNat) (zSteps (zGd ρ x) (k - 1).toNat).n).2
def zCalm (ρ : zR) (x k : Int) : Int := if zfst (fun j => decide (zFal ρ x j ≠ 0)) 1 k < k then zfst (fun j => decide (zFal ρ x j ≠ 0)) 1 k else -1
/-- x stays down -/
def zStay (ρ : zR) (x : Int) : Prop := ρ.S 6 x = 0 ∧ ρ.S 8 x = -1
theorem zStay.gd {ρ : zR} {x : Int} : zStay (zGd ρ x) x := by
  unfold zStay zGd
  simp only [zR.sS_S]
  simp
theorem zTurn_ne {ρ σ : zR} {v : Nat} {x y : Int} (h : y ≠ x) (w : Int) : (zTurn ρ v x σ).S w y = σ.S w y := by
  have e : ∀ (τ : zR) (w v' : Int), (∀ w', τ.S w' y = σ.S w' y) → ∀ w', (τ.sS w x v').S w' y = σ.S w' y := fun τ w v' h1 w' => by rw [zR.sS_S, if_neg (fun q => h q.2)]; exact h1 w'
  have e0 : ∀ w', σ.S w' y = σ.S w' y := fun _ => rfl
  have eS : ∀ b w', (zSt σ x b).S w' y = σ.S w' y := by
    intro b w'
    unfold zSt
    split
    · exact e _ _ _ e0 w'
    · split
      · exact e _ _ _ e0 w'
      · rfl
  unfold zTurn
  split
  · unfold zMd
    split
    · rfl
    · split
      · exact e _ _ _ (e _ _ _ (e _ _ _ (e _ _ _ e0))) w
      · exact e _ _ _ e0 w
  · split
    · exact e _ _ _ (e _ _ _ (e _ _ _ (eS _))) w
    · exact eS _ w
theorem zStp_stay {ρ : zR} (hW : zWF ρ) {x : Int} (x0 : 0 ≤ x) (x1 : x < ρ.n) (hs : zStay ρ x) : zStay (zStep ρ) x ∧ zin (zStp ρ ρ.n).2 x = false := by
  obtain ⟨n0, n1, c0, c1⟩ := hW.1
  have hin : zin (zDown ρ) x = true := (zms_bit n0 x0).mpr ⟨x1, by simp [hs.1]⟩
  have := zfo_inv (f := fun y (q : zR × Nat) => (zTurn ρ (zDown ρ) y q.1, if zFell ρ (zDown ρ) y q.1 = true then q.2 ||| zone y else q.2)) (x := (ρ, 0)) (k := ρ.n) (fun _ (q : zR × Nat) => zStay q.1 x ∧ zin q.2 x = false) ⟨hs, zin_zero x⟩ (fun j q j0 j1 hq => ?_) n0
  · exact this
  · dsimp only
    by_cases e : x = j
    · subst e
      have hT : zTurn ρ (zDown ρ) x q.1 = q.1 := by
        unfold zTurn
        rw [if_pos hin]
        unfold zMd
        rw [if_pos hq.1.2]
      have hF : zFell ρ (zDown ρ) x q.1 = false := by unfold zFell; rw [hin]; rfl
      rw [hT, hF, if_neg (by decide)]
      exact hq
    · refine ⟨?_, ?_⟩
      · unfold zStay
        rw [zTurn_ne e, zTurn_ne e]
        exact hq.1
      · split
        · rw [zin_or, hq.2, zone_bit j0 x0]
          simp
          omega
        · exact hq.2
theorem zSteps_stay {ρ : zR} (hW : zWF ρ) {x : Int} (x0 : 0 ≤ x) (x1 : x < ρ.n) (hs : zStay ρ x) (k : Nat) : zStay (zSteps ρ k) x := by
  induction k with
  | zero => exact hs
  | succ k ih =>
    have := zSteps_wf hW k
    exact (zStp_stay this.2 x0 (by rw [this.1.n]; exact x1) ih).1
theorem zFal_x {ρ : zR} (hW : zWF ρ) {x k : Int} (x0 : 0 ≤ x) (x1 : x < ρ.n) : zin (zFal ρ x k) x = false := by
  have h1 := zSteps_wf hW.gd (k - 1).toNat (ρ := zGd ρ x)
  have hn : (zSteps (zGd ρ x) (k - 1).toNat).n = ρ.n := h1.1.n
  exact (zStp_stay h1.2 x0 (by rw [hn]; exact x1) (zSteps_stay hW.gd x0 x1 zStay.gd _)).2
theorem zFal_lt {ρ : zR} (hW : zWF ρ) (x k : Int) : zFal ρ x k < 4096 := by
  have h1 := zSteps_wf hW.gd (k - 1).toNat (ρ := zGd ρ x)
  exact (zStp_inv h1.2 h1.2.1.1 (Int.le_refl _)).2.2
theorem zdf_none {a : Nat} {x : Int} (ha : a < 4096) (x0 : 0 ≤ x) (h : zin a x = false) : zdf a (zone x) = a := by
  refine zset_ext (zdf_lt ha) ha (fun y y0 y1 => ?_)
  rw [zin_df, zone_bit x0 y0]
  by_cases e : x = y
  · subst e; rw [h]; rfl
  · simp [e]
theorem zCalm_s {ρ : zR} {x k : Int} (hk : 1 ≤ k) : zCalm ρ x (k + 1) = if zCalm ρ x k = -1 then (if zFal ρ x k ≠ 0 then k else -1) else zCalm ρ x k := by
  obtain ⟨a, b, c, e⟩ := zfst_is (fun j => decide (zFal ρ x j ≠ 0)) (i := 1) (n := k) hk
  unfold zCalm
  generalize hf : zfst (fun j => decide (zFal ρ x j ≠ 0)) 1 k = f at *
  by_cases q : f < k
  · have : zfst (fun j => decide (zFal ρ x j ≠ 0)) 1 (k + 1) = f := zfst_eq a (by omega) c (fun _ => e q)
    rw [this, if_pos (by omega), if_pos q, if_neg (by omega)]
  · have hfk : f = k := by omega
    rw [if_neg q, if_pos rfl]
    by_cases q2 : zFal ρ x k ≠ 0
    · have : zfst (fun j => decide (zFal ρ x j ≠ 0)) 1 (k + 1) = k := zfst_eq hk (by omega) (by rw [← hfk]; exact c) (fun _ => by simpa using q2)
      rw [this, if_pos (by omega), if_pos q2]
    · have : zfst (fun j => decide (zFal ρ x j ≠ 0)) 1 (k + 1) = k + 1 := zfst_eq (by omega) (Int.le_refl _) (fun j j0 j1 => by
        by_cases q3 : j = k
        · rw [q3]; simpa using q2
        · exact c j j0 (by omega)) (fun h => by omega)
      rw [this, if_neg (by omega), if_neg q2]
section
variable {d : Nat} {s : zS} {V : zV} {Q : zO → zH → Prop} {a : Nat} {ρ : zR} {h : zH}
set_option maxRecDepth 20000 in
theorem m_spreads (hd : 6 ≤ d) (hM : zMP s V) (hC : zMC ρ V) (hI : zInts V 165 230) (hW : zWF ρ) {x : Int} (x0 : 0 ≤ x) (x1 : x < ρ.n) (hQ : ∀ V', zFm [165, 167] [36] V V' → (∀ i, 0 ≤ i → i < 230 → V' 165 i = V 165 i) → V' 164 36 = zi (zCalm ρ x 41) → Q (.inl (some (zi (zDown (zSteps (zGd ρ x) 40) : Nat)))) (s, V')) : zcall d 236 [.ref 164, zi x] (s, V) Q := by
  obtain ⟨n0, n1, c0, c1⟩ := hW.1
  have tM := hM.1
  have vm_s : V 164 0 = .ref 165 := (hM.2 0 (by decide)).1
  have tm_s : s.tg 165 = 20 := (hM.2 0 (by decide)).2.1
  have lm_s : s.ln 165 = 230 := (hM.2 0 (by decide)).2.2
  obtain ⟨d, rfl⟩ : ∃ e, d = e + 1 := ⟨d - 1, by omega⟩
  simp (disch := first | assumption | omega) only [zc_236]
  simp (disch := first | assumption | exact zk_236 | ((repeat (first | exact z1n | refine z1I ?_ | refine z1R ?_)); done) | exact rfl | omega | decide) only [zb_236_0, r_aload_0, r_inv_1_0, r_inv_1_1, r_inv_1_2, r_inv_1_3, r_inv_1_4, r_K0, r_K1, r_iload_1, r_inv_2_0, r_inv_2_1, r_inv_2_2, r_inv_2_3, r_inv_2_4, r_iconst, r_pf_676, r_istore_2i, r_istore_2r, r_istore_2j, r_goto_w, r_iload_2, r_icmp_gt, r_ishl, r_ixor, r_iand, r_istore_3i, r_istore_3r, r_istore_3j, r_gf_676, r_icmp_ne, r_iload_3, r_if_eq, r_goto, r_iinc_2i, r_iinc_2r, r_iinc_2j, r_iret, r_bret_0, r_bret_1, vm_s, ↓reduceIte, not_true_eq_false, not_false_eq_true, Int.reduceEq, Int.reduceLE, Int.reduceLT, Int.reduceAdd, Int.reduceNeg, Int.reduceMul, Int.reduceSub, Int.reduceToNat]
  refine m_hold (by omega) hM hI (fun V1 f1 a1 => ?_)
  have hM1 : zMP s V1 := hM.fm f1 (by decide)
  have hC1 : zMC ρ V1 := hC.fm f1 (by decide)
  have I1 : zInts V1 165 230 := by unfold zInts; rw [f1.1 165 (by omega) (by simp)]; exact hI
  simp (disch := first | assumption | exact zk_236 | ((repeat (first | exact z1n | refine z1I ?_ | refine z1R ?_)); done) | exact rfl | omega | decide) only [r_aload_0, r_inv_1_0, r_inv_1_1, r_inv_1_2, r_inv_1_3, r_inv_1_4, r_K0, r_K1, r_iload_1, r_inv_2_0, r_inv_2_1, r_inv_2_2, r_inv_2_3, r_inv_2_4, r_iconst, r_pf_676, r_istore_2i, r_istore_2r, r_istore_2j, r_goto_w, r_iload_2, r_icmp_gt, r_ishl, r_ixor, r_iand, r_istore_3i, r_istore_3r, r_istore_3j, r_gf_676, r_icmp_ne, r_iload_3, r_if_eq, r_goto, r_iinc_2i, r_iinc_2r, r_iinc_2j, r_iret, r_bret_0, r_bret_1, vm_s, ↓reduceIte, not_true_eq_false, not_false_eq_true, Int.reduceEq, Int.reduceLE, Int.reduceLT, Int.reduceAdd, Int.reduceNeg, Int.reduceMul, Int.reduceSub, Int.reduceToNat]
  refine m_goesDown (by omega) hM1 hC1 n1 x0 x1 (fun V2 f2 hC2 => ?_)
  simp (disch := first | assumption | exact zk_236 | ((repeat (first | exact z1n | refine z1I ?_ | refine z1R ?_)); done) | exact rfl | omega | decide) only [r_aload_0, r_inv_1_0, r_inv_1_1, r_inv_1_2, r_inv_1_3, r_inv_1_4, r_K0, r_K1, r_iload_1, r_inv_2_0, r_inv_2_1, r_inv_2_2, r_inv_2_3, r_inv_2_4, r_iconst, r_pf_676, r_istore_2i, r_istore_2r, r_istore_2j, r_goto_w, r_iload_2, r_icmp_gt, r_ishl, r_ixor, r_iand, r_istore_3i, r_istore_3r, r_istore_3j, r_gf_676, r_icmp_ne, r_iload_3, r_if_eq, r_goto, r_iinc_2i, r_iinc_2r, r_iinc_2j, r_iret, r_bret_0, r_bret_1, vm_s, ↓reduceIte, not_true_eq_false, not_false_eq_true, Int.reduceEq, Int.reduceLE, Int.reduceLT, Int.reduceAdd, Int.reduceNeg, Int.reduceMul, Int.reduceSub, Int.reduceToNat]
  have F2 : zFm [165, 167] [36] V V2 := (f1.mono (fun r hr => by simp at hr; simp [hr]) (fun _ h => by simp at h)).tr (f2.1.mono (fun r hr => by simp at hr; simp [hr]) (fun _ h => by simp at h))
  have A2 : ∀ i, 0 ≤ i → i < 230 → V2 167 i = V 165 i := fun i i0 i1 => by rw [f2.1.1 167 (by omega) (by simp)]; exact a1 i i0 i1
  have hx := z_iter (i := 1) (n := 41) (I := fun k (q : zV × Value) => zFm [165, 167] [36] V q.1 ∧ (∀ i, 0 ≤ i → i < 230 → q.1 167 i = V 165 i) ∧ zMC (zSteps (zGd ρ x) (k - 1).toNat) q.1 ∧ q.1 164 36 = zi (zCalm ρ x k)) (P := fun k q => zwp (zcall d) 236 Q (zB 236 1) [.ref 164, zi x, zi k, q.2] [] (s, q.1)) (by omega)
  refine hx ?_ ?_ (zput V2 164 36 (zi (-1)), zJ) ⟨F2.pf (by simp), fun i i0 i1 => ?_, hC2.fm (zFm.rf.pf (l := []) (ks := [36]) (by simp)) (by simp), ?_⟩
  · rintro k ⟨V3, w⟩ k0 k1 ⟨f3, a3, hC3, u3⟩ ih
    dsimp only at f3 a3 hC3 u3 ih ⊢
    have hM3 : zMP s V3 := hM.fm f3 (by decide)
    have hWk := zSteps_wf hW.gd (k - 1).toNat (ρ := zGd ρ x)
    conv => rw [zb_236_1]
    simp (disch := first | assumption | exact zk_236 | ((repeat (first | exact z1n | refine z1I ?_ | refine z1R ?_)); done) | exact rfl | omega | decide) only [r_aload_0, r_inv_1_0, r_inv_1_1, r_inv_1_2, r_inv_1_3, r_inv_1_4, r_K0, r_K1, r_iload_1, r_inv_2_0, r_inv_2_1, r_inv_2_2, r_inv_2_3, r_inv_2_4, r_iconst, r_pf_676, r_istore_2i, r_istore_2r, r_istore_2j, r_goto_w, r_iload_2, r_icmp_gt, r_ishl, r_ixor, r_iand, r_istore_3i, r_istore_3r, r_istore_3j, r_gf_676, r_icmp_ne, r_iload_3, r_if_eq, r_goto, r_iinc_2i, r_iinc_2r, r_iinc_2j, r_iret, r_bret_0, r_bret_1, vm_s, ↓reduceIte, not_true_eq_false, not_false_eq_true, Int.reduceEq, Int.reduceLE, Int.reduceLT, Int.reduceAdd, Int.reduceNeg, Int.reduceMul, Int.reduceSub, Int.reduceToNat]
    rw [if_neg (by omega)]
    refine m_step (by omega) hM3 hC3 hWk.2 (fun V4 f4 hC4 => ?_)
    have hfl := zFal_lt hW x k
    have hdn := zdf_none hfl x0 (zFal_x hW x0 x1)
    have hzo := zone_lt (x := x) (by omega)
    have hfe : (zStp (zSteps (zGd ρ x) (k - 1).toNat) (zSteps (zGd ρ x) (k - 1).toNat).n).2 = zFal ρ x k := rfl
    rw [hfe]
    generalize hfv : zFal ρ x k = fv at *
    have u4 : V4 164 36 = zi (zCalm ρ x k) := (f4.1.2 36 (by simp)).trans u3
    have hcs := zCalm_s (ρ := ρ) (x := x) k0
    rw [hfv] at hcs
    have hcr : -1 ≤ zCalm ρ x k ∧ zCalm ρ x k ≤ 41 := by
      obtain ⟨z1, z2, -, -⟩ := zfst_is (fun j => decide (zFal ρ x j ≠ 0)) (i := 1) (n := k) k0
      unfold zCalm
      split <;> omega
    have fin : ∀ w' v, v = zCalm ρ x (k + 1) → zwp (zcall d) 236 Q (zB 236 1) [.ref 164, zi x, zi (k + 1), w'] [] (s, zput V4 164 36 (zi v)) := by
      intro w' v hv
      refine ih (zput V4 164 36 (zi v), w') ⟨(f3.tr (f4.1.mono (fun r hr => by simp at hr; simp [hr]) (fun _ h => by simp at h))).pf (by simp), fun i i0 i1 => ?_, ?_, ?_⟩
      · show zput V4 164 36 (zi v) 167 i = _
        rw [zput_r (by omega), f4.1.1 167 (by omega) (by simp)]
        exact a3 i i0 i1
      · have e : (k + 1 - 1).toNat = (k - 1).toNat + 1 := by omega
        rw [e]
        exact hC4.fm (zFm.rf.pf (l := []) (ks := [36]) (by simp)) (by simp)
      · show zput V4 164 36 (zi v) 164 36 = _
        rw [zput_at, hv]
    rw [hcs] at fin
    simp (disch := first | assumption | exact zk_236 | ((repeat (first | exact z1n | refine z1I ?_ | refine z1R ?_)); done) | exact rfl | omega | decide) only [zb_236_2, zb_236_3, r_aload_0, r_inv_1_0, r_inv_1_1, r_inv_1_2, r_inv_1_3, r_inv_1_4, r_K0, r_K1, r_iload_1, r_inv_2_0, r_inv_2_1, r_inv_2_2, r_inv_2_3, r_inv_2_4, r_iconst, r_pf_676, r_istore_2i, r_istore_2r, r_istore_2j, r_goto_w, r_iload_2, r_icmp_gt, r_ishl, r_ixor, r_iand, r_istore_3i, r_istore_3r, r_istore_3j, r_gf_676, r_icmp_ne, r_iload_3, r_if_eq, r_goto, r_iinc_2i, r_iinc_2r, r_iinc_2j, r_iret, r_bret_0, r_bret_1, vm_s, zshl_z, zandn_n, hdn, u4, ↓reduceIte, not_true_eq_false, not_false_eq_true, Int.reduceEq, Int.reduceLE, Int.reduceLT, Int.reduceAdd, Int.reduceNeg, Int.reduceMul, Int.reduceSub, Int.reduceToNat]
    by_cases q : zCalm ρ x k = -1
    · rw [if_neg (by omega)]
      by_cases q2 : fv = 0
      · rw [if_pos (by omega)]
        exact fin _ _ (by rw [if_pos q, if_neg (by omega)]; exact q)
      · rw [if_neg (by omega)]
        exact fin _ _ (by rw [if_pos q, if_pos q2])
    · rw [if_pos q]
      exact fin _ _ (by rw [if_neg q])
  · rintro ⟨V3, w⟩ ⟨f3, a3, hC3, u3⟩
    dsimp only at f3 a3 hC3 u3 ⊢
    have hM3 : zMP s V3 := hM.fm f3 (by decide)
    have hWk := (zSteps_wf hW.gd 40 (ρ := zGd ρ x)).2
    have hC : zMC (zSteps (zGd ρ x) 40) V3 := hC3
    simp (disch := first | assumption | exact zk_236 | ((repeat (first | exact z1n | refine z1I ?_ | refine z1R ?_)); done) | exact rfl | omega | decide) only [zb_236_1, zb_236_4, r_aload_0, r_inv_1_0, r_inv_1_1, r_inv_1_2, r_inv_1_3, r_inv_1_4, r_K0, r_K1, r_iload_1, r_inv_2_0, r_inv_2_1, r_inv_2_2, r_inv_2_3, r_inv_2_4, r_iconst, r_pf_676, r_istore_2i, r_istore_2r, r_istore_2j, r_goto_w, r_iload_2, r_icmp_gt, r_ishl, r_ixor, r_iand, r_istore_3i, r_istore_3r, r_istore_3j, r_gf_676, r_icmp_ne, r_iload_3, r_if_eq, r_goto, r_iinc_2i, r_iinc_2r, r_iinc_2j, r_iret, r_bret_0, r_bret_1, vm_s, m_downs (hC := hC), ↓reduceIte, not_true_eq_false, not_false_eq_true, Int.reduceEq, Int.reduceLE, Int.reduceLT, Int.reduceAdd, Int.reduceNeg, Int.reduceMul, Int.reduceSub, Int.reduceToNat]
    refine m_restore (by omega) hM3 (fun i i0 i1 => by rw [a3 i i0 i1]; exact hI i i0 i1) (fun V4 f4 r4 => ?_)
    simp (disch := first | assumption | exact zk_236 | ((repeat (first | exact z1n | refine z1I ?_ | refine z1R ?_)); done) | exact rfl | omega | decide) only [r_aload_0, r_inv_1_0, r_inv_1_1, r_inv_1_2, r_inv_1_3, r_inv_1_4, r_K0, r_K1, r_iload_1, r_inv_2_0, r_inv_2_1, r_inv_2_2, r_inv_2_3, r_inv_2_4, r_iconst, r_pf_676, r_istore_2i, r_istore_2r, r_istore_2j, r_goto_w, r_iload_2, r_icmp_gt, r_ishl, r_ixor, r_iand, r_istore_3i, r_istore_3r, r_istore_3j, r_gf_676, r_icmp_ne, r_iload_3, r_if_eq, r_goto, r_iinc_2i, r_iinc_2r, r_iinc_2j, r_iret, r_bret_0, r_bret_1, vm_s, ↓reduceIte, not_true_eq_false, not_false_eq_true, Int.reduceEq, Int.reduceLE, Int.reduceLT, Int.reduceAdd, Int.reduceNeg, Int.reduceMul, Int.reduceSub, Int.reduceToNat]
    exact hQ V4 (f3.tr (f4.mono (fun r hr => by simp at hr; simp [hr]) (fun _ h => by simp at h))) (fun i i0 i1 => by rw [r4 i i0 i1]; exact a3 i i0 i1) ((f4.2 36 (by simp)).trans u3)
  · show zput V2 164 36 (zi (-1)) 167 i = _
    rw [zput_r (by omega)]
    exact A2 i i0 i1
  · show zput V2 164 36 (zi (-1)) 164 36 = _
    rw [zput_at]
    rfl
end
