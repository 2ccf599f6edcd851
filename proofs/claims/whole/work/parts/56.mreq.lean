/-! REQUEST, 4: one level of the model's run -/
def zLvF : List Nat := [172, 173, 174, 175, 176, 177, 178, 179, 180, 181, 182]
def zLvK : List Int := [20, 22, 23, 24, 25, 26, 27, 34]
def zMS (s : zS) (V0 : zV) (ρ : zR) (L x mo bu : Int) (ν : zN) (V : zV) : Prop := zMP s V ∧ zMC ρ V ∧ zFm zLvF zLvK V0 V ∧ (∀ r : Nat, 172 ≤ r → r ≤ 180 → ∀ i : Int, 0 ≤ i → i < L → V r i = V0 r i) ∧ (V 164 20 = zi L ∧ V 172 L = zi x ∧ V 173 L = zi mo ∧ V 174 L = zi bu) ∧ zMN ν V ∧ zNok2 ν
section
variable {d : Nat} {s : zS} {V V0 : zV} {Q : zO → zH → Prop} {ρ : zR} {ν ν' : zN} {L x mo bu : Int}
theorem zMS.fm {V' : zV} {l : List Nat} {ks : List Int} (h : zMS s V0 ρ L x mo bu ν V) (f : zFm l ks V V') (hl : ∀ r ∈ l, r ∈ zLvF) (hk : ∀ k ∈ ks, k ∈ zLvK) (h20 : 20 ∉ ks) (hlow : ∀ r : Nat, 172 ≤ r → r ≤ 180 → ∀ i : Int, i ≠ L → V' r i = V r i) (h3 : V' 172 L = V 172 L ∧ V' 173 L = V 173 L ∧ V' 174 L = V 174 L) (hN : zMN ν' V') (hk2 : zNok2 ν') : zMS s V0 ρ L x mo bu ν' V' := by
  obtain ⟨a1, a2, a3, a4, ⟨b1, b2, b3, b4⟩, -, -⟩ := h
  have f' : zFm zLvF zLvK V V' := f.mono hl hk
  refine ⟨a1.fm f' (by decide), a2.fm f' (by decide), a3.tr f', fun r r0 r1 i i0 i1 => (hlow r r0 r1 i (by omega)).trans (a4 r r0 r1 i i0 i1), ⟨(f.2 20 h20).trans b1, h3.1.trans b2, h3.2.1.trans b3, h3.2.2.trans b4⟩, hN, hk2⟩
theorem zMS.put (h : zMS s V0 ρ L x mo bu ν V) {r : Nat} {v : Value} (r0 : 175 ≤ r) (r1 : r ≤ 180) : zMS s V0 ρ L x mo bu ν (zput V r L v) :=
  h.fm (l := [r]) (ks := []) (zFm.rf.pr (by simp) (by omega)) (fun r' hr => by simp at hr; rw [hr]; unfold zLvF; simp; omega) (fun _ h => by simp at h) (by simp) (fun r' _ _ i hi => zput_i hi) ⟨zput_r (by omega), zput_r (by omega), zput_r (by omega)⟩ (h.2.2.2.2.2.1.of (fun k _ => zput_r (by omega)) (zput_row (by omega)) (zput_row (by omega))) h.2.2.2.2.2.2
theorem zMS.suc (h : zMS s V0 ρ L x mo bu ν V) {v : Value} : zMS s V0 ρ L x mo bu ν (zput V 164 34 v) :=
  h.fm (l := []) (ks := [34]) (zFm.rf.pf (by simp)) (fun r' hr => by simp at hr) (fun k h => by simp at h; rw [h]; decide) (by simp) (fun r' _ _ i hi => zput_r (by omega)) ⟨zput_r (by omega), zput_r (by omega), zput_r (by omega)⟩ (h.2.2.2.2.2.1.of (fun k hk => zput_k (by omega)) (zput_row (by omega)) (zput_row (by omega))) h.2.2.2.2.2.2
theorem zMS.miss (h : zMS s V0 ρ L x mo bu ν V) : zMS s V0 ρ L x mo bu (zNm ν) (zput V 164 22 (zi (ν.mi + 1))) := by
  obtain ⟨⟨a1, a2, a3, a4, a5, a6⟩, b, c, i1, i2⟩ := h.2.2.2.2.2.1
  refine h.fm (l := []) (ks := [22]) (zFm.rf.pf (by simp)) (fun r' hr => by simp at hr) (fun k h => by simp at h; rw [h]; decide) (by simp) (fun r' _ _ i hi => zput_r (by omega)) ⟨zput_r (by omega), zput_r (by omega), zput_r (by omega)⟩ ?_ h.2.2.2.2.2.2
  exact ⟨⟨zput_at, (zput_k (by omega)).trans a2, (zput_k (by omega)).trans a3, (zput_k (by omega)).trans a4, (zput_k (by omega)).trans a5, (zput_k (by omega)).trans a6⟩, fun w k w0 w1 k0 k1 => (zput_r (by omega)).trans (b w k w0 w1 k0 k1), fun w k w0 w1 k0 k1 => (zput_r (by omega)).trans (c w k w0 w1 k0 k1), fun i i0 i1' => by rw [zput_r (by omega)]; exact i1 i i0 i1', fun i i0 i1' => by rw [zput_r (by omega)]; exact i2 i i0 i1'⟩
/-- a failure is noted at this level; the level's places stay -/
theorem m_note (hd : 1 ≤ d) (h : zMS s V0 ρ L x mo bu ν V) (l0 : 0 ≤ L) (l1 : L < 13) (x0 : 0 ≤ x) (x1 : x < 12) {u kind : Int} (eu : V 175 L = zi u) (k0 : 1 ≤ kind) (k1 : kind ≤ 4) (hQ : ∀ V', zMS s V0 ρ L x mo bu (zNfl ν x kind (mo + u) bu) V' → (∀ r : Nat, 172 ≤ r → r ≤ 180 → V' r = V r) → V' 164 34 = V 164 34 → Q (.inl none) (s, V')) : zcall d 209 [.ref 164, zi kind] (s, V) Q := by
  have h' := h
  obtain ⟨a1, a2, a3, a4, ⟨b1, b2, b3, b4⟩, b5, b6⟩ := h'
  refine m_notesFailure hd a1 b5 b6 l0 l1 b1 b2 b3 b4 eu x0 x1 k0 k1 (fun V' f hN => ?_)
  have rows : ∀ r : Nat, 172 ≤ r → r ≤ 180 → V' r = V r := fun r r0 r1 => f.1 r (by omega) (by simp; omega)
  refine hQ V' (h.fm f (fun r hr => by simp at hr; rw [hr]; decide) (fun k hk => by simp at hk; rcases hk with rfl | rfl | rfl <;> decide) (by simp) (fun r r0 r1 i _ => by rw [rows r r0 r1]) ⟨by rw [rows 172 (by omega) (by omega)], by rw [rows 173 (by omega) (by omega)], by rw [rows 174 (by omega) (by omega)]⟩ hN (b6.fl x0 x1)) rows (f.2 34 (by simp))
/-- where a level stands: time used, present call, head, tries made, won -/
def zPos (V : zV) (L u c hh k : Int) (w : Bool) : Prop := V 175 L = zi u ∧ V 176 L = zi c ∧ V 177 L = zi hh ∧ V 178 L = zi k ∧ V 179 L = zi (zb1 w)
theorem zPos.rows {V V' : zV} {L u c hh k : Int} {w : Bool} (h : zPos V L u c hh k w) (hr : ∀ r : Nat, 172 ≤ r → r ≤ 180 → V' r = V r) : zPos V' L u c hh k w := by
  obtain ⟨a1, a2, a3, a4, a5⟩ := h
  refine ⟨?_, ?_, ?_, ?_, ?_⟩
  · rw [hr 175 (by omega) (by omega)]; exact a1
  · rw [hr 176 (by omega) (by omega)]; exact a2
  · rw [hr 177 (by omega) (by omega)]; exact a3
  · rw [hr 178 (by omega) (by omega)]; exact a4
  · rw [hr 179 (by omega) (by omega)]; exact a5
/-- the first head of x from p on -/
def zNH (ρ : zR) (x p : Int) : Int := zfst (fun j => decide (ρ.K 0 j = x ∧ ρ.K 4 j ≠ 2)) p ρ.c
set_option maxRecDepth 20000 in
theorem m_open (hd : 1 ≤ d) (h : zMS s V0 ρ L x mo bu ν V) (l0 : 0 ≤ L) (l1 : L < 13) {u c : Int} (eu : V 175 L = zi u) (hQ : ∀ V', zMS s V0 ρ L x mo bu ν V' → zPos V' L u c c 0 false → V' 164 34 = V 164 34 → Q (.inl none) (s, V')) : zcall d 212 [.ref 164, zi c] (s, V) Q := by
  rw [m_opens hd h.1 l0 l1 h.2.2.2.2.1.1]
  refine hQ _ ((((h.put (by omega) (by omega)).put (by omega) (by omega)).put (by omega) (by omega)).put (by omega) (by omega)) ⟨?_, ?_, ?_, ?_, zput_at⟩ ?_
  · simp (disch := omega) only [zput_r]; exact eu
  · simp (disch := omega) only [zput_r, zput_at]
  · simp (disch := omega) only [zput_r, zput_at]
  · simp (disch := omega) only [zput_r, zput_at]
  · simp (disch := omega) only [zput_r]
set_option maxRecDepth 20000 in
theorem m_closes (hd : 4 ≤ d) (hW : zWF ρ) (h : zMS s V0 ρ L x mo bu ν V) (l0 : 0 ≤ L) (l1 : L < 13) (x0 : 0 ≤ x) (x1 : x < ρ.n) {u c hh k : Int} {w : Bool} (hp : zPos V L u c hh k w) (c0 : 0 ≤ c) (c1 : c < ρ.c) (h0 : 0 ≤ hh) (h1 : hh < ρ.c)
    (hwon : w = true → ∀ V', zMS s V0 ρ L x mo bu ν V' → zPos V' L u (zNH ρ x (c + 1)) (zNH ρ x (c + 1)) 0 false → Q (.inl (some (zi 0))) (s, V'))
    (hrep : w = false → zNext ρ x c < ρ.c → ρ.K 4 (zNext ρ x c) = 2 → ∀ V', zMS s V0 ρ L x mo bu ν V' → zPos V' L u (zNext ρ x c) hh 0 false → Q (.inl (some (zi 0))) (s, V'))
    (hend : w = false → ¬ (zNext ρ x c < ρ.c ∧ ρ.K 4 (zNext ρ x c) = 2) → ρ.K 4 hh = 0 → ∀ V', zMS s V0 ρ L x mo bu (zNfl ν x 4 (mo + u) bu) V' → V' 175 L = zi u → V' 164 34 = zi 0 → Q (.inl (some (zi 2))) (s, V'))
    (hmis : w = false → ¬ (zNext ρ x c < ρ.c ∧ ρ.K 4 (zNext ρ x c) = 2) → ρ.K 4 hh ≠ 0 → ∀ V', zMS s V0 ρ L x mo bu (zNm ν) V' → zPos V' L u (zNext ρ x c) (zNext ρ x c) 0 false → Q (.inl (some (zi 0))) (s, V')) : zcall d 214 [.ref 164, zi x, zi c] (s, V) Q := by
  obtain ⟨n0, n1, cc0, cc1⟩ := hW.1
  have h' := h
  obtain ⟨hM, hC, a3, a4, ⟨b1, b2, b3, b4⟩, b5, b6⟩ := h'
  obtain ⟨p1, p2, p3, p4, p5⟩ := hp
  have tM := hM.1
  have vm_s : V 164 0 = .ref 165 := (hM.2 0 (by decide)).1
  have tm_s : s.tg 165 = 20 := (hM.2 0 (by decide)).2.1
  have lm_s : s.ln 165 = 230 := (hM.2 0 (by decide)).2.2
  have vm_present : V 164 15 = .ref 176 := (hM.2 11 (by decide)).1
  have tm_present : s.tg 176 = 20 := (hM.2 11 (by decide)).2.1
  have lm_present : s.ln 176 = 13 := (hM.2 11 (by decide)).2.2
  have vm_head : V 164 16 = .ref 177 := (hM.2 12 (by decide)).1
  have tm_head : s.tg 177 = 20 := (hM.2 12 (by decide)).2.1
  have lm_head : s.ln 177 = 13 := (hM.2 12 (by decide)).2.2
  have vm_made : V 164 17 = .ref 178 := (hM.2 13 (by decide)).1
  have tm_made : s.tg 178 = 20 := (hM.2 13 (by decide)).2.1
  have lm_made : s.ln 178 = 13 := (hM.2 13 (by decide)).2.2
  have vm_won : V 164 18 = .ref 179 := (hM.2 14 (by decide)).1
  have tm_won : s.tg 179 = 23 := (hM.2 14 (by decide)).2.1
  have lm_won : s.ln 179 = 13 := (hM.2 14 (by decide)).2.2
  have gc := hC.2.1
  have gmi := b5.1.1
  obtain ⟨d, rfl⟩ : ∃ e, d = e + 1 := ⟨d - 1, by omega⟩
  simp (disch := first | assumption | omega) only [zc_214]
  simp (disch := first | assumption | exact zk_214 | ((repeat (first | exact z1n | refine z1I ?_ | refine z1R ?_)); done) | exact rfl | omega | decide) only [zb_214_0, r_aload_0, r_iload_1, r_iload_2, r_inv_3_0, r_inv_3_1, r_inv_3_2, r_inv_3_3, r_inv_3_4, r_K0, r_K1, r_istore_3i, r_istore_3r, r_istore_3j, r_goto_w, r_gf_658, r_gf_660, r_baload, r_if_eq, r_iload_3, r_gf_640, r_iconst, r_ial, r_ial30, r_ial32, r_icmp_ge, r_inv_2_0, r_inv_2_1, r_inv_2_2, r_inv_2_3, r_inv_2_4, r_goto, r_if_ne, r_gf_655, r_iastore, r_gf_657, r_iret, r_bret_0, r_bret_1, r_gf_656, r_pf_674_0, r_pf_674_1, r_pf_674, r_dup_i, r_dup_r, r_gf_662, r_iadd, r_pf_662, vm_s, vm_present, vm_head, vm_made, vm_won, m_nextCall (hC := hC), ↓reduceIte, not_true_eq_false, not_false_eq_true, Int.reduceEq, Int.reduceLE, Int.reduceLT, Int.reduceAdd, Int.reduceNeg, Int.reduceMul, Int.reduceSub, Int.reduceToNat]
  have nxr : ∀ j, -1 ≤ j → j < ρ.c → j < zNext ρ x j ∧ zNext ρ x j ≤ ρ.c ∧ (∀ i, j < i → i < zNext ρ x j → ρ.K 0 i ≠ x) ∧ (zNext ρ x j < ρ.c → ρ.K 0 (zNext ρ x j) = x) := by
    intro j j0 j1
    obtain ⟨a, b, c', e⟩ := zfst_is (fun i => decide (ρ.K 0 i = x)) (i := j + 1) (n := ρ.c) (by omega)
    unfold zNext
    exact ⟨by omega, b, fun i i0 i1 => by simpa using c' i (by omega) i1, fun q => by simpa using e q⟩
  obtain ⟨q1, q2, q3, q4⟩ := nxr c (by omega) c1
  cases w with
  | true =>
    have e5 : zb1 true = 1 := rfl
    rw [e5] at p5
    have hw := hwon rfl
    -- the loop over replacements
    have loop : ∀ (m : Nat) (j : Int), (ρ.c - j).toNat = m → c < j → j ≤ ρ.c → (j < ρ.c → ρ.K 0 j = x) → zNH ρ x (c + 1) = zNH ρ x j → zwp (zcall d) 214 Q (zB 214 1) [.ref 164, zi x, zi c, zi j] [] (s, V) := by
      intro m
      induction m using Nat.strongRecOn with
      | ind m ih =>
        intro j hm j0 j1 hj hnh
        conv => rw [zb_214_1]
        by_cases e : j < ρ.c ∧ ρ.K 4 j = 2
        · obtain ⟨r1, r2, r3, r4⟩ := nxr j (by omega) e.1
          have := ih (ρ.c - zNext ρ x j).toNat (by omega) (zNext ρ x j) rfl (by omega) r2 r4 (by
            rw [hnh]
            obtain ⟨s1, s2, s3, s4⟩ := zfst_is (fun i => decide (ρ.K 0 i = x ∧ ρ.K 4 i ≠ 2)) (i := zNext ρ x j) (n := ρ.c) r2
            refine zfst_eq (by have : zNext ρ x j ≤ zNH ρ x (zNext ρ x j) := s1; omega) s2 (fun i i0 i1 => ?_) s4
            by_cases z : i = j
            · rw [z]; simp [e.2]
            · by_cases z2 : i < zNext ρ x j
              · have := r3 i (by omega) z2; simp [this]
              · exact s3 i (by omega) i1)
          obtain ⟨e1, e2⟩ := e
          simp (disch := first | assumption | exact zk_214 | ((repeat (first | exact z1n | refine z1I ?_ | refine z1R ?_)); done) | exact rfl | omega | decide) only [r_aload_0, r_iload_1, r_iload_2, r_inv_3_0, r_inv_3_1, r_inv_3_2, r_inv_3_3, r_inv_3_4, r_K0, r_K1, r_istore_3i, r_istore_3r, r_istore_3j, r_goto_w, r_gf_658, r_gf_660, r_baload, r_if_eq, r_iload_3, r_gf_640, r_iconst, r_ial, r_ial30, r_ial32, r_icmp_ge, r_inv_2_0, r_inv_2_1, r_inv_2_2, r_inv_2_3, r_inv_2_4, r_goto, r_if_ne, r_gf_655, r_iastore, r_gf_657, r_iret, r_bret_0, r_bret_1, r_gf_656, r_pf_674_0, r_pf_674_1, r_pf_674, r_dup_i, r_dup_r, r_gf_662, r_iadd, r_pf_662, vm_s, vm_present, vm_head, vm_made, vm_won, b1, p5, gc, m_isRepl (hC := hC), e2, m_nextCall (hC := hC), ↓reduceIte, not_true_eq_false, not_false_eq_true, Int.reduceEq, Int.reduceLE, Int.reduceLT, Int.reduceAdd, Int.reduceNeg, Int.reduceMul, Int.reduceSub, Int.reduceToNat]
          rw [if_neg (by omega)]
          exact this
        · have hnj : zNH ρ x (c + 1) = j := by
            rw [hnh]
            refine zfst_eq (Int.le_refl _) j1 (fun i i0 i1 => by omega) (fun q => ?_)
            have := hj q
            simp [this]
            intro z
            exact e ⟨q, z⟩
          rw [hnj] at hw
          have z0 : ν.mi + 0 = ν.mi := by omega
          have hput : zput V 164 22 (zi ν.mi) = V := by
            rw [zput_zrow]
            exact zrow_self (fun i => by split; (rename_i z; rw [z]; exact gmi.symm); rfl)
          have fin : zwp (zcall d) 214 Q (zB 214 2) [.ref 164, zi x, zi c, zi j] [] (s, V) := by
            simp (disch := first | assumption | exact zk_214 | ((repeat (first | exact z1n | refine z1I ?_ | refine z1R ?_)); done) | exact rfl | omega | decide) only [zb_214_2, zb_214_3, zb_214_4, zb_214_5, zb_214_6, r_aload_0, r_iload_1, r_iload_2, r_inv_3_0, r_inv_3_1, r_inv_3_2, r_inv_3_3, r_inv_3_4, r_K0, r_K1, r_istore_3i, r_istore_3r, r_istore_3j, r_goto_w, r_gf_658, r_gf_660, r_baload, r_if_eq, r_iload_3, r_gf_640, r_iconst, r_ial, r_ial30, r_ial32, r_icmp_ge, r_inv_2_0, r_inv_2_1, r_inv_2_2, r_inv_2_3, r_inv_2_4, r_goto, r_if_ne, r_gf_655, r_iastore, r_gf_657, r_iret, r_bret_0, r_bret_1, r_gf_656, r_pf_674_0, r_pf_674_1, r_pf_674, r_dup_i, r_dup_r, r_gf_662, r_iadd, r_pf_662, vm_s, vm_present, vm_head, vm_made, vm_won, b1, p5, gmi, z0, hput, ↓reduceIte, not_true_eq_false, not_false_eq_true, Int.reduceEq, Int.reduceLE, Int.reduceLT, Int.reduceAdd, Int.reduceNeg, Int.reduceMul, Int.reduceSub, Int.reduceToNat]
            refine m_open (by omega) h l0 l1 p1 (fun V' g1 g2 _ => ?_)
            simp (disch := first | assumption | exact zk_214 | ((repeat (first | exact z1n | refine z1I ?_ | refine z1R ?_)); done) | exact rfl | omega | decide) only [r_aload_0, r_iload_1, r_iload_2, r_inv_3_0, r_inv_3_1, r_inv_3_2, r_inv_3_3, r_inv_3_4, r_K0, r_K1, r_istore_3i, r_istore_3r, r_istore_3j, r_goto_w, r_gf_658, r_gf_660, r_baload, r_if_eq, r_iload_3, r_gf_640, r_iconst, r_ial, r_ial30, r_ial32, r_icmp_ge, r_inv_2_0, r_inv_2_1, r_inv_2_2, r_inv_2_3, r_inv_2_4, r_goto, r_if_ne, r_gf_655, r_iastore, r_gf_657, r_iret, r_bret_0, r_bret_1, r_gf_656, r_pf_674_0, r_pf_674_1, r_pf_674, r_dup_i, r_dup_r, r_gf_662, r_iadd, r_pf_662, vm_s, vm_present, vm_head, vm_made, vm_won, ↓reduceIte, not_true_eq_false, not_false_eq_true, Int.reduceEq, Int.reduceLE, Int.reduceLT, Int.reduceAdd, Int.reduceNeg, Int.reduceMul, Int.reduceSub, Int.reduceToNat]
            exact hw V' g1 g2
          by_cases e1 : j < ρ.c
          · have e2 : ¬ ρ.K 4 j = 2 := fun z => e ⟨e1, z⟩
            simp (disch := first | assumption | exact zk_214 | ((repeat (first | exact z1n | refine z1I ?_ | refine z1R ?_)); done) | exact rfl | omega | decide) only [r_aload_0, r_iload_1, r_iload_2, r_inv_3_0, r_inv_3_1, r_inv_3_2, r_inv_3_3, r_inv_3_4, r_K0, r_K1, r_istore_3i, r_istore_3r, r_istore_3j, r_goto_w, r_gf_658, r_gf_660, r_baload, r_if_eq, r_iload_3, r_gf_640, r_iconst, r_ial, r_ial30, r_ial32, r_icmp_ge, r_inv_2_0, r_inv_2_1, r_inv_2_2, r_inv_2_3, r_inv_2_4, r_goto, r_if_ne, r_gf_655, r_iastore, r_gf_657, r_iret, r_bret_0, r_bret_1, r_gf_656, r_pf_674_0, r_pf_674_1, r_pf_674, r_dup_i, r_dup_r, r_gf_662, r_iadd, r_pf_662, vm_s, vm_present, vm_head, vm_made, vm_won, b1, p5, gc, m_isRepl (hC := hC), e2, ↓reduceIte, not_true_eq_false, not_false_eq_true, Int.reduceEq, Int.reduceLE, Int.reduceLT, Int.reduceAdd, Int.reduceNeg, Int.reduceMul, Int.reduceSub, Int.reduceToNat]
            rw [if_neg (by omega)]
            exact fin
          · have e3 : j = ρ.c := by omega
            subst e3
            simp (disch := first | assumption | exact zk_214 | ((repeat (first | exact z1n | refine z1I ?_ | refine z1R ?_)); done) | exact rfl | omega | decide) only [r_aload_0, r_iload_1, r_iload_2, r_inv_3_0, r_inv_3_1, r_inv_3_2, r_inv_3_3, r_inv_3_4, r_K0, r_K1, r_istore_3i, r_istore_3r, r_istore_3j, r_goto_w, r_gf_658, r_gf_660, r_baload, r_if_eq, r_iload_3, r_gf_640, r_iconst, r_ial, r_ial30, r_ial32, r_icmp_ge, r_inv_2_0, r_inv_2_1, r_inv_2_2, r_inv_2_3, r_inv_2_4, r_goto, r_if_ne, r_gf_655, r_iastore, r_gf_657, r_iret, r_bret_0, r_bret_1, r_gf_656, r_pf_674_0, r_pf_674_1, r_pf_674, r_dup_i, r_dup_r, r_gf_662, r_iadd, r_pf_662, vm_s, vm_present, vm_head, vm_made, vm_won, b1, p5, gc, Int.le_refl, ↓reduceIte, not_true_eq_false, not_false_eq_true, Int.reduceEq, Int.reduceLE, Int.reduceLT, Int.reduceAdd, Int.reduceNeg, Int.reduceMul, Int.reduceSub, Int.reduceToNat]
            exact fin
    exact loop _ (zNext ρ x c) rfl q1 q2 q4 (by
      obtain ⟨s1, s2, s3, s4⟩ := zfst_is (fun i => decide (ρ.K 0 i = x ∧ ρ.K 4 i ≠ 2)) (i := zNext ρ x c) (n := ρ.c) q2
      refine zfst_eq (by have : zNext ρ x c ≤ zNH ρ x (zNext ρ x c) := s1; omega) s2 (fun i i0 i1 => ?_) s4
      by_cases z2 : i < zNext ρ x c
      · have := q3 i (by omega) z2; simp [this]
      · exact s3 i (by omega) i1)
  | false =>
    have e5 : zb1 false = 0 := rfl
    rw [e5] at p5
    simp (disch := first | assumption | exact zk_214 | ((repeat (first | exact z1n | refine z1I ?_ | refine z1R ?_)); done) | exact rfl | omega | decide) only [zb_214_1, r_aload_0, r_iload_1, r_iload_2, r_inv_3_0, r_inv_3_1, r_inv_3_2, r_inv_3_3, r_inv_3_4, r_K0, r_K1, r_istore_3i, r_istore_3r, r_istore_3j, r_goto_w, r_gf_658, r_gf_660, r_baload, r_if_eq, r_iload_3, r_gf_640, r_iconst, r_ial, r_ial30, r_ial32, r_icmp_ge, r_inv_2_0, r_inv_2_1, r_inv_2_2, r_inv_2_3, r_inv_2_4, r_goto, r_if_ne, r_gf_655, r_iastore, r_gf_657, r_iret, r_bret_0, r_bret_1, r_gf_656, r_pf_674_0, r_pf_674_1, r_pf_674, r_dup_i, r_dup_r, r_gf_662, r_iadd, r_pf_662, vm_s, vm_present, vm_head, vm_made, vm_won, b1, p5, ↓reduceIte, not_true_eq_false, not_false_eq_true, Int.reduceEq, Int.reduceLE, Int.reduceLT, Int.reduceAdd, Int.reduceNeg, Int.reduceMul, Int.reduceSub, Int.reduceToNat]
    by_cases e : zNext ρ x c < ρ.c ∧ ρ.K 4 (zNext ρ x c) = 2
    · obtain ⟨e1, e2⟩ := e
      have := hrep rfl e1 e2 (zput (zput V 176 L (zi (zNext ρ x c))) 178 L (zi 0)) ((h.put (by omega) (by omega)).put (by omega) (by omega)) ⟨?_, ?_, ?_, zput_at, ?_⟩
      · simp (disch := first | assumption | exact zk_214 | ((repeat (first | exact z1n | refine z1I ?_ | refine z1R ?_)); done) | exact rfl | omega | decide) only [zb_214_2, r_aload_0, r_iload_1, r_iload_2, r_inv_3_0, r_inv_3_1, r_inv_3_2, r_inv_3_3, r_inv_3_4, r_K0, r_K1, r_istore_3i, r_istore_3r, r_istore_3j, r_goto_w, r_gf_658, r_gf_660, r_baload, r_if_eq, r_iload_3, r_gf_640, r_iconst, r_ial, r_ial30, r_ial32, r_icmp_ge, r_inv_2_0, r_inv_2_1, r_inv_2_2, r_inv_2_3, r_inv_2_4, r_goto, r_if_ne, r_gf_655, r_iastore, r_gf_657, r_iret, r_bret_0, r_bret_1, r_gf_656, r_pf_674_0, r_pf_674_1, r_pf_674, r_dup_i, r_dup_r, r_gf_662, r_iadd, r_pf_662, vm_s, vm_present, vm_head, vm_made, vm_won, b1, p5, gc, m_isRepl (hC := hC), e2, zput_r, ↓reduceIte, not_true_eq_false, not_false_eq_true, Int.reduceEq, Int.reduceLE, Int.reduceLT, Int.reduceAdd, Int.reduceNeg, Int.reduceMul, Int.reduceSub, Int.reduceToNat]
        rw [if_neg (by omega)]
        exact this
      · simp (disch := omega) only [zput_r]; exact p1
      · simp (disch := omega) only [zput_r, zput_at]
      · simp (disch := omega) only [zput_r]; exact p3
      · simp (disch := omega) only [zput_r]; exact p5
    · have mid : zwp (zcall d) 214 Q (zB 214 3) [.ref 164, zi x, zi c, zi (zNext ρ x c)] [] (s, V) := by
        have w4 := (hW.2.2.1 hh h0 h1).2.2.2.2
        by_cases e4 : ρ.K 4 hh = 0
        · simp (disch := first | assumption | exact zk_214 | ((repeat (first | exact z1n | refine z1I ?_ | refine z1R ?_)); done) | exact rfl | omega | decide) only [zb_214_3, r_aload_0, r_iload_1, r_iload_2, r_inv_3_0, r_inv_3_1, r_inv_3_2, r_inv_3_3, r_inv_3_4, r_K0, r_K1, r_istore_3i, r_istore_3r, r_istore_3j, r_goto_w, r_gf_658, r_gf_660, r_baload, r_if_eq, r_iload_3, r_gf_640, r_iconst, r_ial, r_ial30, r_ial32, r_icmp_ge, r_inv_2_0, r_inv_2_1, r_inv_2_2, r_inv_2_3, r_inv_2_4, r_goto, r_if_ne, r_gf_655, r_iastore, r_gf_657, r_iret, r_bret_0, r_bret_1, r_gf_656, r_pf_674_0, r_pf_674_1, r_pf_674, r_dup_i, r_dup_r, r_gf_662, r_iadd, r_pf_662, vm_s, vm_present, vm_head, vm_made, vm_won, b1, p5, p3, m_callOf (hC := hC), e4, ↓reduceIte, not_true_eq_false, not_false_eq_true, Int.reduceEq, Int.reduceLE, Int.reduceLT, Int.reduceAdd, Int.reduceNeg, Int.reduceMul, Int.reduceSub, Int.reduceToNat]
          refine m_note (by omega) h l0 l1 x0 (by omega) p1 (by omega) (by omega) (fun V' g1 g2 g3 => ?_)
          have t10 := g1.1.1
          have := hend rfl e e4 (zput V' 164 34 (zi 0)) g1.suc (by rw [zput_r (by omega), g2 175 (by omega) (by omega)]; exact p1) zput_at
          simp (disch := first | assumption | exact zk_214 | ((repeat (first | exact z1n | refine z1I ?_ | refine z1R ?_)); done) | exact rfl | omega | decide) only [r_aload_0, r_iload_1, r_iload_2, r_inv_3_0, r_inv_3_1, r_inv_3_2, r_inv_3_3, r_inv_3_4, r_K0, r_K1, r_istore_3i, r_istore_3r, r_istore_3j, r_goto_w, r_gf_658, r_gf_660, r_baload, r_if_eq, r_iload_3, r_gf_640, r_iconst, r_ial, r_ial30, r_ial32, r_icmp_ge, r_inv_2_0, r_inv_2_1, r_inv_2_2, r_inv_2_3, r_inv_2_4, r_goto, r_if_ne, r_gf_655, r_iastore, r_gf_657, r_iret, r_bret_0, r_bret_1, r_gf_656, r_pf_674_0, r_pf_674_1, r_pf_674, r_dup_i, r_dup_r, r_gf_662, r_iadd, r_pf_662, vm_s, vm_present, vm_head, vm_made, vm_won, ↓reduceIte, not_true_eq_false, not_false_eq_true, Int.reduceEq, Int.reduceLE, Int.reduceLT, Int.reduceAdd, Int.reduceNeg, Int.reduceMul, Int.reduceSub, Int.reduceToNat]
          exact this
        · simp (disch := first | assumption | exact zk_214 | ((repeat (first | exact z1n | refine z1I ?_ | refine z1R ?_)); done) | exact rfl | omega | decide) only [zb_214_3, zb_214_4, zb_214_5, zb_214_6, r_aload_0, r_iload_1, r_iload_2, r_inv_3_0, r_inv_3_1, r_inv_3_2, r_inv_3_3, r_inv_3_4, r_K0, r_K1, r_istore_3i, r_istore_3r, r_istore_3j, r_goto_w, r_gf_658, r_gf_660, r_baload, r_if_eq, r_iload_3, r_gf_640, r_iconst, r_ial, r_ial30, r_ial32, r_icmp_ge, r_inv_2_0, r_inv_2_1, r_inv_2_2, r_inv_2_3, r_inv_2_4, r_goto, r_if_ne, r_gf_655, r_iastore, r_gf_657, r_iret, r_bret_0, r_bret_1, r_gf_656, r_pf_674_0, r_pf_674_1, r_pf_674, r_dup_i, r_dup_r, r_gf_662, r_iadd, r_pf_662, vm_s, vm_present, vm_head, vm_made, vm_won, b1, p5, p3, m_callOf (hC := hC), e4, gmi, ↓reduceIte, not_true_eq_false, not_false_eq_true, Int.reduceEq, Int.reduceLE, Int.reduceLT, Int.reduceAdd, Int.reduceNeg, Int.reduceMul, Int.reduceSub, Int.reduceToNat]
          refine m_open (by omega) h.miss l0 l1 ((zput_r (by omega)).trans p1) (fun V' g1 g2 _ => ?_)
          simp (disch := first | assumption | exact zk_214 | ((repeat (first | exact z1n | refine z1I ?_ | refine z1R ?_)); done) | exact rfl | omega | decide) only [r_aload_0, r_iload_1, r_iload_2, r_inv_3_0, r_inv_3_1, r_inv_3_2, r_inv_3_3, r_inv_3_4, r_K0, r_K1, r_istore_3i, r_istore_3r, r_istore_3j, r_goto_w, r_gf_658, r_gf_660, r_baload, r_if_eq, r_iload_3, r_gf_640, r_iconst, r_ial, r_ial30, r_ial32, r_icmp_ge, r_inv_2_0, r_inv_2_1, r_inv_2_2, r_inv_2_3, r_inv_2_4, r_goto, r_if_ne, r_gf_655, r_iastore, r_gf_657, r_iret, r_bret_0, r_bret_1, r_gf_656, r_pf_674_0, r_pf_674_1, r_pf_674, r_dup_i, r_dup_r, r_gf_662, r_iadd, r_pf_662, vm_s, vm_present, vm_head, vm_made, vm_won, ↓reduceIte, not_true_eq_false, not_false_eq_true, Int.reduceEq, Int.reduceLE, Int.reduceLT, Int.reduceAdd, Int.reduceNeg, Int.reduceMul, Int.reduceSub, Int.reduceToNat]
          exact hmis rfl e e4 V' g1 g2
      by_cases e1 : zNext ρ x c < ρ.c
      · have e2 : ¬ ρ.K 4 (zNext ρ x c) = 2 := fun z => e ⟨e1, z⟩
        simp (disch := first | assumption | exact zk_214 | ((repeat (first | exact z1n | refine z1I ?_ | refine z1R ?_)); done) | exact rfl | omega | decide) only [zb_214_2, r_aload_0, r_iload_1, r_iload_2, r_inv_3_0, r_inv_3_1, r_inv_3_2, r_inv_3_3, r_inv_3_4, r_K0, r_K1, r_istore_3i, r_istore_3r, r_istore_3j, r_goto_w, r_gf_658, r_gf_660, r_baload, r_if_eq, r_iload_3, r_gf_640, r_iconst, r_ial, r_ial30, r_ial32, r_icmp_ge, r_inv_2_0, r_inv_2_1, r_inv_2_2, r_inv_2_3, r_inv_2_4, r_goto, r_if_ne, r_gf_655, r_iastore, r_gf_657, r_iret, r_bret_0, r_bret_1, r_gf_656, r_pf_674_0, r_pf_674_1, r_pf_674, r_dup_i, r_dup_r, r_gf_662, r_iadd, r_pf_662, vm_s, vm_present, vm_head, vm_made, vm_won, b1, p5, gc, m_isRepl (hC := hC), e2, ↓reduceIte, not_true_eq_false, not_false_eq_true, Int.reduceEq, Int.reduceLE, Int.reduceLT, Int.reduceAdd, Int.reduceNeg, Int.reduceMul, Int.reduceSub, Int.reduceToNat]
        rw [if_neg (by omega)]
        exact mid
      · have e3 : zNext ρ x c = ρ.c := by omega
        rw [e3] at mid
        simp (disch := first | assumption | exact zk_214 | ((repeat (first | exact z1n | refine z1I ?_ | refine z1R ?_)); done) | exact rfl | omega | decide) only [zb_214_2, r_aload_0, r_iload_1, r_iload_2, r_inv_3_0, r_inv_3_1, r_inv_3_2, r_inv_3_3, r_inv_3_4, r_K0, r_K1, r_istore_3i, r_istore_3r, r_istore_3j, r_goto_w, r_gf_658, r_gf_660, r_baload, r_if_eq, r_iload_3, r_gf_640, r_iconst, r_ial, r_ial30, r_ial32, r_icmp_ge, r_inv_2_0, r_inv_2_1, r_inv_2_2, r_inv_2_3, r_inv_2_4, r_goto, r_if_ne, r_gf_655, r_iastore, r_gf_657, r_iret, r_bret_0, r_bret_1, r_gf_656, r_pf_674_0, r_pf_674_1, r_pf_674, r_dup_i, r_dup_r, r_gf_662, r_iadd, r_pf_662, vm_s, vm_present, vm_head, vm_made, vm_won, b1, p5, gc, e3, Int.le_refl, ↓reduceIte, not_true_eq_false, not_false_eq_true, Int.reduceEq, Int.reduceLE, Int.reduceLT, Int.reduceAdd, Int.reduceNeg, Int.reduceMul, Int.reduceSub, Int.reduceToNat]
        exact mid
end
