/-! THE MODEL'S WORLD -/
def zMR (σ : zσ) (V : zV) : Prop := V 164 33 = zi (zb1 σ.q) ∧ (σ.q = true → (V 183 0 = zi σ.o.1 ∧ V 183 1 = zi σ.g.mi ∧ V 183 2 = zi σ.g.fc ∧ V 183 3 = zi σ.g.tc ∧ V 183 4 = zi (zBlm σ.o σ.g) ∧ V 183 5 = zi σ.g.sv) ∧ (∀ w k : Int, 0 ≤ w → w < 4 → 0 ≤ k → k < σ.g.fc → V 184 (4 * k + w) = zi (σ.g.F w k)) ∧ ∀ w k : Int, 0 ≤ w → w < 4 → 0 ≤ k → k < σ.g.tc → V 185 (4 * k + w) = zi (σ.g.T w k))
def zWm (σ : zσ) (s : zS) (V : zV) : Prop := zMP s V ∧ zMC σ.r V ∧ zInts V 165 230 ∧ zPaC σ.p σ.H V ∧ zMx σ.T σ.m V ∧ (zInts V 181 240 ∧ zInts V 182 800) ∧ zMR σ V
/-- nothing but the model has changed -/
def zFr9 (V V' : zV) : Prop := ∀ r : Nat, r < 164 ∨ 191 ≤ r → V' r = V r
theorem zFm.f9 {l : List Nat} {ks : List Int} {V V' : zV} (h : zFm l ks V V') (hl : ∀ r ∈ l, 165 ≤ r ∧ r ≤ 190) : zFr9 V V' := fun r hr => h.1 r (by omega) (fun c => by have := hl r c; omega)
theorem zFr9.tr {V V' V'' : zV} (h : zFr9 V V') (h' : zFr9 V' V'') : zFr9 V V'' := fun r hr => (h' r hr).trans (h r hr)
section
variable {d : Nat} {s : zS} {V V' : zV} {Q K : zO → zH → Prop} {σ : zσ} {h : zH} {l : List Nat} {ks : List Int}
theorem zMR.cg {σ' : zσ} (hσ : σ'.2.2.2 = σ.2.2.2) (h : zMR σ V) (h0 : V' 164 33 = V 164 33) (h3 : V' 183 = V 183) (h4 : V' 184 = V 184) (h5 : V' 185 = V 185) : zMR σ' V' := by
  have e1 : σ'.q = σ.q := congrArg Prod.fst hσ
  have e2 : σ'.o = σ.o := congrArg (fun z => z.2.1) hσ
  have e3 : σ'.g = σ.g := congrArg (fun z => z.2.2) hσ
  unfold zMR
  rw [e1, e2, e3, h0, h3, h4, h5]
  exact h
theorem zPaC.fm2 {p : Int} {H : Nat → zR} (h : zPaC p H V) (hf : zFm l ks V V') (h1 : 166 ∉ l) (h2 : (3 : Int) ∉ ks) : zPaC p H V' := by
  obtain ⟨a, b, c⟩ := h
  have e := hf.1 166 (by omega) h1
  exact ⟨(hf.2 3 h2).trans a, by unfold zInts; rw [e]; exact b, fun k hk => by unfold zMCr; rw [e]; exact c k hk⟩
theorem zWm.up {ρ' : zR} {p' : Int} {H' : Nat → zR} (h : zWm σ s V) (hf : zFm l ks V V') (hl : ∀ r ∈ l, (165 ≤ r ∧ r ≤ 190) ∧ r ≠ 168 ∧ (r < 181 ∨ 185 < r)) (hk : (∀ i : Nat, i < 26 → zMsl.getD i 0 ∉ ks) ∧ (5 : Int) ∉ ks ∧ (33 : Int) ∉ ks) (hC : zMC ρ' V') (hI : zInts V' 165 230) (hP : zPaC p' H' V') : zFr9 V V' ∧ zWm (ρ', (p', H'), σ.2.2) s V' := by
  obtain ⟨a1, a2, a3, a4, a5, ⟨a6, a7⟩, a8⟩ := h
  have e : ∀ r, r = 168 ∨ (181 ≤ r ∧ r ≤ 185) → V' r = V r := fun r hr => hf.1 r (by omega) (fun c => by have := hl r c; omega)
  refine ⟨hf.f9 (fun r hr => (hl r hr).1), a1.fm hf hk.1, hC, hI, hP, ?_, ⟨?_, ?_⟩, ?_⟩
  · exact ⟨(hf.2 5 hk.2.1).trans a5.1, fun k => by rw [e 168 (by omega)]; exact a5.2 k⟩
  · unfold zInts; rw [e 181 (by omega)]; exact a6
  · unfold zInts; rw [e 182 (by omega)]; exact a7
  · exact a8.cg rfl (hf.2 33 hk.2.2) (e 183 (by omega)) (e 184 (by omega)) (e 185 (by omega))
theorem zWm.q (h : zWm σ s V) (hf : zFm l ks V V') (hl : ∀ r ∈ l, (167 ≤ r ∧ r ≤ 190) ∧ r ≠ 168 ∧ (r < 181 ∨ 185 < r)) (hk : (∀ i : Nat, i < 26 → zMsl.getD i 0 ∉ ks) ∧ (5 : Int) ∉ ks ∧ (33 : Int) ∉ ks ∧ (3 : Int) ∉ ks) : zFr9 V V' ∧ zWm σ s V' := by
  obtain ⟨a1, a2, a3, a4, -⟩ := id h
  have n5 : 165 ∉ l := fun c => by have := hl 165 c; omega
  have n6 : 166 ∉ l := fun c => by have := hl 166 c; omega
  exact h.up hf (fun r hr => by have := hl r hr; omega) ⟨hk.1, hk.2.1, hk.2.2.1⟩ (a2.fm hf n5) (by unfold zInts; rw [hf.1 165 (by omega) n5]; exact a3) (a4.fm2 hf n6 hk.2.2.2)
/-- what is owed behind a refusal; behind an answer -/
def zMth (Q : zO → zH → Prop) (k : Int) (σ : zσ) (s : zS) (V : zV) : Prop := ∀ V', zFr9 V V' → zWm σ s V' → V' 164 6 = zi k → Q (.inl (some (zi 0))) (s, V')
def zMrt (Q : zO → zH → Prop) (x : Int) (σ : zσ) (s : zS) (V : zV) : Prop := ∀ V', zFr9 V V' → zWm σ s V' → V' 164 6 = zi 0 → Q (.inl (some (zi x))) (s, V')
theorem zMth.go {k : Int} (hQ : zMth Q k σ s V) (h : zWm σ s V) : Q (.inl (some (zi 0))) (s, zput V 164 6 (zi k)) := by
  obtain ⟨y1, y2⟩ := h.q (V' := zput V 164 6 (zi k)) (l := []) (ks := [6]) (zFm.rf.pf (by simp)) (by simp) (by decide)
  exact hQ _ y1 y2 zput_at
set_option maxRecDepth 20000 in
theorem m_doneK (hd : 2 ≤ d) {V1 V2 : zV} (h : zWm σ s V) (f1 : zFm [167] [] V V1) (f2 : zFm [165, 169] [9] V1 V2) (e5 : V2 165 = V1 165) {k : Int} (k1 : 1 ≤ k) (k3 : k ≤ 3) (hK : zMth K k σ s V) : zcall d 192 [.ref 164, zi k] (s, V2) K := by
  obtain ⟨hM, hC, hI, hPa, hX, hii, hR⟩ := id h
  have F2 : zFm [165, 167, 169] [9] V V2 := (f1.mono (by simp) (by simp)).tr (f2.mono (by simp) (by simp))
  have e6 : V2 165 = V 165 := e5.trans (f1.1 165 (by omega) (by simp))
  have hM2 := hM.fm F2 (by decide)
  have tM := hM2.1
  have hC2 : zMC σ.r V2 := by unfold zMC; rw [e6]; exact hC
  have hI2 : zInts V2 165 230 := by unfold zInts; rw [e6]; exact hI
  have hf : zFm [165, 167, 169] [9, 6] V (zput V2 164 6 (zi k)) := (F2.mono (by simp) (by simp)).pf (by simp)
  have hf2 : zFm [] [6] V2 (zput V2 164 6 (zi k)) := zFm.rf.pf (by simp)
  obtain ⟨y1, y2⟩ := h.up hf (by decide) (by decide) (hC2.fm hf2 (by simp)) (by unfold zInts; rw [hf2.1 165 (by omega) (by simp)]; exact hI2) (hPa.fm2 hf (by decide) (by decide))
  have := hK _ y1 y2 zput_at
  obtain ⟨d, rfl⟩ : ∃ e, d = e + 1 := ⟨d - 1, by omega⟩
  simp (disch := first | assumption | omega) only [zc_192]
  simp (disch := first | assumption | exact zk_192 | ((repeat (first | exact z1n | refine z1I ?_ | refine z1R ?_)); done) | exact rfl | omega | decide) only [zb_192_0, zb_192_1, zb_192_2, r_iload_1, r_if_le, r_aload_0, r_inv_2_0, r_inv_2_1, r_inv_2_2, r_inv_2_3, r_inv_2_4, r_K0, r_K1, r_goto, r_gf_649, r_goto_w, r_iret, r_bret_0, r_bret_1, m_fails, ↓reduceIte, not_true_eq_false, not_false_eq_true, Int.reduceEq, Int.reduceLE, Int.reduceLT, Int.reduceAdd, Int.reduceNeg, Int.reduceMul, Int.reduceSub, Int.reduceToNat]
  rw [if_neg (by omega)]
  exact this
set_option maxRecDepth 20000 in
theorem m_done0 (hd : 3 ≤ d) {V1 V2 : zV} (h : zWm σ s V) (ho : zOK σ) {ρ' : zR} {an : Int} (f1 : zFm [167] [] V V1) (a1 : ∀ i, 0 ≤ i → i < 230 → V1 167 i = V 165 i) (f2 : zFm [165, 169] [9] V1 V2) (hC2 : zMC ρ' V2) (hI2 : zInts V2 165 230) (ha : V2 164 9 = zi an) (hK : zMrt K an (σ.sv ρ') s V) : zcall d 192 [.ref 164, zi 0] (s, V2) K := by
  obtain ⟨hM, hC, hI, hPa, hX, hii, hR⟩ := id h
  obtain ⟨n0, n1, c0, c1⟩ := ho.1.1
  obtain ⟨p0, p1⟩ := ho.2.1
  have F2 : zFm [165, 167, 169] [9] V V2 := (f1.mono (by simp) (by simp)).tr (f2.mono (by simp) (by simp))
  have hM2 := hM.fm F2 (by decide)
  have tM := hM2.1
  have a7 : ∀ i, 0 ≤ i → i < 230 → V2 167 i = V 165 i := fun i i0 i1 => by rw [f2.1 167 (by omega) (by simp)]; exact a1 i i0 i1
  have hH : ∀ k : Nat, (k : Int) < σ.p → (σ.H k).n ≤ 12 ∧ (σ.H k).c ≤ 24 := fun k hk => by
    obtain ⟨b0, b1, b2, b3⟩ := (ho.2.2.1 k hk).1
    exact ⟨b1, b3⟩
  obtain ⟨d, rfl⟩ : ∃ e, d = e + 1 := ⟨d - 1, by omega⟩
  simp (disch := first | assumption | omega) only [zc_192]
  simp (disch := first | assumption | exact zk_192 | ((repeat (first | exact z1n | refine z1I ?_ | refine z1R ?_)); done) | exact rfl | omega | decide) only [zb_192_0, zb_192_1, zb_192_2, r_iload_1, r_if_le, r_aload_0, r_inv_2_0, r_inv_2_1, r_inv_2_2, r_inv_2_3, r_inv_2_4, r_K0, r_K1, r_goto, r_gf_649, r_goto_w, r_iret, r_bret_0, r_bret_1, ha, ↓reduceIte, not_true_eq_false, not_false_eq_true, Int.reduceEq, Int.reduceLE, Int.reduceLT, Int.reduceAdd, Int.reduceNeg, Int.reduceMul, Int.reduceSub, Int.reduceToNat]
  refine m_ends (by omega) hM2 (hPa.fm2 F2 (by decide) (by decide)) p0 p1 (fun i i0 i1 => by rw [a7 i i0 i1]; exact hI i i0 i1) ((zMC_r.mp hC).of ⟨n1, c1⟩ (fun i i0 i1 => by rw [Int.zero_add]; exact a7 i i0 i1)) ⟨n1, c1⟩ hH (fun V5 f5 q5 t5 => ?_)
  have hf : zFm [165, 166, 167, 169] [3, 6, 9] V V5 := (F2.mono (by simp) (by simp)).tr (f5.mono (by simp) (by simp))
  obtain ⟨y1, y2⟩ := h.up hf (by decide) (by decide) (hC2.fm f5 (by decide)) (by unfold zInts; rw [f5.1 165 (by omega) (by simp)]; exact hI2) q5
  have := hK V5 y1 y2 t5
  simp (disch := first | assumption | exact zk_192 | ((repeat (first | exact z1n | refine z1I ?_ | refine z1R ?_)); done) | exact rfl | omega | decide) only [zb_192_2, r_iload_1, r_if_le, r_aload_0, r_inv_2_0, r_inv_2_1, r_inv_2_2, r_inv_2_3, r_inv_2_4, r_K0, r_K1, r_goto, r_gf_649, r_goto_w, r_iret, r_bret_0, r_bret_1, ↓reduceIte, not_true_eq_false, not_false_eq_true, Int.reduceEq, Int.reduceLE, Int.reduceLT, Int.reduceAdd, Int.reduceNeg, Int.reduceMul, Int.reduceSub, Int.reduceToNat]
  exact this
end
