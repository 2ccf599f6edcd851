/-! THE LAW, 9: constructors of History and of the class -/
section
variable {s s' : zS} {V V' : zV} {a : Nat}
theorem zStP.ah (h : zStP s V a) (g : ∀ r, a ≤ r → r < a + 18 → s'.tg r = s.tg r ∧ s'.ln r = s.ln r ∧ V' r = V r) : zStP s' V' a := by
  obtain ⟨h1, h2, h3, h4, h5, h6, h7, h8, h9⟩ := h
  refine ⟨(g a (by omega) (by omega)).1.trans h1, by rw [(g a (by omega) (by omega)).2.2]; exact h2, (g _ (by omega) (by omega)).1.trans h3, (g _ (by omega) (by omega)).2.1.trans h4, by rw [(g a (by omega) (by omega)).2.2]; exact h5, (g _ (by omega) (by omega)).1.trans h6, (g _ (by omega) (by omega)).2.1.trans h7, fun k hk => ?_, fun k hk => ?_⟩
  · obtain ⟨b1, b2, b3⟩ := h8 k hk
    exact ⟨by rw [(g (a + 1) (by omega) (by omega)).2.2]; exact b1, (g _ (by omega) (by omega)).1.trans b2, (g _ (by omega) (by omega)).2.1.trans b3⟩
  · obtain ⟨b1, b2, b3⟩ := h9 k hk
    exact ⟨by rw [(g (a + 11) (by omega) (by omega)).2.2]; exact b1, (g _ (by omega) (by omega)).1.trans b2, (g _ (by omega) (by omega)).2.1.trans b3⟩
theorem zHiP.ah {κ : Nat → Nat} (h : zHiP s V κ) (g : ∀ r, 42 ≤ r → r < 116 → s'.tg r = s.tg r ∧ s'.ln r = s.ln r ∧ V' r = V r) : zHiP s' V' κ := by
  obtain ⟨h1, h2, h3, h4, h5, hK⟩ := h
  refine ⟨(g _ (by omega) (by omega)).1.trans h1, by rw [(g 42 (by omega) (by omega)).2.2]; exact h2, (g _ (by omega) (by omega)).1.trans h3, (g _ (by omega) (by omega)).2.1.trans h4, fun k hk => ?_, hK⟩
  obtain ⟨b1, b2⟩ := h5 k hk
  have := hK.1 k hk
  exact ⟨by rw [(g 43 (by omega) (by omega)).2.2]; exact b1, b2.ah (fun r r0 r1 => g r (by omega) (by omega))⟩
theorem zGP.ah (h : zGP s V) (g : ∀ r, 116 ≤ r → r < 121 → s'.tg r = s.tg r ∧ s'.ln r = s.ln r ∧ V' r = V r) : zGP s' V' := by
  obtain ⟨g1, g2, ⟨g3, g4, g5, g6⟩, g7, g8, g9, g10⟩ := h
  exact ⟨(g _ (by omega) (by omega)).1.trans g1, by rw [(g 116 (by omega) (by omega)).2.2]; exact g2, ⟨(g _ (by omega) (by omega)).1.trans g3, (g _ (by omega) (by omega)).1.trans g4, (g _ (by omega) (by omega)).1.trans g5, (g _ (by omega) (by omega)).1.trans g6⟩, (g _ (by omega) (by omega)).2.1.trans g7, (g _ (by omega) (by omega)).2.1.trans g8, (g _ (by omega) (by omega)).2.1.trans g9, (g _ (by omega) (by omega)).2.1.trans g10⟩
theorem zRqP.ah (h : zRqP s V) (g : ∀ r, 121 ≤ r → r < 132 → s'.tg r = s.tg r ∧ s'.ln r = s.ln r ∧ V' r = V r) : zRqP s' V' := by
  obtain ⟨a1, a2, ⟨a3, a4⟩, ⟨a5, a6⟩, a7, a8⟩ := h
  refine ⟨(g _ (by omega) (by omega)).1.trans a1, by rw [(g 121 (by omega) (by omega)).2.2]; exact a2, ⟨(g _ (by omega) (by omega)).1.trans a3, (g _ (by omega) (by omega)).2.1.trans a4⟩, ⟨(g _ (by omega) (by omega)).1.trans a5, (g _ (by omega) (by omega)).2.1.trans a6⟩, fun w hw => ?_, fun w hw => ?_⟩
  · obtain ⟨b1, b2, b3⟩ := a7 w hw
    exact ⟨by rw [(g 122 (by omega) (by omega)).2.2]; exact b1, (g _ (by omega) (by omega)).1.trans b2, (g _ (by omega) (by omega)).2.1.trans b3⟩
  · obtain ⟨b1, b2, b3⟩ := a8 w hw
    exact ⟨by rw [(g 127 (by omega) (by omega)).2.2]; exact b1, (g _ (by omega) (by omega)).1.trans b2, (g _ (by omega) (by omega)).2.1.trans b3⟩
theorem zRvP.ah (h : zRvP s V) (g : ∀ r, 134 ≤ r → r < 139 → s'.tg r = s.tg r ∧ s'.ln r = s.ln r ∧ V' r = V r) : zRvP s' V' := by
  obtain ⟨a1, a2, ⟨a3, a4⟩, ⟨a5, a6⟩, a7, a8⟩ := h
  exact ⟨(g _ (by omega) (by omega)).1.trans a1, by rw [(g 134 (by omega) (by omega)).2.2]; exact a2, ⟨(g _ (by omega) (by omega)).1.trans a3, (g _ (by omega) (by omega)).2.1.trans a4⟩, ⟨(g _ (by omega) (by omega)).1.trans a5, (g _ (by omega) (by omega)).2.1.trans a6⟩, (g _ (by omega) (by omega)).1.trans a7, (g _ (by omega) (by omega)).2.1.trans a8⟩
theorem zFP.ah (h : zFP s V) (g : ∀ r, 139 ≤ r → r < 155 → s'.tg r = s.tg r ∧ s'.ln r = s.ln r ∧ V' r = V r) : zFP s' V' := by
  obtain ⟨a1, a2, ⟨a3, a4⟩, a5, a6, a7⟩ := h
  refine ⟨(g _ (by omega) (by omega)).1.trans a1, by rw [(g 139 (by omega) (by omega)).2.2]; exact a2, ⟨(g _ (by omega) (by omega)).1.trans a3, (g _ (by omega) (by omega)).2.1.trans a4⟩, fun y hy => ?_, (g _ (by omega) (by omega)).1.trans a6, (g _ (by omega) (by omega)).2.1.trans a7⟩
  obtain ⟨b1, b2, b3⟩ := a5 y hy
  exact ⟨by rw [(g 140 (by omega) (by omega)).2.2]; exact b1, (g _ (by omega) (by omega)).1.trans b2, (g _ (by omega) (by omega)).2.1.trans b3⟩
theorem zTxP.ah (h : zTxP s V) (g : ∀ r, 155 ≤ r → r < 164 → s'.tg r = s.tg r ∧ s'.ln r = s.ln r ∧ V' r = V r) : zTxP s' V' := by
  obtain ⟨a1, a2, ⟨a5, a6⟩, ⟨a7, a8⟩, ⟨a9, a10⟩, a11⟩ := h
  refine ⟨(g _ (by omega) (by omega)).1.trans a1, by rw [(g 155 (by omega) (by omega)).2.2]; exact a2, ⟨(g _ (by omega) (by omega)).1.trans a5, (g _ (by omega) (by omega)).2.1.trans a6⟩, ⟨(g _ (by omega) (by omega)).1.trans a7, (g _ (by omega) (by omega)).2.1.trans a8⟩, ⟨(g _ (by omega) (by omega)).1.trans a9, (g _ (by omega) (by omega)).2.1.trans a10⟩, fun w hw => ?_⟩
  obtain ⟨b1, b2, b3⟩ := a11 w hw
  exact ⟨by rw [(g 158 (by omega) (by omega)).2.2]; exact b1, (g _ (by omega) (by omega)).1.trans b2, (g _ (by omega) (by omega)).2.1.trans b3⟩
end
section
variable {d m : Nat} {Q : zO → zH → Prop} {r : List Instr} {L st : List Value} {s : zS} {V : zV} {h : zH}
theorem r_inv1 {y a : Nat} (hl : st.length ≤ 4) : zwp (zcall d) m Q (.invokeinterface y 1 :: r) L (.ref a :: st) h = zcall d y [.ref a] h (zK (zAl m y) m Q (zwp (zcall d) m Q) r L st) := by
  rw [zw]
  exact z_and2 ⟨by simp, rfl⟩ (by simp; omega)
/-- a new object and its constructor -/
theorem i_new (a : Nat) {t k b c y : Nat} {P : zS → zV → Prop} (ha : s.sz = a) (hk : zNf t = k) (hl : st.length ≤ 3) (hC : ∀ (Q' : zO → zH → Prop) (s0 : zS) (V0 : zV), s0.sz = a + 1 → s0.tg a = t → (∀ s' V', s'.sz = b → s'.sl = s0.sl + c → zAg a (a + 1) s0 V0 s' V' → P s' V' → Q' (.inl none) (s', V')) → zcall d y [.ref a] (s0, V0) Q') (hQ : ∀ s' V', s'.sz = b → s'.sl = s.sl + (k + c) → (∀ r, r < a → s'.tg r = s.tg r ∧ s'.ln r = s.ln r ∧ V' r = V r) → P s' V' → zwp (zcall d) m Q r L (.ref a :: st) (s', V')) : zwp (zcall d) m Q (.new t :: .dup :: .invokeinterface y 1 :: r) L st (s, V) := by
  refine r_newQ a ha hk (fun s1 V1 z => ?_)
  obtain ⟨e1, k1, ⟨t1, n1, v1⟩, g1⟩ := z
  rw [r_dup_r, r_inv1 (by simp; omega)]
  refine hC _ _ _ e1 t1 (fun s2 V2 e2 k2 g2 p2 => ?_)
  rw [r_K0]
  exact hQ s2 V2 e2 (by omega) (fun r hr => ⟨(g2 r (by omega)).1.trans (g1 r hr).1, (g2 r (by omega)).2.1.trans (g1 r hr).2.1, ((g2 r (by omega)).2.2 (by omega)).trans (g1 r hr).2.2⟩) p2
end
section
variable {d : Nat} {s : zS} {V : zV} {Q : zO → zH → Prop}
set_option maxRecDepth 20000 in
theorem i_History (hd : 4 ≤ d) (hsz : s.sz = 43) (ht : s.tg 42 = 3) (hQ : ∀ s' V', s'.sz = 116 → s'.sl = s.sl + 1088 → zAg 42 43 s V s' V' → (zHiP s' V' (fun i => 44 + 18 * i) ∧ V' 42 1 = zi 0) → Q (.inl none) (s', V')) : zcall d 31 [.ref 42] (s, V) Q := by
  obtain ⟨d, rfl⟩ : ∃ e, d = e + 1 := ⟨d - 1, by omega⟩
  simp (disch := first | assumption | omega) only [zc_31]
  simp (disch := first | assumption | exact zk_31 | ((repeat (first | exact z1n | refine z1I ?_ | refine z1R ?_)); done) | exact rfl | omega | decide) only [zb_31_0, r_aload_0, r_objI, r_iconst, r_pf_192, r_pf_193, r_istore_1i, r_istore_1r, r_istore_1j, r_goto_w, r_iload_1, r_icmp_ge, r_gf_192, r_dup_i, r_dup_r, r_inv_1_0, r_inv_1_1, r_inv_1_2, r_inv_1_3, r_inv_1_4, r_K0, r_K1, r_aastore, r_iinc_1i, r_iinc_1r, r_iinc_1j, r_goto, r_ret, ↓reduceIte, not_true_eq_false, not_false_eq_true, Int.reduceEq, Int.reduceLE, Int.reduceLT, Int.reduceAdd, Int.reduceNeg, Int.reduceMul, Int.reduceSub, Int.reduceToNat]
  refine r_anewQ 43 (by omega) rfl (by omega) (by omega) (fun s0 V0 z => ?_)
  obtain ⟨e0, k0, ⟨t0, n0, v0⟩, g0⟩ := z
  have ta0 : s0.tg 42 = 3 := (g0 42 (by omega)).1.trans ht
  simp (disch := first | assumption | exact zk_31 | ((repeat (first | exact z1n | refine z1I ?_ | refine z1R ?_)); done) | exact rfl | omega | decide) only [zb_31_1, r_aload_0, r_objI, r_iconst, r_pf_192, r_pf_193, r_istore_1i, r_istore_1r, r_istore_1j, r_goto_w, r_iload_1, r_icmp_ge, r_gf_192, r_dup_i, r_dup_r, r_inv_1_0, r_inv_1_1, r_inv_1_2, r_inv_1_3, r_inv_1_4, r_K0, r_K1, r_aastore, r_iinc_1i, r_iinc_1r, r_iinc_1j, r_goto, r_ret, zput_at, zput_k, ↓reduceIte, not_true_eq_false, not_false_eq_true, Int.reduceEq, Int.reduceLE, Int.reduceLT, Int.reduceAdd, Int.reduceNeg, Int.reduceMul, Int.reduceSub, Int.reduceToNat]
  refine i_new 44 (P := fun s' V' => zStP s' V' 44 ∧ zStC zR0 V' 44) (by omega) (k := 4) rfl (by simp) (fun Q' s0 V0 h1 h2 h3 => i_State (by omega) h1 h2 (fun s' V' e k g p1 p2 => h3 s' V' e k g ⟨p1, p2⟩)) (fun s1 V1 e1 k1 g1 p1 => ?_)
  have ta1 : s1.tg 42 = 3 := (g1 42 (by omega)).1.trans ta0
  have t1 : s1.tg 43 = 26 := (g1 43 (by omega)).1.trans t0
  have n1 : s1.ln 43 = 4 := (g1 43 (by omega)).2.1.trans n0
  have tb1 := p1.1.1
  have f1 : V1 42 0 = .ref 43 := by rw [(g1 42 (by omega)).2.2, zput_k (by decide), zput_at]
  have c1 : V1 42 1 = zi 0 := by rw [(g1 42 (by omega)).2.2, zput_at]
  simp (disch := first | assumption | exact zk_31 | ((repeat (first | exact z1n | refine z1I ?_ | refine z1R ?_)); done) | exact rfl | omega | decide) only [zb_31_1, r_aload_0, r_objI, r_iconst, r_pf_192, r_pf_193, r_istore_1i, r_istore_1r, r_istore_1j, r_goto_w, r_iload_1, r_icmp_ge, r_gf_192, r_dup_i, r_dup_r, r_inv_1_0, r_inv_1_1, r_inv_1_2, r_inv_1_3, r_inv_1_4, r_K0, r_K1, r_aastore, r_iinc_1i, r_iinc_1r, r_iinc_1j, r_goto, r_ret, zput_r, f1, ↓reduceIte, not_true_eq_false, not_false_eq_true, Int.reduceEq, Int.reduceLE, Int.reduceLT, Int.reduceAdd, Int.reduceNeg, Int.reduceMul, Int.reduceSub, Int.reduceToNat]
  refine i_new 62 (P := fun s' V' => zStP s' V' 62 ∧ zStC zR0 V' 62) (by omega) (k := 4) rfl (by simp) (fun Q' s0 V0 h1 h2 h3 => i_State (by omega) h1 h2 (fun s' V' e k g p1 p2 => h3 s' V' e k g ⟨p1, p2⟩)) (fun s2 V2 e2 k2 g2 p2 => ?_)
  have ta2 : s2.tg 42 = 3 := (g2 42 (by omega)).1.trans ta1
  have t2 : s2.tg 43 = 26 := (g2 43 (by omega)).1.trans t1
  have n2 : s2.ln 43 = 4 := (g2 43 (by omega)).2.1.trans n1
  have tb2 := p2.1.1
  have f2 : V2 42 0 = .ref 43 := by rw [(g2 42 (by omega)).2.2, zput_r (by decide)]; exact f1
  have c2 : V2 42 1 = zi 0 := by rw [(g2 42 (by omega)).2.2, zput_r (by decide)]; exact c1
  simp (disch := first | assumption | exact zk_31 | ((repeat (first | exact z1n | refine z1I ?_ | refine z1R ?_)); done) | exact rfl | omega | decide) only [zb_31_1, r_aload_0, r_objI, r_iconst, r_pf_192, r_pf_193, r_istore_1i, r_istore_1r, r_istore_1j, r_goto_w, r_iload_1, r_icmp_ge, r_gf_192, r_dup_i, r_dup_r, r_inv_1_0, r_inv_1_1, r_inv_1_2, r_inv_1_3, r_inv_1_4, r_K0, r_K1, r_aastore, r_iinc_1i, r_iinc_1r, r_iinc_1j, r_goto, r_ret, zput_r, f2, ↓reduceIte, not_true_eq_false, not_false_eq_true, Int.reduceEq, Int.reduceLE, Int.reduceLT, Int.reduceAdd, Int.reduceNeg, Int.reduceMul, Int.reduceSub, Int.reduceToNat]
  refine i_new 80 (P := fun s' V' => zStP s' V' 80 ∧ zStC zR0 V' 80) (by omega) (k := 4) rfl (by simp) (fun Q' s0 V0 h1 h2 h3 => i_State (by omega) h1 h2 (fun s' V' e k g p1 p2 => h3 s' V' e k g ⟨p1, p2⟩)) (fun s3 V3 e3 k3 g3 p3 => ?_)
  have ta3 : s3.tg 42 = 3 := (g3 42 (by omega)).1.trans ta2
  have t3 : s3.tg 43 = 26 := (g3 43 (by omega)).1.trans t2
  have n3 : s3.ln 43 = 4 := (g3 43 (by omega)).2.1.trans n2
  have tb3 := p3.1.1
  have f3 : V3 42 0 = .ref 43 := by rw [(g3 42 (by omega)).2.2, zput_r (by decide)]; exact f2
  have c3 : V3 42 1 = zi 0 := by rw [(g3 42 (by omega)).2.2, zput_r (by decide)]; exact c2
  simp (disch := first | assumption | exact zk_31 | ((repeat (first | exact z1n | refine z1I ?_ | refine z1R ?_)); done) | exact rfl | omega | decide) only [zb_31_1, r_aload_0, r_objI, r_iconst, r_pf_192, r_pf_193, r_istore_1i, r_istore_1r, r_istore_1j, r_goto_w, r_iload_1, r_icmp_ge, r_gf_192, r_dup_i, r_dup_r, r_inv_1_0, r_inv_1_1, r_inv_1_2, r_inv_1_3, r_inv_1_4, r_K0, r_K1, r_aastore, r_iinc_1i, r_iinc_1r, r_iinc_1j, r_goto, r_ret, zput_r, f3, ↓reduceIte, not_true_eq_false, not_false_eq_true, Int.reduceEq, Int.reduceLE, Int.reduceLT, Int.reduceAdd, Int.reduceNeg, Int.reduceMul, Int.reduceSub, Int.reduceToNat]
  refine i_new 98 (P := fun s' V' => zStP s' V' 98 ∧ zStC zR0 V' 98) (by omega) (k := 4) rfl (by simp) (fun Q' s0 V0 h1 h2 h3 => i_State (by omega) h1 h2 (fun s' V' e k g p1 p2 => h3 s' V' e k g ⟨p1, p2⟩)) (fun s4 V4 e4 k4 g4 p4 => ?_)
  have ta4 : s4.tg 42 = 3 := (g4 42 (by omega)).1.trans ta3
  have t4 : s4.tg 43 = 26 := (g4 43 (by omega)).1.trans t3
  have n4 : s4.ln 43 = 4 := (g4 43 (by omega)).2.1.trans n3
  have tb4 := p4.1.1
  have f4 : V4 42 0 = .ref 43 := by rw [(g4 42 (by omega)).2.2, zput_r (by decide)]; exact f3
  have c4 : V4 42 1 = zi 0 := by rw [(g4 42 (by omega)).2.2, zput_r (by decide)]; exact c3
  simp (disch := first | assumption | exact zk_31 | ((repeat (first | exact z1n | refine z1I ?_ | refine z1R ?_)); done) | exact rfl | omega | decide) only [zb_31_1, zb_31_2, r_aload_0, r_objI, r_iconst, r_pf_192, r_pf_193, r_istore_1i, r_istore_1r, r_istore_1j, r_goto_w, r_iload_1, r_icmp_ge, r_gf_192, r_dup_i, r_dup_r, r_inv_1_0, r_inv_1_1, r_inv_1_2, r_inv_1_3, r_inv_1_4, r_K0, r_K1, r_aastore, r_iinc_1i, r_iinc_1r, r_iinc_1j, r_goto, r_ret, zput_r, f4, ↓reduceIte, not_true_eq_false, not_false_eq_true, Int.reduceEq, Int.reduceLE, Int.reduceLT, Int.reduceAdd, Int.reduceNeg, Int.reduceMul, Int.reduceSub, Int.reduceToNat]
  have D4 : ∀ r, r ≠ 43 → zput V4 43 3 (.ref 98) r = V4 r := fun r hr => zput_row hr
  have D3 : ∀ r, r ≠ 43 → r < 98 → s4.tg r = s3.tg r ∧ s4.ln r = s3.ln r ∧ zput V4 43 3 (.ref 98) r = V3 r := fun r h1 h2 => ⟨(g4 r h2).1, (g4 r h2).2.1, (D4 r h1).trans ((g4 r h2).2.2.trans (zput_row h1))⟩
  have D2 : ∀ r, r ≠ 43 → r < 80 → s4.tg r = s2.tg r ∧ s4.ln r = s2.ln r ∧ zput V4 43 3 (.ref 98) r = V2 r := fun r h1 h2 => ⟨(D3 r h1 (by omega)).1.trans (g3 r h2).1, (D3 r h1 (by omega)).2.1.trans (g3 r h2).2.1, (D3 r h1 (by omega)).2.2.trans ((g3 r h2).2.2.trans (zput_row h1))⟩
  have D1 : ∀ r, r ≠ 43 → r < 62 → s4.tg r = s1.tg r ∧ s4.ln r = s1.ln r ∧ zput V4 43 3 (.ref 98) r = V1 r := fun r h1 h2 => ⟨(D2 r h1 (by omega)).1.trans (g2 r h2).1, (D2 r h1 (by omega)).2.1.trans (g2 r h2).2.1, (D2 r h1 (by omega)).2.2.trans ((g2 r h2).2.2.trans (zput_row h1))⟩
  refine hQ _ _ (by omega) (by omega) (fun r hr => ⟨((g4 r (by omega)).1.trans ((g3 r (by omega)).1.trans ((g2 r (by omega)).1.trans ((g1 r (by omega)).1.trans ((g0 r (by omega)).1.trans rfl))))), ((g4 r (by omega)).2.1.trans ((g3 r (by omega)).2.1.trans ((g2 r (by omega)).2.1.trans ((g1 r (by omega)).2.1.trans ((g0 r (by omega)).2.1.trans rfl))))), fun n => (by rw [zput_row (show r ≠ 43 by omega), (g4 r (by omega)).2.2, zput_row (show r ≠ 43 by omega), (g3 r (by omega)).2.2, zput_row (show r ≠ 43 by omega), (g2 r (by omega)).2.2, zput_row (show r ≠ 43 by omega), (g1 r (by omega)).2.2, zput_row n, zput_row n, (g0 r (by omega)).2.2])⟩) ⟨⟨ta4, (by rw [zput_r (by decide)]; exact f4), t4, n4, fun k hk => ?_, fun k hk => ?_, fun i j hi hj e => ?_⟩, (by rw [zput_r (by decide)]; exact c4)⟩
  · rcases (by omega : k = 0 ∨ k = 1 ∨ k = 2 ∨ k = 3) with rfl | rfl | rfl | rfl
    · exact ⟨by show zput V4 43 3 (.ref 98) 43 0 = .ref 44; rw [zput_k (by decide), (g4 43 (by omega)).2.2, zput_k (by decide), (g3 43 (by omega)).2.2, zput_k (by decide), (g2 43 (by omega)).2.2, zput_at], p1.1.ah (fun r r0 r1 => D1 r (by omega) (by omega))⟩
    · exact ⟨by show zput V4 43 3 (.ref 98) 43 1 = .ref 62; rw [zput_k (by decide), (g4 43 (by omega)).2.2, zput_k (by decide), (g3 43 (by omega)).2.2, zput_at], p2.1.ah (fun r r0 r1 => D2 r (by omega) (by omega))⟩
    · exact ⟨by show zput V4 43 3 (.ref 98) 43 2 = .ref 80; rw [zput_k (by decide), (g4 43 (by omega)).2.2, zput_at], p3.1.ah (fun r r0 r1 => D3 r (by omega) (by omega))⟩
    · exact ⟨by show zput V4 43 3 (.ref 98) 43 3 = .ref 98; rw [zput_at], p4.1.ah (fun r r0 r1 => ⟨rfl, rfl, D4 r (by omega)⟩)⟩
  · show 44 + 18 * k = 44 ∨ 44 + 18 * k = 62 ∨ 44 + 18 * k = 80 ∨ 44 + 18 * k = 98
    omega
  · have e : 44 + 18 * i = 44 + 18 * j := e
    omega
def zσ0 : zσ := (zR0, (0, fun _ => zR0), (0, fun _ => 0), false, (0, false), zN0)
set_option maxRecDepth 20000 in
theorem i_SB (hd : 6 ≤ d) (hsz : s.sz = 6) (ht : s.tg 5 = 9) (hA : zSA s V) (hM : zSM s V) (hQ : ∀ s' V', s'.sz = 164 → s'.sl = s.sl + 4000 → (∀ r, r < 5 → s'.tg r = s.tg r ∧ s'.ln r = s.ln r ∧ V' r = V r) → (∀ s9 V9, (∀ r, r < 164 → s9.tg r = s'.tg r ∧ s9.ln r = s'.ln r ∧ V9 r = V' r) → 192 ≤ s9.sz → s9.tg 191 = 21 → s9.ln 191 = 1 → zWc zσ0 s9 V9) → Q (.inl none) (s', V')) : zcall d 115 [.ref 5] (s, V) Q := by
  obtain ⟨d, rfl⟩ : ∃ e, d = e + 1 := ⟨d - 1, by omega⟩
  simp (disch := first | assumption | omega) only [zc_115]
  have tk0 := ht
  simp (disch := first | assumption | exact zk_115 | ((repeat (first | exact z1n | refine z1I ?_ | refine z1R ?_)); done) | exact rfl | omega | decide) only [zb_115_0, r_aload_0, r_objI, r_dup_i, r_dup_r, r_inv_1_0, r_inv_1_1, r_inv_1_2, r_inv_1_3, r_inv_1_4, r_K0, r_K1, r_pf_576, r_pf_577, r_pf_578, r_pf_579, r_pf_580, r_pf_581, r_pf_582, r_pf_583, r_pf_584, r_ret, r_KX, ↓reduceIte, not_true_eq_false, not_false_eq_true, Int.reduceEq, Int.reduceLE, Int.reduceLT, Int.reduceAdd, Int.reduceNeg, Int.reduceMul, Int.reduceSub, Int.reduceToNat]
  refine i_new 6 (b := 24) (c := 267) (P := fun s' V' => zStP s' V' 6 ∧ zStC zR0 V' 6) (by omega) (k := 4) rfl (by simp) (fun Q' s0 V0 h1 h2 h3 => i_State (by omega) h1 h2 (fun s' V' e k g p1 p2 => h3 s' V' e k g ⟨p1, p2⟩)) (fun s1 V1 e1 k1 g1 p1 => ?_)
  have tk1 : s1.tg 5 = 9 := (g1 5 (by omega)).1.trans tk0
  simp (disch := first | assumption | exact zk_115 | ((repeat (first | exact z1n | refine z1I ?_ | refine z1R ?_)); done) | exact rfl | omega | decide) only [r_aload_0, r_objI, r_dup_i, r_dup_r, r_inv_1_0, r_inv_1_1, r_inv_1_2, r_inv_1_3, r_inv_1_4, r_K0, r_K1, r_pf_576, r_pf_577, r_pf_578, r_pf_579, r_pf_580, r_pf_581, r_pf_582, r_pf_583, r_pf_584, r_ret, r_KX, ↓reduceIte, not_true_eq_false, not_false_eq_true, Int.reduceEq, Int.reduceLE, Int.reduceLT, Int.reduceAdd, Int.reduceNeg, Int.reduceMul, Int.reduceSub, Int.reduceToNat]
  refine i_new 24 (b := 42) (c := 267) (P := fun s' V' => zStP s' V' 24 ∧ zStC zR0 V' 24) (by omega) (k := 4) rfl (by simp) (fun Q' s0 V0 h1 h2 h3 => i_State (by omega) h1 h2 (fun s' V' e k g p1 p2 => h3 s' V' e k g ⟨p1, p2⟩)) (fun s2 V2 e2 k2 g2 p2 => ?_)
  have tk2 : s2.tg 5 = 9 := (g2 5 (by omega)).1.trans tk1
  simp (disch := first | assumption | exact zk_115 | ((repeat (first | exact z1n | refine z1I ?_ | refine z1R ?_)); done) | exact rfl | omega | decide) only [r_aload_0, r_objI, r_dup_i, r_dup_r, r_inv_1_0, r_inv_1_1, r_inv_1_2, r_inv_1_3, r_inv_1_4, r_K0, r_K1, r_pf_576, r_pf_577, r_pf_578, r_pf_579, r_pf_580, r_pf_581, r_pf_582, r_pf_583, r_pf_584, r_ret, r_KX, ↓reduceIte, not_true_eq_false, not_false_eq_true, Int.reduceEq, Int.reduceLE, Int.reduceLT, Int.reduceAdd, Int.reduceNeg, Int.reduceMul, Int.reduceSub, Int.reduceToNat]
  refine i_new 42 (b := 116) (c := 1088) (P := fun s' V' => zHiP s' V' (fun i => 44 + 18 * i) ∧ V' 42 1 = zi 0) (by omega) (k := 2) rfl (by simp) (fun Q' s0 V0 h1 h2 h3 => i_History (by omega) h1 h2 (fun s' V' e k g p1 => h3 s' V' e k g p1)) (fun s3 V3 e3 k3 g3 p3 => ?_)
  have tk3 : s3.tg 5 = 9 := (g3 5 (by omega)).1.trans tk2
  simp (disch := first | assumption | exact zk_115 | ((repeat (first | exact z1n | refine z1I ?_ | refine z1R ?_)); done) | exact rfl | omega | decide) only [r_aload_0, r_objI, r_dup_i, r_dup_r, r_inv_1_0, r_inv_1_1, r_inv_1_2, r_inv_1_3, r_inv_1_4, r_K0, r_K1, r_pf_576, r_pf_577, r_pf_578, r_pf_579, r_pf_580, r_pf_581, r_pf_582, r_pf_583, r_pf_584, r_ret, r_KX, ↓reduceIte, not_true_eq_false, not_false_eq_true, Int.reduceEq, Int.reduceLE, Int.reduceLT, Int.reduceAdd, Int.reduceNeg, Int.reduceMul, Int.reduceSub, Int.reduceToNat]
  refine i_new 116 (b := 121) (c := 48) (P := fun s' V' => zGP s' V') (by omega) (k := 5) rfl (by simp) (fun Q' s0 V0 h1 h2 h3 => i_Graph (by omega) h1 h2 (fun s' V' e k g p1 => h3 s' V' e k g p1)) (fun s4 V4 e4 k4 g4 p4 => ?_)
  have tk4 : s4.tg 5 = 9 := (g4 5 (by omega)).1.trans tk3
  simp (disch := first | assumption | exact zk_115 | ((repeat (first | exact z1n | refine z1I ?_ | refine z1R ?_)); done) | exact rfl | omega | decide) only [r_aload_0, r_objI, r_dup_i, r_dup_r, r_inv_1_0, r_inv_1_1, r_inv_1_2, r_inv_1_3, r_inv_1_4, r_K0, r_K1, r_pf_576, r_pf_577, r_pf_578, r_pf_579, r_pf_580, r_pf_581, r_pf_582, r_pf_583, r_pf_584, r_ret, r_KX, ↓reduceIte, not_true_eq_false, not_false_eq_true, Int.reduceEq, Int.reduceLE, Int.reduceLT, Int.reduceAdd, Int.reduceNeg, Int.reduceMul, Int.reduceSub, Int.reduceToNat]
  refine i_new 121 (b := 132) (c := 1048) (P := fun s' V' => zRqP s' V' ∧ (V' 121 0 = zi 0 ∧ V' 121 6 = zi 0 ∧ V' 121 7 = zi 0)) (by omega) (k := 10) rfl (by simp) (fun Q' s0 V0 h1 h2 h3 => i_Request (by omega) h1 h2 (fun s' V' e k g p1 p2 => h3 s' V' e k g ⟨p1, p2⟩)) (fun s5 V5 e5 k5 g5 p5 => ?_)
  have tk5 : s5.tg 5 = 9 := (g5 5 (by omega)).1.trans tk4
  simp (disch := first | assumption | exact zk_115 | ((repeat (first | exact z1n | refine z1I ?_ | refine z1R ?_)); done) | exact rfl | omega | decide) only [r_aload_0, r_objI, r_dup_i, r_dup_r, r_inv_1_0, r_inv_1_1, r_inv_1_2, r_inv_1_3, r_inv_1_4, r_K0, r_K1, r_pf_576, r_pf_577, r_pf_578, r_pf_579, r_pf_580, r_pf_581, r_pf_582, r_pf_583, r_pf_584, r_ret, r_KX, ↓reduceIte, not_true_eq_false, not_false_eq_true, Int.reduceEq, Int.reduceLE, Int.reduceLT, Int.reduceAdd, Int.reduceNeg, Int.reduceMul, Int.reduceSub, Int.reduceToNat]
  refine i_new 132 (b := 134) (c := 0) (P := fun s' V' => s'.tg 132 = 0 ∧ V' 132 0 = .ref 133 ∧ s'.tg 133 = 20 ∧ s'.ln 133 = 0) (by omega) (k := 1) rfl (by simp) (fun Q' s0 V0 h1 h2 h3 => i_BudgetSearch (by omega) h1 h2 (fun s' V' e k g p1 => h3 s' V' e k g p1)) (fun s6 V6 e6 k6 g6 p6 => ?_)
  have tk6 : s6.tg 5 = 9 := (g6 5 (by omega)).1.trans tk5
  simp (disch := first | assumption | exact zk_115 | ((repeat (first | exact z1n | refine z1I ?_ | refine z1R ?_)); done) | exact rfl | omega | decide) only [r_aload_0, r_objI, r_dup_i, r_dup_r, r_inv_1_0, r_inv_1_1, r_inv_1_2, r_inv_1_3, r_inv_1_4, r_K0, r_K1, r_pf_576, r_pf_577, r_pf_578, r_pf_579, r_pf_580, r_pf_581, r_pf_582, r_pf_583, r_pf_584, r_ret, r_KX, ↓reduceIte, not_true_eq_false, not_false_eq_true, Int.reduceEq, Int.reduceLE, Int.reduceLT, Int.reduceAdd, Int.reduceNeg, Int.reduceMul, Int.reduceSub, Int.reduceToNat]
  refine i_new 134 (b := 139) (c := 36) (P := fun s' V' => zRvP s' V' ∧ (V' 134 3 = .ref 138 ∧ s'.tg 138 = 20 ∧ s'.ln 138 = 0)) (by omega) (k := 4) rfl (by simp) (fun Q' s0 V0 h1 h2 h3 => i_Recovery (by omega) h1 h2 (fun s' V' e k g p1 p2 => h3 s' V' e k g ⟨p1, p2⟩)) (fun s7 V7 e7 k7 g7 p7 => ?_)
  have tk7 : s7.tg 5 = 9 := (g7 5 (by omega)).1.trans tk6
  simp (disch := first | assumption | exact zk_115 | ((repeat (first | exact z1n | refine z1I ?_ | refine z1R ?_)); done) | exact rfl | omega | decide) only [r_aload_0, r_objI, r_dup_i, r_dup_r, r_inv_1_0, r_inv_1_1, r_inv_1_2, r_inv_1_3, r_inv_1_4, r_K0, r_K1, r_pf_576, r_pf_577, r_pf_578, r_pf_579, r_pf_580, r_pf_581, r_pf_582, r_pf_583, r_pf_584, r_ret, r_KX, ↓reduceIte, not_true_eq_false, not_false_eq_true, Int.reduceEq, Int.reduceLE, Int.reduceLT, Int.reduceAdd, Int.reduceNeg, Int.reduceMul, Int.reduceSub, Int.reduceToNat]
  refine i_new 139 (b := 155) (c := 844) (P := fun s' V' => zFP s' V' ∧ (V' 139 2 = .ref 154 ∧ s'.tg 154 = 22 ∧ s'.ln 154 = 0)) (by omega) (k := 3) rfl (by simp) (fun Q' s0 V0 h1 h2 h3 => i_FailureSets (by omega) h1 h2 (fun s' V' e k g p1 p2 => h3 s' V' e k g ⟨p1, p2⟩)) (fun s8 V8 e8 k8 g8 p8 => ?_)
  have tk8 : s8.tg 5 = 9 := (g8 5 (by omega)).1.trans tk7
  simp (disch := first | assumption | exact zk_115 | ((repeat (first | exact z1n | refine z1I ?_ | refine z1R ?_)); done) | exact rfl | omega | decide) only [r_aload_0, r_objI, r_dup_i, r_dup_r, r_inv_1_0, r_inv_1_1, r_inv_1_2, r_inv_1_3, r_inv_1_4, r_K0, r_K1, r_pf_576, r_pf_577, r_pf_578, r_pf_579, r_pf_580, r_pf_581, r_pf_582, r_pf_583, r_pf_584, r_ret, r_KX, ↓reduceIte, not_true_eq_false, not_false_eq_true, Int.reduceEq, Int.reduceLE, Int.reduceLT, Int.reduceAdd, Int.reduceNeg, Int.reduceMul, Int.reduceSub, Int.reduceToNat]
  refine i_new 155 (b := 164) (c := 365) (P := fun s' V' => zTxP s' V' ∧ zTxC (fun _ => 0) 0 V' ∧ zTxI V') (by omega) (k := 4) rfl (by simp) (fun Q' s0 V0 h1 h2 h3 => i_Text (by omega) h1 h2 (fun s' V' e k g p1 p2 p3 => h3 s' V' e k g ⟨p1, p2, p3⟩)) (fun s9 V9 e9 k9 g9 p9 => ?_)
  have tk9 : s9.tg 5 = 9 := (g9 5 (by omega)).1.trans tk8
  simp (disch := first | assumption | exact zk_115 | ((repeat (first | exact z1n | refine z1I ?_ | refine z1R ?_)); done) | exact rfl | omega | decide) only [r_aload_0, r_objI, r_dup_i, r_dup_r, r_inv_1_0, r_inv_1_1, r_inv_1_2, r_inv_1_3, r_inv_1_4, r_K0, r_K1, r_pf_576, r_pf_577, r_pf_578, r_pf_579, r_pf_580, r_pf_581, r_pf_582, r_pf_583, r_pf_584, r_ret, r_KX, ↓reduceIte, not_true_eq_false, not_false_eq_true, Int.reduceEq, Int.reduceLE, Int.reduceLT, Int.reduceAdd, Int.reduceNeg, Int.reduceMul, Int.reduceSub, Int.reduceToNat]
  refine hQ _ _ (by omega) (by omega) (fun r hr => ⟨((g9 r (by omega)).1.trans ((g8 r (by omega)).1.trans ((g7 r (by omega)).1.trans ((g6 r (by omega)).1.trans ((g5 r (by omega)).1.trans ((g4 r (by omega)).1.trans ((g3 r (by omega)).1.trans ((g2 r (by omega)).1.trans ((g1 r (by omega)).1.trans rfl))))))))), ((g9 r (by omega)).2.1.trans ((g8 r (by omega)).2.1.trans ((g7 r (by omega)).2.1.trans ((g6 r (by omega)).2.1.trans ((g5 r (by omega)).2.1.trans ((g4 r (by omega)).2.1.trans ((g3 r (by omega)).2.1.trans ((g2 r (by omega)).2.1.trans ((g1 r (by omega)).2.1.trans rfl))))))))), (by rw [zput_row (show r ≠ 5 by omega), (g9 r (by omega)).2.2, zput_row (show r ≠ 5 by omega), (g8 r (by omega)).2.2, zput_row (show r ≠ 5 by omega), (g7 r (by omega)).2.2, zput_row (show r ≠ 5 by omega), (g6 r (by omega)).2.2, zput_row (show r ≠ 5 by omega), (g5 r (by omega)).2.2, zput_row (show r ≠ 5 by omega), (g4 r (by omega)).2.2, zput_row (show r ≠ 5 by omega), (g3 r (by omega)).2.2, zput_row (show r ≠ 5 by omega), (g2 r (by omega)).2.2, zput_row (show r ≠ 5 by omega), (g1 r (by omega)).2.2])⟩) (fun sF VF h zs zt zl => ?_)
  have D9 : ∀ r, 6 ≤ r → r < 164 → sF.tg r = s9.tg r ∧ sF.ln r = s9.ln r ∧ VF r = V9 r := fun r h1 h2 => ⟨(h r h2).1, (h r h2).2.1, (h r h2).2.2.trans (zput_row (by omega))⟩
  have D8 : ∀ r, 6 ≤ r → r < 155 → sF.tg r = s8.tg r ∧ sF.ln r = s8.ln r ∧ VF r = V8 r := fun r h1 h2 => ⟨(D9 r h1 (by omega)).1.trans (g9 r h2).1, (D9 r h1 (by omega)).2.1.trans (g9 r h2).2.1, (D9 r h1 (by omega)).2.2.trans ((g9 r h2).2.2.trans (zput_row (by omega)))⟩
  have D7 : ∀ r, 6 ≤ r → r < 139 → sF.tg r = s7.tg r ∧ sF.ln r = s7.ln r ∧ VF r = V7 r := fun r h1 h2 => ⟨(D8 r h1 (by omega)).1.trans (g8 r h2).1, (D8 r h1 (by omega)).2.1.trans (g8 r h2).2.1, (D8 r h1 (by omega)).2.2.trans ((g8 r h2).2.2.trans (zput_row (by omega)))⟩
  have D6 : ∀ r, 6 ≤ r → r < 134 → sF.tg r = s6.tg r ∧ sF.ln r = s6.ln r ∧ VF r = V6 r := fun r h1 h2 => ⟨(D7 r h1 (by omega)).1.trans (g7 r h2).1, (D7 r h1 (by omega)).2.1.trans (g7 r h2).2.1, (D7 r h1 (by omega)).2.2.trans ((g7 r h2).2.2.trans (zput_row (by omega)))⟩
  have D5 : ∀ r, 6 ≤ r → r < 132 → sF.tg r = s5.tg r ∧ sF.ln r = s5.ln r ∧ VF r = V5 r := fun r h1 h2 => ⟨(D6 r h1 (by omega)).1.trans (g6 r h2).1, (D6 r h1 (by omega)).2.1.trans (g6 r h2).2.1, (D6 r h1 (by omega)).2.2.trans ((g6 r h2).2.2.trans (zput_row (by omega)))⟩
  have D4 : ∀ r, 6 ≤ r → r < 121 → sF.tg r = s4.tg r ∧ sF.ln r = s4.ln r ∧ VF r = V4 r := fun r h1 h2 => ⟨(D5 r h1 (by omega)).1.trans (g5 r h2).1, (D5 r h1 (by omega)).2.1.trans (g5 r h2).2.1, (D5 r h1 (by omega)).2.2.trans ((g5 r h2).2.2.trans (zput_row (by omega)))⟩
  have D3 : ∀ r, 6 ≤ r → r < 116 → sF.tg r = s3.tg r ∧ sF.ln r = s3.ln r ∧ VF r = V3 r := fun r h1 h2 => ⟨(D4 r h1 (by omega)).1.trans (g4 r h2).1, (D4 r h1 (by omega)).2.1.trans (g4 r h2).2.1, (D4 r h1 (by omega)).2.2.trans ((g4 r h2).2.2.trans (zput_row (by omega)))⟩
  have D2 : ∀ r, 6 ≤ r → r < 42 → sF.tg r = s2.tg r ∧ sF.ln r = s2.ln r ∧ VF r = V2 r := fun r h1 h2 => ⟨(D3 r h1 (by omega)).1.trans (g3 r h2).1, (D3 r h1 (by omega)).2.1.trans (g3 r h2).2.1, (D3 r h1 (by omega)).2.2.trans ((g3 r h2).2.2.trans (zput_row (by omega)))⟩
  have D1 : ∀ r, 6 ≤ r → r < 24 → sF.tg r = s1.tg r ∧ sF.ln r = s1.ln r ∧ VF r = V1 r := fun r h1 h2 => ⟨(D2 r h1 (by omega)).1.trans (g2 r h2).1, (D2 r h1 (by omega)).2.1.trans (g2 r h2).2.1, (D2 r h1 (by omega)).2.2.trans ((g2 r h2).2.2.trans (zput_row (by omega)))⟩
  have E : ∀ r, r < 5 → sF.tg r = s.tg r ∧ sF.ln r = s.ln r ∧ VF r = V r := fun r hr => ⟨(h r (by omega)).1.trans ((g9 r (by omega)).1.trans ((g8 r (by omega)).1.trans ((g7 r (by omega)).1.trans ((g6 r (by omega)).1.trans ((g5 r (by omega)).1.trans ((g4 r (by omega)).1.trans ((g3 r (by omega)).1.trans ((g2 r (by omega)).1.trans ((g1 r (by omega)).1.trans rfl))))))))), (h r (by omega)).2.1.trans ((g9 r (by omega)).2.1.trans ((g8 r (by omega)).2.1.trans ((g7 r (by omega)).2.1.trans ((g6 r (by omega)).2.1.trans ((g5 r (by omega)).2.1.trans ((g4 r (by omega)).2.1.trans ((g3 r (by omega)).2.1.trans ((g2 r (by omega)).2.1.trans ((g1 r (by omega)).2.1.trans rfl))))))))), (h r (by omega)).2.2.trans (by rw [zput_row (show r ≠ 5 by omega), (g9 r (by omega)).2.2, zput_row (show r ≠ 5 by omega), (g8 r (by omega)).2.2, zput_row (show r ≠ 5 by omega), (g7 r (by omega)).2.2, zput_row (show r ≠ 5 by omega), (g6 r (by omega)).2.2, zput_row (show r ≠ 5 by omega), (g5 r (by omega)).2.2, zput_row (show r ≠ 5 by omega), (g4 r (by omega)).2.2, zput_row (show r ≠ 5 by omega), (g3 r (by omega)).2.2, zput_row (show r ≠ 5 by omega), (g2 r (by omega)).2.2, zput_row (show r ≠ 5 by omega), (g1 r (by omega)).2.2])⟩
  have F0 : VF 5 0 = .ref 6 := by rw [(h 5 (by omega)).2.2, zput_k (by decide), (g9 5 (by omega)).2.2, zput_k (by decide), (g8 5 (by omega)).2.2, zput_k (by decide), (g7 5 (by omega)).2.2, zput_k (by decide), (g6 5 (by omega)).2.2, zput_k (by decide), (g5 5 (by omega)).2.2, zput_k (by decide), (g4 5 (by omega)).2.2, zput_k (by decide), (g3 5 (by omega)).2.2, zput_k (by decide), (g2 5 (by omega)).2.2, zput_at]
  have F1 : VF 5 1 = .ref 24 := by rw [(h 5 (by omega)).2.2, zput_k (by decide), (g9 5 (by omega)).2.2, zput_k (by decide), (g8 5 (by omega)).2.2, zput_k (by decide), (g7 5 (by omega)).2.2, zput_k (by decide), (g6 5 (by omega)).2.2, zput_k (by decide), (g5 5 (by omega)).2.2, zput_k (by decide), (g4 5 (by omega)).2.2, zput_k (by decide), (g3 5 (by omega)).2.2, zput_at]
  have F2 : VF 5 2 = .ref 42 := by rw [(h 5 (by omega)).2.2, zput_k (by decide), (g9 5 (by omega)).2.2, zput_k (by decide), (g8 5 (by omega)).2.2, zput_k (by decide), (g7 5 (by omega)).2.2, zput_k (by decide), (g6 5 (by omega)).2.2, zput_k (by decide), (g5 5 (by omega)).2.2, zput_k (by decide), (g4 5 (by omega)).2.2, zput_at]
  have F3 : VF 5 3 = .ref 116 := by rw [(h 5 (by omega)).2.2, zput_k (by decide), (g9 5 (by omega)).2.2, zput_k (by decide), (g8 5 (by omega)).2.2, zput_k (by decide), (g7 5 (by omega)).2.2, zput_k (by decide), (g6 5 (by omega)).2.2, zput_k (by decide), (g5 5 (by omega)).2.2, zput_at]
  have F4 : VF 5 4 = .ref 121 := by rw [(h 5 (by omega)).2.2, zput_k (by decide), (g9 5 (by omega)).2.2, zput_k (by decide), (g8 5 (by omega)).2.2, zput_k (by decide), (g7 5 (by omega)).2.2, zput_k (by decide), (g6 5 (by omega)).2.2, zput_at]
  have F5 : VF 5 5 = .ref 132 := by rw [(h 5 (by omega)).2.2, zput_k (by decide), (g9 5 (by omega)).2.2, zput_k (by decide), (g8 5 (by omega)).2.2, zput_k (by decide), (g7 5 (by omega)).2.2, zput_at]
  have F6 : VF 5 6 = .ref 134 := by rw [(h 5 (by omega)).2.2, zput_k (by decide), (g9 5 (by omega)).2.2, zput_k (by decide), (g8 5 (by omega)).2.2, zput_at]
  have F7 : VF 5 7 = .ref 139 := by rw [(h 5 (by omega)).2.2, zput_k (by decide), (g9 5 (by omega)).2.2, zput_at]
  have F8 : VF 5 8 = .ref 155 := by rw [(h 5 (by omega)).2.2, zput_at]
  have tF : sF.tg 5 = 9 := (h 5 (by omega)).1.trans tk9
  refine ⟨⟨⟨tF, F0, F1, F2, F3, F4, F5, F6, F7, F8⟩, fun k hk => ?_, ?_⟩, ⟨p1.1.ah (fun r r0 r1 => D1 r (by omega) (by omega)), p1.2.rows (fun r r0 r1 => (D1 r (by omega) (by omega)).2.2)⟩, p2.1.ah (fun r r0 r1 => D2 r (by omega) (by omega)), ⟨fun i => 44 + 18 * i, p3.1.ah (fun r r0 r1 => D3 r (by omega) (by omega)), ⟨by rw [(D3 42 (by omega) (by omega)).2.2]; exact p3.2, fun k hk => absurd hk (by show ¬ (k : Int) < 0; omega)⟩⟩, p4.ah (fun r r0 r1 => D4 r (by omega) (by omega)), ⟨p5.1.ah (fun r r0 r1 => D5 r (by omega) (by omega)), by rw [(D5 121 (by omega) (by omega)).2.2]; exact p5.2.1, fun c => absurd c (by decide), fun _ => by rw [(D5 121 (by omega) (by omega)).2.2]; exact p5.2.2⟩, ⟨(D6 132 (by omega) (by omega)).1.trans p6.1, ⟨133, by rw [(D6 132 (by omega) (by omega)).2.2]; exact p6.2.1, Or.inl rfl, by omega, (D6 133 (by omega) (by omega)).1.trans p6.2.2.1, Or.inl ((D6 133 (by omega) (by omega)).2.1.trans p6.2.2.2)⟩⟩, ⟨p7.1.ah (fun r r0 r1 => D7 r (by omega) (by omega)), ⟨138, by rw [(D7 134 (by omega) (by omega)).2.2]; exact p7.2.1, Or.inl rfl, by omega, (D7 138 (by omega) (by omega)).1.trans p7.2.2.1, Or.inl ((D7 138 (by omega) (by omega)).2.1.trans p7.2.2.2)⟩⟩, ⟨p8.1.ah (fun r r0 r1 => D8 r (by omega) (by omega)), ⟨154, by rw [(D8 139 (by omega) (by omega)).2.2]; exact p8.2.1, Or.inl rfl, by omega, (D8 154 (by omega) (by omega)).1.trans p8.2.2.1, Or.inl ((D8 154 (by omega) (by omega)).2.1.trans p8.2.2.2)⟩⟩, ⟨p9.1.ah (fun r r0 r1 => D9 r (by omega) (by omega)), ⟨by rw [(D9 155 (by omega) (by omega)).2.2]; exact p9.2.1.1, fun k k0 k1 => absurd k1 (by show ¬ k < 0; omega)⟩, fun w hw i i0 i1 => by rw [(D9 _ (by omega) (by omega)).2.2]; exact p9.2.2 w hw i i0 i1⟩, zs, zt, zl⟩
  · obtain ⟨b1, b2, b3⟩ := hA k hk
    exact ⟨(E k (by omega)).1.trans b1, (E k (by omega)).2.1.trans b2, fun j hj => by rw [(E k (by omega)).2.2]; exact b3 j hj⟩
  · obtain ⟨b1, b2, b3⟩ := hM
    exact ⟨(E 3 (by omega)).1.trans b1, (E 3 (by omega)).2.1.trans b2, fun j hj => by rw [(E 3 (by omega)).2.2]; exact b3 j hj⟩
end
