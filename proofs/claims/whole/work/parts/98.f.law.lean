/-! THE LAW, 2: its helpers -/
theorem zb1_f : zb1 false = 0 := rfl
theorem zb1_t : zb1 true = 1 := rfl
section
variable {d : Nat} {s : zS} {V : zV} {Q : zO → zH → Prop} {σ : zσ} {h : zH}
set_option maxRecDepth 20000 in
theorem l_addCall (hd : 90 ≤ d) (hw : zWc σ s V) (ho : zOK σ) {x y l t k : Int} (hx : zI32 x) (hy : zI32 y) (hl : zI32 l) (ht : zI32 t) (hk : zI32 k) (e1 : ¬ ((0 ≤ x ∧ x < σ.r.n) ∧ 0 ≤ y ∧ y < σ.r.n) → zLth Q 1 σ s V) (e2 : ((0 ≤ x ∧ x < σ.r.n) ∧ 0 ≤ y ∧ y < σ.r.n) → ¬ (((1 ≤ l ∧ l ≤ 500) ∧ 1 ≤ t ∧ t ≤ 3) ∧ 0 ≤ k ∧ k ≤ 2) → zLth Q 2 σ s V) (e3 : ((0 ≤ x ∧ x < σ.r.n) ∧ 0 ≤ y ∧ y < σ.r.n) → (((1 ≤ l ∧ l ≤ 500) ∧ 1 ≤ t ∧ t ≤ 3) ∧ 0 ≤ k ∧ k ≤ 2) → (((x = y ∨ zin (zNeeds σ.r y) x = true) ∨ k = 2 ∧ zHd σ.r x σ.r.c.toNat = -1) ∨ σ.r.c = 24) → zLth Q 3 σ s V) (h0 : ((0 ≤ x ∧ x < σ.r.n) ∧ 0 ≤ y ∧ y < σ.r.n) → (((1 ≤ l ∧ l ≤ 500) ∧ 1 ≤ t ∧ t ≤ 3) ∧ 0 ≤ k ∧ k ≤ 2) → ¬ (((x = y ∨ zin (zNeeds σ.r y) x = true) ∨ k = 2 ∧ zHd σ.r x σ.r.c.toNat = -1) ∨ σ.r.c = 24) → zOK (σ.sv (σ.r.addK x y l t k)) ∧ zLrt Q (Int32.ofInt (σ.r.c)).toInt64 (σ.sv (σ.r.addK x y l t k)) s V) : zcall d 271 [.ref 5, zi x, zi y, zi l, zi t, zi k, .ref 191] (s, V) Q := by
  obtain ⟨d, rfl⟩ : ∃ e, d = e + 1 := ⟨d - 1, by omega⟩
  simp (disch := first | assumption | omega) only [zc_271]
  simp (disch := first | assumption | exact zk_271 | ((repeat (first | exact z1n | refine z1I ?_ | refine z1R ?_)); done) | exact rfl | omega | decide) only [zb_271_0, r_aload_6, r_iconst, r_aload_0, r_iload_1, r_iload_2, r_iload_3, r_iload_4, r_iload_5, r_inv_6_0, r_inv_6_1, r_inv_6_2, r_inv_6_3, r_inv_6_4, r_K0, r_K1, r_i2l, r_lastore, r_lastoreR, r_goto, r_astore_7i, r_astore_7r, r_astore_7j, r_iret, r_bret_0, r_bret_1, ↓reduceIte, not_true_eq_false, not_false_eq_true, Int.reduceEq, Int.reduceLE, Int.reduceLT, Int.reduceAdd, Int.reduceNeg, Int.reduceMul, Int.reduceSub, Int.reduceToNat]
  refine w_addCall (by omega) hw ho hx hy hl ht hk (fun q1 => fun s' V' y1 y2 => ?_) (fun q1 q2 => fun s' V' y1 y2 => ?_) (fun q1 q2 q3 => fun s' V' y1 y2 => ?_) (fun q1 q2 q3 => fun s' V' y1 y2 => ?_)
  · have := e1 q1 s' V' y1 y2
    refine Eq.mpr (r_KH (lb := 1) (by decide) (by decide) zb_271_1 (by simp) rfl) ?_
    simp (disch := first | assumption | exact zk_271 | omega) only [r_iconst, r_iret]
    exact this
  · have := e2 q1 q2 s' V' y1 y2
    refine Eq.mpr (r_KH (lb := 2) (by decide) (by decide) zb_271_2 (by simp) rfl) ?_
    simp (disch := first | assumption | exact zk_271 | omega) only [r_iconst, r_iret]
    exact this
  · have := e3 q1 q2 q3 s' V' y1 y2
    refine Eq.mpr (r_KH (lb := 3) (by decide) (by decide) zb_271_3 (by simp) rfl) ?_
    simp (disch := first | assumption | exact zk_271 | omega) only [r_iconst, r_iret]
    exact this
  · obtain ⟨ho', h0'⟩ := h0 q1 q2 q3
    have := h0'.go ho' y1 y2
    have t9 := y2.2.2.2.2.2.2.2.2.2.2.2.1
    have l9 := y2.2.2.2.2.2.2.2.2.2.2.2.2
    simp (disch := first | assumption | exact zk_271 | omega) only [r_K1, r_i2lR, r_lastoreR, r_goto, zb_271_4, r_iconst, r_iret]
    exact this
set_option maxRecDepth 20000 in
theorem l_removeCall (hd : 90 ≤ d) (hw : zWc σ s V) (ho : zOK σ) {k : Int} (hk : zI32 k) (e1 : ¬ (0 ≤ k ∧ k < σ.r.c) → zLth Q 1 σ s V) (e2 : (0 ≤ k ∧ k < σ.r.c) → (zany (fun j => decide (zLead σ.r j = k)) 0 σ.r.c = true) → zLth Q 2 σ s V) (h0 : (0 ≤ k ∧ k < σ.r.c) → ¬ (zany (fun j => decide (zLead σ.r j = k)) 0 σ.r.c = true) → zOK (σ.sv (σ.r.delK k)) ∧ zLrt Q (Int32.ofInt (σ.r.c - 1)).toInt64 (σ.sv (σ.r.delK k)) s V) : zcall d 272 [.ref 5, zi k, .ref 191] (s, V) Q := by
  obtain ⟨d, rfl⟩ : ∃ e, d = e + 1 := ⟨d - 1, by omega⟩
  simp (disch := first | assumption | omega) only [zc_272]
  simp (disch := first | assumption | exact zk_272 | ((repeat (first | exact z1n | refine z1I ?_ | refine z1R ?_)); done) | exact rfl | omega | decide) only [zb_272_0, r_aload_2, r_iconst, r_aload_0, r_iload_1, r_inv_2_0, r_inv_2_1, r_inv_2_2, r_inv_2_3, r_inv_2_4, r_K0, r_K1, r_i2l, r_lastore, r_lastoreR, r_goto, r_astore_3i, r_astore_3r, r_astore_3j, r_iret, r_bret_0, r_bret_1, ↓reduceIte, not_true_eq_false, not_false_eq_true, Int.reduceEq, Int.reduceLE, Int.reduceLT, Int.reduceAdd, Int.reduceNeg, Int.reduceMul, Int.reduceSub, Int.reduceToNat]
  refine w_removeCall (by omega) hw ho hk (fun q1 => fun s' V' y1 y2 => ?_) (fun q1 q2 => fun s' V' y1 y2 => ?_) (fun q1 q2 => fun s' V' y1 y2 => ?_)
  · have := e1 q1 s' V' y1 y2
    refine Eq.mpr (r_KH (lb := 1) (by decide) (by decide) zb_272_1 (by simp) rfl) ?_
    simp (disch := first | assumption | exact zk_272 | omega) only [r_iconst, r_iret]
    exact this
  · have := e2 q1 q2 s' V' y1 y2
    refine Eq.mpr (r_KH (lb := 2) (by decide) (by decide) zb_272_2 (by simp) rfl) ?_
    simp (disch := first | assumption | exact zk_272 | omega) only [r_iconst, r_iret]
    exact this
  · obtain ⟨ho', h0'⟩ := h0 q1 q2
    have := h0'.go ho' y1 y2
    have t9 := y2.2.2.2.2.2.2.2.2.2.2.2.1
    have l9 := y2.2.2.2.2.2.2.2.2.2.2.2.2
    simp (disch := first | assumption | exact zk_272 | omega) only [r_K1, r_i2lR, r_lastoreR, r_goto, zb_272_3, r_iconst, r_iret]
    exact this
set_option maxRecDepth 20000 in
theorem l_set (hd : 90 ≤ d) (hw : zWc σ s V) (ho : zOK σ) {u x v : Int} (hu : zI32 u) (hx : zI32 x) (hv : zI32 v) (e1 : ¬ (0 ≤ x ∧ x < σ.r.n) → zLth Q 1 σ s V) (e2 : (0 ≤ x ∧ x < σ.r.n) → ¬ ((0 ≤ u ∧ u ≤ 5) ∧ zLeast u ≤ v ∧ v ≤ zMost u) → zLth Q 2 σ s V) (h0 : (0 ≤ x ∧ x < σ.r.n) → ((0 ≤ u ∧ u ≤ 5) ∧ zLeast u ≤ v ∧ v ≤ zMost u) → zOK (σ.sv (σ.r.sS u x v)) ∧ zLrt Q (Int32.ofInt (σ.r.S u x)).toInt64 (σ.sv (σ.r.sS u x v)) s V) : zcall d 273 [.ref 5, zi u, zi x, zi v, .ref 191] (s, V) Q := by
  obtain ⟨d, rfl⟩ : ∃ e, d = e + 1 := ⟨d - 1, by omega⟩
  simp (disch := first | assumption | omega) only [zc_273]
  simp (disch := first | assumption | exact zk_273 | ((repeat (first | exact z1n | refine z1I ?_ | refine z1R ?_)); done) | exact rfl | omega | decide) only [zb_273_0, r_aload_4, r_iconst, r_aload_0, r_iload_1, r_iload_2, r_iload_3, r_inv_4_0, r_inv_4_1, r_inv_4_2, r_inv_4_3, r_inv_4_4, r_K0, r_K1, r_i2l, r_lastore, r_lastoreR, r_goto, r_astore_5i, r_astore_5r, r_astore_5j, r_iret, r_bret_0, r_bret_1, ↓reduceIte, not_true_eq_false, not_false_eq_true, Int.reduceEq, Int.reduceLE, Int.reduceLT, Int.reduceAdd, Int.reduceNeg, Int.reduceMul, Int.reduceSub, Int.reduceToNat]
  refine w_set (by omega) hw ho hu hx hv (fun q1 => fun s' V' y1 y2 => ?_) (fun q1 q2 => fun s' V' y1 y2 => ?_) (fun q1 q2 => fun s' V' y1 y2 => ?_)
  · have := e1 q1 s' V' y1 y2
    refine Eq.mpr (r_KH (lb := 1) (by decide) (by decide) zb_273_1 (by simp) rfl) ?_
    simp (disch := first | assumption | exact zk_273 | omega) only [r_iconst, r_iret]
    exact this
  · have := e2 q1 q2 s' V' y1 y2
    refine Eq.mpr (r_KH (lb := 2) (by decide) (by decide) zb_273_2 (by simp) rfl) ?_
    simp (disch := first | assumption | exact zk_273 | omega) only [r_iconst, r_iret]
    exact this
  · obtain ⟨ho', h0'⟩ := h0 q1 q2
    have := h0'.go ho' y1 y2
    have t9 := y2.2.2.2.2.2.2.2.2.2.2.2.1
    have l9 := y2.2.2.2.2.2.2.2.2.2.2.2.2
    simp (disch := first | assumption | exact zk_273 | omega) only [r_K1, r_i2lR, r_lastoreR, r_goto, zb_273_3, r_iconst, r_iret]
    exact this
set_option maxRecDepth 20000 in
theorem l_setLimit (hd : 90 ≤ d) (hw : zWc σ s V) (ho : zOK σ) {k v : Int} (hk : zI32 k) (hv : zI32 v) (e1 : ¬ (0 ≤ k ∧ k < σ.r.c) → zLth Q 1 σ s V) (e2 : (0 ≤ k ∧ k < σ.r.c) → ¬ (1 ≤ v ∧ v ≤ 500) → zLth Q 2 σ s V) (h0 : (0 ≤ k ∧ k < σ.r.c) → (1 ≤ v ∧ v ≤ 500) → zOK (σ.sv (σ.r.sK 2 k v)) ∧ zLrt Q (Int32.ofInt (σ.r.K 2 k)).toInt64 (σ.sv (σ.r.sK 2 k v)) s V) : zcall d 274 [.ref 5, zi k, zi v, .ref 191] (s, V) Q := by
  obtain ⟨d, rfl⟩ : ∃ e, d = e + 1 := ⟨d - 1, by omega⟩
  simp (disch := first | assumption | omega) only [zc_274]
  simp (disch := first | assumption | exact zk_274 | ((repeat (first | exact z1n | refine z1I ?_ | refine z1R ?_)); done) | exact rfl | omega | decide) only [zb_274_0, r_aload_3, r_iconst, r_aload_0, r_iload_1, r_iload_2, r_inv_3_0, r_inv_3_1, r_inv_3_2, r_inv_3_3, r_inv_3_4, r_K0, r_K1, r_i2l, r_lastore, r_lastoreR, r_goto, r_astore_4i, r_astore_4r, r_astore_4j, r_iret, r_bret_0, r_bret_1, ↓reduceIte, not_true_eq_false, not_false_eq_true, Int.reduceEq, Int.reduceLE, Int.reduceLT, Int.reduceAdd, Int.reduceNeg, Int.reduceMul, Int.reduceSub, Int.reduceToNat]
  refine w_setLimit (by omega) hw ho hk hv (fun q1 => fun s' V' y1 y2 => ?_) (fun q1 q2 => fun s' V' y1 y2 => ?_) (fun q1 q2 => fun s' V' y1 y2 => ?_)
  · have := e1 q1 s' V' y1 y2
    refine Eq.mpr (r_KH (lb := 1) (by decide) (by decide) zb_274_1 (by simp) rfl) ?_
    simp (disch := first | assumption | exact zk_274 | omega) only [r_iconst, r_iret]
    exact this
  · have := e2 q1 q2 s' V' y1 y2
    refine Eq.mpr (r_KH (lb := 2) (by decide) (by decide) zb_274_2 (by simp) rfl) ?_
    simp (disch := first | assumption | exact zk_274 | omega) only [r_iconst, r_iret]
    exact this
  · obtain ⟨ho', h0'⟩ := h0 q1 q2
    have := h0'.go ho' y1 y2
    have t9 := y2.2.2.2.2.2.2.2.2.2.2.2.1
    have l9 := y2.2.2.2.2.2.2.2.2.2.2.2.2
    simp (disch := first | assumption | exact zk_274 | omega) only [r_K1, r_i2lR, r_lastoreR, r_goto, zb_274_3, r_iconst, r_iret]
    exact this
set_option maxRecDepth 20000 in
theorem l_service (hd : 90 ≤ d) (hw : zWc σ s V) (ho : zOK σ) {x w : Int} (hx : zI32 x) (hw' : zI32 w) (e1 : ¬ (0 ≤ x ∧ x < σ.r.n) → zLth Q 1 σ s V) (e2 : (0 ≤ x ∧ x < σ.r.n) → ¬ (0 ≤ w ∧ w ≤ 10) → zLth Q 2 σ s V) (h0 : (0 ≤ x ∧ x < σ.r.n) → (0 ≤ w ∧ w ≤ 10) → zLrt Q (Int32.ofInt (zTell σ.r x w)).toInt64 σ s V) : zcall d 275 [.ref 5, zi x, zi w, .ref 191] (s, V) Q := by
  obtain ⟨d, rfl⟩ : ∃ e, d = e + 1 := ⟨d - 1, by omega⟩
  simp (disch := first | assumption | omega) only [zc_275]
  simp (disch := first | assumption | exact zk_275 | ((repeat (first | exact z1n | refine z1I ?_ | refine z1R ?_)); done) | exact rfl | omega | decide) only [zb_275_0, r_aload_3, r_iconst, r_aload_0, r_iload_1, r_iload_2, r_inv_3_0, r_inv_3_1, r_inv_3_2, r_inv_3_3, r_inv_3_4, r_K0, r_K1, r_i2l, r_lastore, r_lastoreR, r_goto, r_astore_4i, r_astore_4r, r_astore_4j, r_iret, r_bret_0, r_bret_1, ↓reduceIte, not_true_eq_false, not_false_eq_true, Int.reduceEq, Int.reduceLE, Int.reduceLT, Int.reduceAdd, Int.reduceNeg, Int.reduceMul, Int.reduceSub, Int.reduceToNat]
  refine w_service (by omega) hw ho hx hw' (fun q1 => fun s' V' y1 y2 => ?_) (fun q1 q2 => fun s' V' y1 y2 => ?_) (fun q1 q2 => fun s' V' y1 y2 => ?_)
  · have := e1 q1 s' V' y1 y2
    refine Eq.mpr (r_KH (lb := 1) (by decide) (by decide) zb_275_1 (by simp) rfl) ?_
    simp (disch := first | assumption | exact zk_275 | omega) only [r_iconst, r_iret]
    exact this
  · have := e2 q1 q2 s' V' y1 y2
    refine Eq.mpr (r_KH (lb := 2) (by decide) (by decide) zb_275_2 (by simp) rfl) ?_
    simp (disch := first | assumption | exact zk_275 | omega) only [r_iconst, r_iret]
    exact this
  · have h0' := h0 q1 q2
    have := h0'.go ho y1 y2
    have t9 := y2.2.2.2.2.2.2.2.2.2.2.2.1
    have l9 := y2.2.2.2.2.2.2.2.2.2.2.2.2
    simp (disch := first | assumption | exact zk_275 | omega) only [r_K1, r_i2lR, r_lastoreR, r_goto, zb_275_3, r_iconst, r_iret]
    exact this
set_option maxRecDepth 20000 in
theorem l_call (hd : 90 ≤ d) (hw : zWc σ s V) (ho : zOK σ) {x w : Int} (hx : zI32 x) (hw' : zI32 w) (e1 : ¬ (0 ≤ x ∧ x < σ.r.c) → zLth Q 1 σ s V) (e2 : (0 ≤ x ∧ x < σ.r.c) → ¬ (0 ≤ w ∧ w ≤ 5) → zLth Q 2 σ s V) (h0 : (0 ≤ x ∧ x < σ.r.c) → (0 ≤ w ∧ w ≤ 5) → zLrt Q (Int32.ofInt (zTelK σ.r x w)).toInt64 σ s V) : zcall d 276 [.ref 5, zi x, zi w, .ref 191] (s, V) Q := by
  obtain ⟨d, rfl⟩ : ∃ e, d = e + 1 := ⟨d - 1, by omega⟩
  simp (disch := first | assumption | omega) only [zc_276]
  simp (disch := first | assumption | exact zk_276 | ((repeat (first | exact z1n | refine z1I ?_ | refine z1R ?_)); done) | exact rfl | omega | decide) only [zb_276_0, r_aload_3, r_iconst, r_aload_0, r_iload_1, r_iload_2, r_inv_3_0, r_inv_3_1, r_inv_3_2, r_inv_3_3, r_inv_3_4, r_K0, r_K1, r_i2l, r_lastore, r_lastoreR, r_goto, r_astore_4i, r_astore_4r, r_astore_4j, r_iret, r_bret_0, r_bret_1, ↓reduceIte, not_true_eq_false, not_false_eq_true, Int.reduceEq, Int.reduceLE, Int.reduceLT, Int.reduceAdd, Int.reduceNeg, Int.reduceMul, Int.reduceSub, Int.reduceToNat]
  refine w_call (by omega) hw ho hx hw' (fun q1 => fun s' V' y1 y2 => ?_) (fun q1 q2 => fun s' V' y1 y2 => ?_) (fun q1 q2 => fun s' V' y1 y2 => ?_)
  · have := e1 q1 s' V' y1 y2
    refine Eq.mpr (r_KH (lb := 1) (by decide) (by decide) zb_276_1 (by simp) rfl) ?_
    simp (disch := first | assumption | exact zk_276 | omega) only [r_iconst, r_iret]
    exact this
  · have := e2 q1 q2 s' V' y1 y2
    refine Eq.mpr (r_KH (lb := 2) (by decide) (by decide) zb_276_2 (by simp) rfl) ?_
    simp (disch := first | assumption | exact zk_276 | omega) only [r_iconst, r_iret]
    exact this
  · have h0' := h0 q1 q2
    have := h0'.go ho y1 y2
    have t9 := y2.2.2.2.2.2.2.2.2.2.2.2.1
    have l9 := y2.2.2.2.2.2.2.2.2.2.2.2.2
    simp (disch := first | assumption | exact zk_276 | omega) only [r_K1, r_i2lR, r_lastoreR, r_goto, zb_276_3, r_iconst, r_iret]
    exact this
set_option maxRecDepth 20000 in
theorem l_depends (hd : 90 ≤ d) (hw : zWc σ s V) (ho : zOK σ) {x y : Int} (hx : zI32 x) (hy : zI32 y) (e1 : ¬ ((0 ≤ x ∧ x < σ.r.n) ∧ 0 ≤ y ∧ y < σ.r.n) → zLth Q 1 σ s V) (h0 : (0 ≤ x ∧ x < σ.r.n) ∧ 0 ≤ y ∧ y < σ.r.n → zLrt Q (Int64.ofInt (zb1 (zin (zNeeds σ.r x) y))) σ s V) : zcall d 277 [.ref 5, zi x, zi y, .ref 191] (s, V) Q := by
  obtain ⟨d, rfl⟩ : ∃ e, d = e + 1 := ⟨d - 1, by omega⟩
  simp (disch := first | assumption | omega) only [zc_277]
  simp (disch := first | assumption | exact zk_277 | ((repeat (first | exact z1n | refine z1I ?_ | refine z1R ?_)); done) | exact rfl | omega | decide) only [zb_277_0, r_aload_3, r_iconst, r_aload_0, r_iload_1, r_iload_2, r_inv_3_0, r_inv_3_1, r_inv_3_2, r_inv_3_3, r_inv_3_4, r_K0, r_K1, r_if_eq, r_lconst, r_goto, r_goto_w, r_lastore, r_lastoreR, r_astore_4i, r_astore_4r, r_astore_4j, r_iret, r_bret_0, r_bret_1, ↓reduceIte, not_true_eq_false, not_false_eq_true, Int.reduceEq, Int.reduceLE, Int.reduceLT, Int.reduceAdd, Int.reduceNeg, Int.reduceMul, Int.reduceSub, Int.reduceToNat]
  refine w_depends (by omega) hw ho hx hy (fun q1 => fun s' V' y1 y2 => ?_) (fun q1 => fun s' V' y1 y2 => ?_)
  · have := e1 q1 s' V' y1 y2
    refine Eq.mpr (r_KH (lb := 3) (by decide) (by decide) zb_277_3 (by simp) rfl) ?_
    simp (disch := first | assumption | exact zk_277 | omega) only [r_iconst, r_iret]
    exact this
  · have h0' := h0 q1
    have := h0'.go ho y1 y2
    have t9 := y2.2.2.2.2.2.2.2.2.2.2.2.1
    have l9 := y2.2.2.2.2.2.2.2.2.2.2.2.2
    cases hbb : (zin (zNeeds σ.r x) y)
    · rw [hbb] at this
      simp (disch := first | assumption | exact zk_277 | omega) only [r_K1, zb1_f, r_if_eq, r_lconst, r_lastore, r_goto, r_goto_w, zb_277_1, zb_277_2, zb_277_4, r_iconst, r_iret, ↓reduceIte, Int.reduceEq]
      exact this
    · rw [hbb] at this
      simp (disch := first | assumption | exact zk_277 | omega) only [r_K1, zb1_t, r_if_eq, r_lconst, r_lastore, r_goto, r_goto_w, zb_277_1, zb_277_2, zb_277_4, r_iconst, r_iret, ↓reduceIte, Int.reduceEq]
      exact this
set_option maxRecDepth 20000 in
theorem l_level (hd : 90 ≤ d) (hw : zWc σ s V) (ho : zOK σ) {x : Int} (hx : zI32 x) (e1 : ¬ (0 ≤ x ∧ x < σ.r.n) → zLth Q 1 σ s V) (h0 : 0 ≤ x ∧ x < σ.r.n → zLrt Q (Int32.ofInt (zChn σ.r x)).toInt64 σ s V) : zcall d 278 [.ref 5, zi x, .ref 191] (s, V) Q := by
  obtain ⟨d, rfl⟩ : ∃ e, d = e + 1 := ⟨d - 1, by omega⟩
  simp (disch := first | assumption | omega) only [zc_278]
  simp (disch := first | assumption | exact zk_278 | ((repeat (first | exact z1n | refine z1I ?_ | refine z1R ?_)); done) | exact rfl | omega | decide) only [zb_278_0, r_aload_2, r_iconst, r_aload_0, r_iload_1, r_inv_2_0, r_inv_2_1, r_inv_2_2, r_inv_2_3, r_inv_2_4, r_K0, r_K1, r_i2l, r_lastore, r_lastoreR, r_goto, r_astore_3i, r_astore_3r, r_astore_3j, r_iret, r_bret_0, r_bret_1, ↓reduceIte, not_true_eq_false, not_false_eq_true, Int.reduceEq, Int.reduceLE, Int.reduceLT, Int.reduceAdd, Int.reduceNeg, Int.reduceMul, Int.reduceSub, Int.reduceToNat]
  refine w_level (by omega) hw ho hx (fun q1 => fun s' V' y1 y2 => ?_) (fun q1 => fun s' V' y1 y2 => ?_)
  · have := e1 q1 s' V' y1 y2
    refine Eq.mpr (r_KH (lb := 1) (by decide) (by decide) zb_278_1 (by simp) rfl) ?_
    simp (disch := first | assumption | exact zk_278 | omega) only [r_iconst, r_iret]
    exact this
  · have h0' := h0 q1
    have := h0'.go ho y1 y2
    have t9 := y2.2.2.2.2.2.2.2.2.2.2.2.1
    have l9 := y2.2.2.2.2.2.2.2.2.2.2.2.2
    simp (disch := first | assumption | exact zk_278 | omega) only [r_K1, r_i2lR, r_lastoreR, r_goto, zb_278_2, r_iconst, r_iret]
    exact this
set_option maxRecDepth 20000 in
theorem l_request (hd : 90 ≤ d) (hw : zWc σ s V) (ho : zOK σ) {x b : Int} (hx : zI32 x) (hb : zI32 b) (e1 : ¬ (0 ≤ x ∧ x < σ.r.n) → zLth Q 1 σ s V) (e2 : 0 ≤ x ∧ x < σ.r.n → ¬ (0 ≤ b ∧ b ≤ 1000) → zLth Q 2 σ s V) (h0 : 0 ≤ x ∧ x < σ.r.n → 0 ≤ b ∧ b ≤ 1000 → zNok2 (zSv σ.r 12 x 0 b zN0).2 → zOK (σ.rq (zSv σ.r 12 x 0 b zN0)) ∧ zLrt Q (Int64.ofInt (zb1 (zSv σ.r 12 x 0 b zN0).1.2)) (σ.rq (zSv σ.r 12 x 0 b zN0)) s V) : zcall d 279 [.ref 5, zi x, zi b, .ref 191] (s, V) Q := by
  obtain ⟨d, rfl⟩ : ∃ e, d = e + 1 := ⟨d - 1, by omega⟩
  simp (disch := first | assumption | omega) only [zc_279]
  simp (disch := first | assumption | exact zk_279 | ((repeat (first | exact z1n | refine z1I ?_ | refine z1R ?_)); done) | exact rfl | omega | decide) only [zb_279_0, r_aload_3, r_iconst, r_aload_0, r_iload_1, r_iload_2, r_inv_3_0, r_inv_3_1, r_inv_3_2, r_inv_3_3, r_inv_3_4, r_K0, r_K1, r_if_eq, r_lconst, r_goto, r_goto_w, r_lastore, r_lastoreR, r_astore_4i, r_astore_4r, r_astore_4j, r_iret, r_bret_0, r_bret_1, ↓reduceIte, not_true_eq_false, not_false_eq_true, Int.reduceEq, Int.reduceLE, Int.reduceLT, Int.reduceAdd, Int.reduceNeg, Int.reduceMul, Int.reduceSub, Int.reduceToNat]
  refine w_request (by omega) hw ho hx hb (fun q1 => fun s' V' y1 y2 => ?_) (fun q1 q2 => fun s' V' y1 y2 => ?_) (fun q1 q2 q3 => fun s' V' y1 y2 => ?_)
  · have := e1 q1 s' V' y1 y2
    refine Eq.mpr (r_KH (lb := 3) (by decide) (by decide) zb_279_3 (by simp) rfl) ?_
    simp (disch := first | assumption | exact zk_279 | omega) only [r_iconst, r_iret]
    exact this
  · have := e2 q1 q2 s' V' y1 y2
    refine Eq.mpr (r_KH (lb := 4) (by decide) (by decide) zb_279_4 (by simp) rfl) ?_
    simp (disch := first | assumption | exact zk_279 | omega) only [r_iconst, r_iret]
    exact this
  · obtain ⟨ho', h0'⟩ := h0 q1 q2 q3
    have := h0'.go ho' y1 y2
    have t9 := y2.2.2.2.2.2.2.2.2.2.2.2.1
    have l9 := y2.2.2.2.2.2.2.2.2.2.2.2.2
    cases hbb : (zSv σ.r 12 x 0 b zN0).1.2
    · rw [hbb] at this
      simp (disch := first | assumption | exact zk_279 | omega) only [r_K1, zb1_f, r_if_eq, r_lconst, r_lastore, r_goto, r_goto_w, zb_279_1, zb_279_2, zb_279_5, r_iconst, r_iret, ↓reduceIte, Int.reduceEq]
      exact this
    · rw [hbb] at this
      simp (disch := first | assumption | exact zk_279 | omega) only [r_K1, zb1_t, r_if_eq, r_lconst, r_lastore, r_goto, r_goto_w, zb_279_1, zb_279_2, zb_279_5, r_iconst, r_iret, ↓reduceIte, Int.reduceEq]
      exact this
set_option maxRecDepth 20000 in
theorem l_result (hd : 90 ≤ d) (hw : zWc σ s V) (ho : zOK σ) {w : Int} (hw' : zI32 w) (e1 : ¬ (0 ≤ w ∧ w ≤ 5) → zLth Q 1 σ s V) (e2 : 0 ≤ w ∧ w ≤ 5 → ¬ σ.q = true → zLth Q 2 σ s V) (h0 : 0 ≤ w ∧ w ≤ 5 → σ.q = true → zLrt Q (Int32.ofInt (zRs9 σ w)).toInt64 σ s V) : zcall d 280 [.ref 5, zi w, .ref 191] (s, V) Q := by
  obtain ⟨d, rfl⟩ : ∃ e, d = e + 1 := ⟨d - 1, by omega⟩
  simp (disch := first | assumption | omega) only [zc_280]
  simp (disch := first | assumption | exact zk_280 | ((repeat (first | exact z1n | refine z1I ?_ | refine z1R ?_)); done) | exact rfl | omega | decide) only [zb_280_0, r_aload_2, r_iconst, r_aload_0, r_iload_1, r_inv_2_0, r_inv_2_1, r_inv_2_2, r_inv_2_3, r_inv_2_4, r_K0, r_K1, r_i2l, r_lastore, r_lastoreR, r_goto, r_astore_3i, r_astore_3r, r_astore_3j, r_iret, r_bret_0, r_bret_1, ↓reduceIte, not_true_eq_false, not_false_eq_true, Int.reduceEq, Int.reduceLE, Int.reduceLT, Int.reduceAdd, Int.reduceNeg, Int.reduceMul, Int.reduceSub, Int.reduceToNat]
  refine w_result (by omega) hw ho hw' (fun q1 => fun s' V' y1 y2 => ?_) (fun q1 q2 => fun s' V' y1 y2 => ?_) (fun q1 q2 => fun s' V' y1 y2 => ?_)
  · have := e1 q1 s' V' y1 y2
    refine Eq.mpr (r_KH (lb := 1) (by decide) (by decide) zb_280_1 (by simp) rfl) ?_
    simp (disch := first | assumption | exact zk_280 | omega) only [r_iconst, r_iret]
    exact this
  · have := e2 q1 q2 s' V' y1 y2
    refine Eq.mpr (r_KH (lb := 2) (by decide) (by decide) zb_280_2 (by simp) rfl) ?_
    simp (disch := first | assumption | exact zk_280 | omega) only [r_iconst, r_iret]
    exact this
  · have h0' := h0 q1 q2
    have := h0'.go ho y1 y2
    have t9 := y2.2.2.2.2.2.2.2.2.2.2.2.1
    have l9 := y2.2.2.2.2.2.2.2.2.2.2.2.2
    simp (disch := first | assumption | exact zk_280 | omega) only [r_K1, r_i2lR, r_lastoreR, r_goto, zb_280_3, r_iconst, r_iret]
    exact this
set_option maxRecDepth 20000 in
theorem l_failure (hd : 90 ≤ d) (hw : zWc σ s V) (ho : zOK σ) {k w : Int} (hk' : zI32 k) (hw' : zI32 w) (e1 : ¬ (0 ≤ w ∧ w ≤ 3) → zLth Q 1 σ s V) (h0 : 0 ≤ w ∧ w ≤ 3 → zLrt Q (Int32.ofInt (zFlr σ k w)).toInt64 σ s V) : zcall d 281 [.ref 5, zi k, zi w, .ref 191] (s, V) Q := by
  obtain ⟨d, rfl⟩ : ∃ e, d = e + 1 := ⟨d - 1, by omega⟩
  simp (disch := first | assumption | omega) only [zc_281]
  simp (disch := first | assumption | exact zk_281 | ((repeat (first | exact z1n | refine z1I ?_ | refine z1R ?_)); done) | exact rfl | omega | decide) only [zb_281_0, r_aload_3, r_iconst, r_aload_0, r_iload_1, r_iload_2, r_inv_3_0, r_inv_3_1, r_inv_3_2, r_inv_3_3, r_inv_3_4, r_K0, r_K1, r_i2l, r_lastore, r_lastoreR, r_goto, r_astore_4i, r_astore_4r, r_astore_4j, r_iret, r_bret_0, r_bret_1, ↓reduceIte, not_true_eq_false, not_false_eq_true, Int.reduceEq, Int.reduceLE, Int.reduceLT, Int.reduceAdd, Int.reduceNeg, Int.reduceMul, Int.reduceSub, Int.reduceToNat]
  refine w_failure (by omega) hw ho hk' hw' (fun q1 => fun s' V' y1 y2 => ?_) (fun q1 => fun s' V' y1 y2 => ?_)
  · have := e1 q1 s' V' y1 y2
    refine Eq.mpr (r_KH (lb := 1) (by decide) (by decide) zb_281_1 (by simp) rfl) ?_
    simp (disch := first | assumption | exact zk_281 | omega) only [r_iconst, r_iret]
    exact this
  · have h0' := h0 q1
    have := h0'.go ho y1 y2
    have t9 := y2.2.2.2.2.2.2.2.2.2.2.2.1
    have l9 := y2.2.2.2.2.2.2.2.2.2.2.2.2
    simp (disch := first | assumption | exact zk_281 | omega) only [r_K1, r_i2lR, r_lastoreR, r_goto, zb_281_2, r_iconst, r_iret]
    exact this
set_option maxRecDepth 20000 in
theorem l_attempt (hd : 90 ≤ d) (hw : zWc σ s V) (ho : zOK σ) {k w : Int} (hk' : zI32 k) (hw' : zI32 w) (e1 : ¬ (0 ≤ w ∧ w ≤ 3) → zLth Q 1 σ s V) (h0 : 0 ≤ w ∧ w ≤ 3 → zLrt Q (Int32.ofInt (zTry9 σ k w)).toInt64 σ s V) : zcall d 282 [.ref 5, zi k, zi w, .ref 191] (s, V) Q := by
  obtain ⟨d, rfl⟩ : ∃ e, d = e + 1 := ⟨d - 1, by omega⟩
  simp (disch := first | assumption | omega) only [zc_282]
  simp (disch := first | assumption | exact zk_282 | ((repeat (first | exact z1n | refine z1I ?_ | refine z1R ?_)); done) | exact rfl | omega | decide) only [zb_282_0, r_aload_3, r_iconst, r_aload_0, r_iload_1, r_iload_2, r_inv_3_0, r_inv_3_1, r_inv_3_2, r_inv_3_3, r_inv_3_4, r_K0, r_K1, r_i2l, r_lastore, r_lastoreR, r_goto, r_astore_4i, r_astore_4r, r_astore_4j, r_iret, r_bret_0, r_bret_1, ↓reduceIte, not_true_eq_false, not_false_eq_true, Int.reduceEq, Int.reduceLE, Int.reduceLT, Int.reduceAdd, Int.reduceNeg, Int.reduceMul, Int.reduceSub, Int.reduceToNat]
  refine w_attempt (by omega) hw ho hk' hw' (fun q1 => fun s' V' y1 y2 => ?_) (fun q1 => fun s' V' y1 y2 => ?_)
  · have := e1 q1 s' V' y1 y2
    refine Eq.mpr (r_KH (lb := 1) (by decide) (by decide) zb_282_1 (by simp) rfl) ?_
    simp (disch := first | assumption | exact zk_282 | omega) only [r_iconst, r_iret]
    exact this
  · have h0' := h0 q1
    have := h0'.go ho y1 y2
    have t9 := y2.2.2.2.2.2.2.2.2.2.2.2.1
    have l9 := y2.2.2.2.2.2.2.2.2.2.2.2.2
    simp (disch := first | assumption | exact zk_282 | omega) only [r_K1, r_i2lR, r_lastoreR, r_goto, zb_282_2, r_iconst, r_iret]
    exact this
set_option maxRecDepth 20000 in
theorem l_leastBudget (hd : 90 ≤ d) (hw : zWc σ s V) (ho : zOK σ) {x : Int} (hx : zI32 x) (e1 : ¬ (0 ≤ x ∧ x < σ.r.n) → zLth Q 1 σ s V) (h0 : 0 ≤ x ∧ x < σ.r.n → zLrt Q (Int32.ofInt (zLb σ.r x)).toInt64 σ s V) : zcall d 283 [.ref 5, zi x, .ref 191] (s, V) Q := by
  obtain ⟨d, rfl⟩ : ∃ e, d = e + 1 := ⟨d - 1, by omega⟩
  simp (disch := first | assumption | omega) only [zc_283]
  simp (disch := first | assumption | exact zk_283 | ((repeat (first | exact z1n | refine z1I ?_ | refine z1R ?_)); done) | exact rfl | omega | decide) only [zb_283_0, r_aload_2, r_iconst, r_aload_0, r_iload_1, r_inv_2_0, r_inv_2_1, r_inv_2_2, r_inv_2_3, r_inv_2_4, r_K0, r_K1, r_i2l, r_lastore, r_lastoreR, r_goto, r_astore_3i, r_astore_3r, r_astore_3j, r_iret, r_bret_0, r_bret_1, ↓reduceIte, not_true_eq_false, not_false_eq_true, Int.reduceEq, Int.reduceLE, Int.reduceLT, Int.reduceAdd, Int.reduceNeg, Int.reduceMul, Int.reduceSub, Int.reduceToNat]
  refine w_leastBudget (by omega) hw ho hx (fun q1 => fun s' V' y1 y2 => ?_) (fun q1 => fun s' V' y1 y2 => ?_)
  · have := e1 q1 s' V' y1 y2
    refine Eq.mpr (r_KH (lb := 1) (by decide) (by decide) zb_283_1 (by simp) rfl) ?_
    simp (disch := first | assumption | exact zk_283 | omega) only [r_iconst, r_iret]
    exact this
  · have h0' := h0 q1
    have := h0'.go ho y1 y2
    have t9 := y2.2.2.2.2.2.2.2.2.2.2.2.1
    have l9 := y2.2.2.2.2.2.2.2.2.2.2.2.2
    simp (disch := first | assumption | exact zk_283 | omega) only [r_K1, r_i2lR, r_lastoreR, r_goto, zb_283_2, r_iconst, r_iret]
    exact this
set_option maxRecDepth 20000 in
theorem l_worst (hd : 90 ≤ d) (hw : zWc σ s V) (ho : zOK σ) {x : Int} (hx : zI32 x) (e1 : ¬ (0 ≤ x ∧ x < σ.r.n) → zLth Q 1 σ s V) (h0 : 0 ≤ x ∧ x < σ.r.n → zLrt Q (Int32.ofInt (zBnd σ.r x)).toInt64 σ s V) : zcall d 284 [.ref 5, zi x, .ref 191] (s, V) Q := by
  obtain ⟨d, rfl⟩ : ∃ e, d = e + 1 := ⟨d - 1, by omega⟩
  simp (disch := first | assumption | omega) only [zc_284]
  simp (disch := first | assumption | exact zk_284 | ((repeat (first | exact z1n | refine z1I ?_ | refine z1R ?_)); done) | exact rfl | omega | decide) only [zb_284_0, r_aload_2, r_iconst, r_aload_0, r_iload_1, r_inv_2_0, r_inv_2_1, r_inv_2_2, r_inv_2_3, r_inv_2_4, r_K0, r_K1, r_i2l, r_lastore, r_lastoreR, r_goto, r_astore_3i, r_astore_3r, r_astore_3j, r_iret, r_bret_0, r_bret_1, ↓reduceIte, not_true_eq_false, not_false_eq_true, Int.reduceEq, Int.reduceLE, Int.reduceLT, Int.reduceAdd, Int.reduceNeg, Int.reduceMul, Int.reduceSub, Int.reduceToNat]
  refine w_worst (by omega) hw ho hx (fun q1 => fun s' V' y1 y2 => ?_) (fun q1 => fun s' V' y1 y2 => ?_)
  · have := e1 q1 s' V' y1 y2
    refine Eq.mpr (r_KH (lb := 1) (by decide) (by decide) zb_284_1 (by simp) rfl) ?_
    simp (disch := first | assumption | exact zk_284 | omega) only [r_iconst, r_iret]
    exact this
  · have h0' := h0 q1
    have := h0'.go ho y1 y2
    have t9 := y2.2.2.2.2.2.2.2.2.2.2.2.1
    have l9 := y2.2.2.2.2.2.2.2.2.2.2.2.2
    simp (disch := first | assumption | exact zk_284 | omega) only [r_K1, r_i2lR, r_lastoreR, r_goto, zb_284_2, r_iconst, r_iret]
    exact this
set_option maxRecDepth 20000 in
theorem l_fail (hd : 90 ≤ d) (hw : zWc σ s V) (ho : zOK σ) {x : Int} (hx : zI32 x) (e1 : ¬ (0 ≤ x ∧ x < σ.r.n) → zLth Q 1 σ s V) (e2 : (0 ≤ x ∧ x < σ.r.n) → ¬ (σ.r.S 6 x = 1) → zLth Q 2 σ s V) (h0 : (0 ≤ x ∧ x < σ.r.n) → (σ.r.S 6 x = 1) → zOK (σ.sv (zGd σ.r x)) ∧ zLrt Q (Int32.ofInt (σ.r.n - zpop (zDown (zGd σ.r x)))).toInt64 (σ.sv (zGd σ.r x)) s V) : zcall d 285 [.ref 5, zi x, .ref 191] (s, V) Q := by
  obtain ⟨d, rfl⟩ : ∃ e, d = e + 1 := ⟨d - 1, by omega⟩
  simp (disch := first | assumption | omega) only [zc_285]
  simp (disch := first | assumption | exact zk_285 | ((repeat (first | exact z1n | refine z1I ?_ | refine z1R ?_)); done) | exact rfl | omega | decide) only [zb_285_0, r_aload_2, r_iconst, r_aload_0, r_iload_1, r_inv_2_0, r_inv_2_1, r_inv_2_2, r_inv_2_3, r_inv_2_4, r_K0, r_K1, r_i2l, r_lastore, r_lastoreR, r_goto, r_astore_3i, r_astore_3r, r_astore_3j, r_iret, r_bret_0, r_bret_1, ↓reduceIte, not_true_eq_false, not_false_eq_true, Int.reduceEq, Int.reduceLE, Int.reduceLT, Int.reduceAdd, Int.reduceNeg, Int.reduceMul, Int.reduceSub, Int.reduceToNat]
  refine w_fail (by omega) hw ho hx (fun q1 => fun s' V' y1 y2 => ?_) (fun q1 q2 => fun s' V' y1 y2 => ?_) (fun q1 q2 => fun s' V' y1 y2 => ?_)
  · have := e1 q1 s' V' y1 y2
    refine Eq.mpr (r_KH (lb := 1) (by decide) (by decide) zb_285_1 (by simp) rfl) ?_
    simp (disch := first | assumption | exact zk_285 | omega) only [r_iconst, r_iret]
    exact this
  · have := e2 q1 q2 s' V' y1 y2
    refine Eq.mpr (r_KH (lb := 2) (by decide) (by decide) zb_285_2 (by simp) rfl) ?_
    simp (disch := first | assumption | exact zk_285 | omega) only [r_iconst, r_iret]
    exact this
  · obtain ⟨ho', h0'⟩ := h0 q1 q2
    have := h0'.go ho' y1 y2
    have t9 := y2.2.2.2.2.2.2.2.2.2.2.2.1
    have l9 := y2.2.2.2.2.2.2.2.2.2.2.2.2
    simp (disch := first | assumption | exact zk_285 | omega) only [r_K1, r_i2lR, r_lastoreR, r_goto, zb_285_3, r_iconst, r_iret]
    exact this
set_option maxRecDepth 20000 in
theorem l_repair (hd : 90 ≤ d) (hw : zWc σ s V) (ho : zOK σ) {x : Int} (hx : zI32 x) (e1 : ¬ (0 ≤ x ∧ x < σ.r.n) → zLth Q 1 σ s V) (e2 : (0 ≤ x ∧ x < σ.r.n) → ¬ (σ.r.S 6 x ≠ 1 ∧ σ.r.S 8 x = -1) → zLth Q 2 σ s V) (h0 : (0 ≤ x ∧ x < σ.r.n) → (σ.r.S 6 x ≠ 1 ∧ σ.r.S 8 x = -1) → zOK (σ.sv (σ.r.sS 8 x (σ.r.S 3 x))) ∧ zLrt Q (Int32.ofInt (σ.r.S 3 x)).toInt64 (σ.sv (σ.r.sS 8 x (σ.r.S 3 x))) s V) : zcall d 286 [.ref 5, zi x, .ref 191] (s, V) Q := by
  obtain ⟨d, rfl⟩ : ∃ e, d = e + 1 := ⟨d - 1, by omega⟩
  simp (disch := first | assumption | omega) only [zc_286]
  simp (disch := first | assumption | exact zk_286 | ((repeat (first | exact z1n | refine z1I ?_ | refine z1R ?_)); done) | exact rfl | omega | decide) only [zb_286_0, r_aload_2, r_iconst, r_aload_0, r_iload_1, r_inv_2_0, r_inv_2_1, r_inv_2_2, r_inv_2_3, r_inv_2_4, r_K0, r_K1, r_i2l, r_lastore, r_lastoreR, r_goto, r_astore_3i, r_astore_3r, r_astore_3j, r_iret, r_bret_0, r_bret_1, ↓reduceIte, not_true_eq_false, not_false_eq_true, Int.reduceEq, Int.reduceLE, Int.reduceLT, Int.reduceAdd, Int.reduceNeg, Int.reduceMul, Int.reduceSub, Int.reduceToNat]
  refine w_repair (by omega) hw ho hx (fun q1 => fun s' V' y1 y2 => ?_) (fun q1 q2 => fun s' V' y1 y2 => ?_) (fun q1 q2 => fun s' V' y1 y2 => ?_)
  · have := e1 q1 s' V' y1 y2
    refine Eq.mpr (r_KH (lb := 1) (by decide) (by decide) zb_286_1 (by simp) rfl) ?_
    simp (disch := first | assumption | exact zk_286 | omega) only [r_iconst, r_iret]
    exact this
  · have := e2 q1 q2 s' V' y1 y2
    refine Eq.mpr (r_KH (lb := 2) (by decide) (by decide) zb_286_2 (by simp) rfl) ?_
    simp (disch := first | assumption | exact zk_286 | omega) only [r_iconst, r_iret]
    exact this
  · obtain ⟨ho', h0'⟩ := h0 q1 q2
    have := h0'.go ho' y1 y2
    have t9 := y2.2.2.2.2.2.2.2.2.2.2.2.1
    have l9 := y2.2.2.2.2.2.2.2.2.2.2.2.2
    simp (disch := first | assumption | exact zk_286 | omega) only [r_K1, r_i2lR, r_lastoreR, r_goto, zb_286_3, r_iconst, r_iret]
    exact this
set_option maxRecDepth 20000 in
theorem l_steps (hd : 90 ≤ d) (hw : zWc σ s V) (ho : zOK σ) {x : Int} (hx : zI32 x) (e1 : ¬ (1 ≤ x ∧ x ≤ 50) → zLth Q 1 σ s V) (h0 : 1 ≤ x ∧ x ≤ 50 → zOK (σ.sv (zSteps σ.r x.toNat)) ∧ zLrt Q (Int32.ofInt (σ.r.n - zpop (zDown (zSteps σ.r x.toNat)))).toInt64 (σ.sv (zSteps σ.r x.toNat)) s V) : zcall d 287 [.ref 5, zi x, .ref 191] (s, V) Q := by
  obtain ⟨d, rfl⟩ : ∃ e, d = e + 1 := ⟨d - 1, by omega⟩
  simp (disch := first | assumption | omega) only [zc_287]
  simp (disch := first | assumption | exact zk_287 | ((repeat (first | exact z1n | refine z1I ?_ | refine z1R ?_)); done) | exact rfl | omega | decide) only [zb_287_0, r_aload_2, r_iconst, r_aload_0, r_iload_1, r_inv_2_0, r_inv_2_1, r_inv_2_2, r_inv_2_3, r_inv_2_4, r_K0, r_K1, r_i2l, r_lastore, r_lastoreR, r_goto, r_astore_3i, r_astore_3r, r_astore_3j, r_iret, r_bret_0, r_bret_1, ↓reduceIte, not_true_eq_false, not_false_eq_true, Int.reduceEq, Int.reduceLE, Int.reduceLT, Int.reduceAdd, Int.reduceNeg, Int.reduceMul, Int.reduceSub, Int.reduceToNat]
  refine w_steps (by omega) hw ho hx (fun q1 => fun s' V' y1 y2 => ?_) (fun q1 => fun s' V' y1 y2 => ?_)
  · have := e1 q1 s' V' y1 y2
    refine Eq.mpr (r_KH (lb := 1) (by decide) (by decide) zb_287_1 (by simp) rfl) ?_
    simp (disch := first | assumption | exact zk_287 | omega) only [r_iconst, r_iret]
    exact this
  · obtain ⟨ho', h0'⟩ := h0 q1
    have := h0'.go ho' y1 y2
    have t9 := y2.2.2.2.2.2.2.2.2.2.2.2.1
    have l9 := y2.2.2.2.2.2.2.2.2.2.2.2.2
    simp (disch := first | assumption | exact zk_287 | omega) only [r_K1, r_i2lR, r_lastoreR, r_goto, zb_287_2, r_iconst, r_iret]
    exact this
set_option maxRecDepth 20000 in
theorem l_spread (hd : 90 ≤ d) (hw : zWc σ s V) (ho : zOK σ) {x : Int} (hx : zI32 x) (e1 : ¬ (0 ≤ x ∧ x < σ.r.n) → zLth Q 1 σ s V) (e2 : (0 ≤ x ∧ x < σ.r.n) → ¬ σ.r.S 6 x = 1 → zLth Q 2 σ s V) (h0 : (0 ≤ x ∧ x < σ.r.n) → σ.r.S 6 x = 1 → zLrt Q (Int32.ofInt (zDown (zSteps (zGd σ.r x) 40) : Nat)).toInt64 σ s V) : zcall d 288 [.ref 5, zi x, .ref 191] (s, V) Q := by
  obtain ⟨d, rfl⟩ : ∃ e, d = e + 1 := ⟨d - 1, by omega⟩
  simp (disch := first | assumption | omega) only [zc_288]
  simp (disch := first | assumption | exact zk_288 | ((repeat (first | exact z1n | refine z1I ?_ | refine z1R ?_)); done) | exact rfl | omega | decide) only [zb_288_0, r_aload_2, r_iconst, r_aload_0, r_iload_1, r_inv_2_0, r_inv_2_1, r_inv_2_2, r_inv_2_3, r_inv_2_4, r_K0, r_K1, r_i2l, r_lastore, r_lastoreR, r_goto, r_astore_3i, r_astore_3r, r_astore_3j, r_iret, r_bret_0, r_bret_1, ↓reduceIte, not_true_eq_false, not_false_eq_true, Int.reduceEq, Int.reduceLE, Int.reduceLT, Int.reduceAdd, Int.reduceNeg, Int.reduceMul, Int.reduceSub, Int.reduceToNat]
  refine w_spread (by omega) hw ho hx (fun q1 => fun s' V' y1 y2 => ?_) (fun q1 q2 => fun s' V' y1 y2 => ?_) (fun q1 q2 => fun s' V' y1 y2 => ?_)
  · have := e1 q1 s' V' y1 y2
    refine Eq.mpr (r_KH (lb := 1) (by decide) (by decide) zb_288_1 (by simp) rfl) ?_
    simp (disch := first | assumption | exact zk_288 | omega) only [r_iconst, r_iret]
    exact this
  · have := e2 q1 q2 s' V' y1 y2
    refine Eq.mpr (r_KH (lb := 2) (by decide) (by decide) zb_288_2 (by simp) rfl) ?_
    simp (disch := first | assumption | exact zk_288 | omega) only [r_iconst, r_iret]
    exact this
  · have h0' := h0 q1 q2
    have := h0'.go ho y1 y2
    have t9 := y2.2.2.2.2.2.2.2.2.2.2.2.1
    have l9 := y2.2.2.2.2.2.2.2.2.2.2.2.2
    simp (disch := first | assumption | exact zk_288 | omega) only [r_K1, r_i2lR, r_lastoreR, r_goto, zb_288_3, r_iconst, r_iret]
    exact this
set_option maxRecDepth 20000 in
theorem l_calm (hd : 90 ≤ d) (hw : zWc σ s V) (ho : zOK σ) {x : Int} (hx : zI32 x) (e1 : ¬ (0 ≤ x ∧ x < σ.r.n) → zLth Q 1 σ s V) (e2 : (0 ≤ x ∧ x < σ.r.n) → ¬ σ.r.S 6 x = 1 → zLth Q 2 σ s V) (h0 : (0 ≤ x ∧ x < σ.r.n) → σ.r.S 6 x = 1 → zLrt Q (Int32.ofInt (zCalm σ.r x 41)).toInt64 σ s V) : zcall d 289 [.ref 5, zi x, .ref 191] (s, V) Q := by
  obtain ⟨d, rfl⟩ : ∃ e, d = e + 1 := ⟨d - 1, by omega⟩
  simp (disch := first | assumption | omega) only [zc_289]
  simp (disch := first | assumption | exact zk_289 | ((repeat (first | exact z1n | refine z1I ?_ | refine z1R ?_)); done) | exact rfl | omega | decide) only [zb_289_0, r_aload_2, r_iconst, r_aload_0, r_iload_1, r_inv_2_0, r_inv_2_1, r_inv_2_2, r_inv_2_3, r_inv_2_4, r_K0, r_K1, r_i2l, r_lastore, r_lastoreR, r_goto, r_astore_3i, r_astore_3r, r_astore_3j, r_iret, r_bret_0, r_bret_1, ↓reduceIte, not_true_eq_false, not_false_eq_true, Int.reduceEq, Int.reduceLE, Int.reduceLT, Int.reduceAdd, Int.reduceNeg, Int.reduceMul, Int.reduceSub, Int.reduceToNat]
  refine w_calm (by omega) hw ho hx (fun q1 => fun s' V' y1 y2 => ?_) (fun q1 q2 => fun s' V' y1 y2 => ?_) (fun q1 q2 => fun s' V' y1 y2 => ?_)
  · have := e1 q1 s' V' y1 y2
    refine Eq.mpr (r_KH (lb := 1) (by decide) (by decide) zb_289_1 (by simp) rfl) ?_
    simp (disch := first | assumption | exact zk_289 | omega) only [r_iconst, r_iret]
    exact this
  · have := e2 q1 q2 s' V' y1 y2
    refine Eq.mpr (r_KH (lb := 2) (by decide) (by decide) zb_289_2 (by simp) rfl) ?_
    simp (disch := first | assumption | exact zk_289 | omega) only [r_iconst, r_iret]
    exact this
  · have h0' := h0 q1 q2
    have := h0'.go ho y1 y2
    have t9 := y2.2.2.2.2.2.2.2.2.2.2.2.1
    have l9 := y2.2.2.2.2.2.2.2.2.2.2.2.2
    simp (disch := first | assumption | exact zk_289 | omega) only [r_K1, r_i2lR, r_lastoreR, r_goto, zb_289_3, r_iconst, r_iret]
    exact this
set_option maxRecDepth 20000 in
theorem l_recoveryTime (hd : 90 ≤ d) (hw : zWc σ s V) (ho : zOK σ) {x : Int} (hx : zI32 x) (e1 : ¬ (1 ≤ x ∧ x ≤ 4) → zLth Q 1 σ s V) (h0 : 1 ≤ x ∧ x ≤ 4 → zLrt Q (Int32.ofInt (zQR σ.r x).1).toInt64 σ s V) : zcall d 290 [.ref 5, zi x, .ref 191] (s, V) Q := by
  obtain ⟨d, rfl⟩ : ∃ e, d = e + 1 := ⟨d - 1, by omega⟩
  simp (disch := first | assumption | omega) only [zc_290]
  simp (disch := first | assumption | exact zk_290 | ((repeat (first | exact z1n | refine z1I ?_ | refine z1R ?_)); done) | exact rfl | omega | decide) only [zb_290_0, r_aload_2, r_iconst, r_aload_0, r_iload_1, r_inv_2_0, r_inv_2_1, r_inv_2_2, r_inv_2_3, r_inv_2_4, r_K0, r_K1, r_i2l, r_lastore, r_lastoreR, r_goto, r_astore_3i, r_astore_3r, r_astore_3j, r_iret, r_bret_0, r_bret_1, ↓reduceIte, not_true_eq_false, not_false_eq_true, Int.reduceEq, Int.reduceLE, Int.reduceLT, Int.reduceAdd, Int.reduceNeg, Int.reduceMul, Int.reduceSub, Int.reduceToNat]
  refine w_recoveryTime (by omega) hw ho hx (fun q1 => fun s' V' y1 y2 => ?_) (fun q1 => fun s' V' y1 y2 => ?_)
  · have := e1 q1 s' V' y1 y2
    refine Eq.mpr (r_KH (lb := 1) (by decide) (by decide) zb_290_1 (by simp) rfl) ?_
    simp (disch := first | assumption | exact zk_290 | omega) only [r_iconst, r_iret]
    exact this
  · have h0' := h0 q1
    have := h0'.go ho y1 y2
    have t9 := y2.2.2.2.2.2.2.2.2.2.2.2.1
    have l9 := y2.2.2.2.2.2.2.2.2.2.2.2.2
    simp (disch := first | assumption | exact zk_290 | omega) only [r_K1, r_i2lR, r_lastoreR, r_goto, zb_290_2, r_iconst, r_iret]
    exact this
set_option maxRecDepth 20000 in
theorem l_recoveryStart (hd : 90 ≤ d) (hw : zWc σ s V) (ho : zOK σ) {c x : Int} (hc : zI32 c) (hx : zI32 x) (hbn : ∀ y, 0 ≤ y → y < σ.r.n → ¬ σ.r.S 6 y = 1 → 1 ≤ c ∧ c ≤ 4 → (zQR σ.r c).2 y ≠ -1) (e1 : ¬ (1 ≤ c ∧ c ≤ 4) → zLth Q 1 σ s V) (e2 : 1 ≤ c ∧ c ≤ 4 → ¬ (0 ≤ x ∧ x < σ.r.n) → zLth Q 2 σ s V) (h0 : 1 ≤ c ∧ c ≤ 4 → 0 ≤ x ∧ x < σ.r.n → zLrt Q (Int32.ofInt (zRst σ.r c x)).toInt64 σ s V) : zcall d 291 [.ref 5, zi c, zi x, .ref 191] (s, V) Q := by
  obtain ⟨d, rfl⟩ : ∃ e, d = e + 1 := ⟨d - 1, by omega⟩
  simp (disch := first | assumption | omega) only [zc_291]
  simp (disch := first | assumption | exact zk_291 | ((repeat (first | exact z1n | refine z1I ?_ | refine z1R ?_)); done) | exact rfl | omega | decide) only [zb_291_0, r_aload_3, r_iconst, r_aload_0, r_iload_1, r_iload_2, r_inv_3_0, r_inv_3_1, r_inv_3_2, r_inv_3_3, r_inv_3_4, r_K0, r_K1, r_i2l, r_lastore, r_lastoreR, r_goto, r_astore_4i, r_astore_4r, r_astore_4j, r_iret, r_bret_0, r_bret_1, ↓reduceIte, not_true_eq_false, not_false_eq_true, Int.reduceEq, Int.reduceLE, Int.reduceLT, Int.reduceAdd, Int.reduceNeg, Int.reduceMul, Int.reduceSub, Int.reduceToNat]
  refine w_recoveryStart (by omega) hw ho hc hx hbn (fun q1 => fun s' V' y1 y2 => ?_) (fun q1 q2 => fun s' V' y1 y2 => ?_) (fun q1 q2 => fun s' V' y1 y2 => ?_)
  · have := e1 q1 s' V' y1 y2
    refine Eq.mpr (r_KH (lb := 1) (by decide) (by decide) zb_291_1 (by simp) rfl) ?_
    simp (disch := first | assumption | exact zk_291 | omega) only [r_iconst, r_iret]
    exact this
  · have := e2 q1 q2 s' V' y1 y2
    refine Eq.mpr (r_KH (lb := 2) (by decide) (by decide) zb_291_2 (by simp) rfl) ?_
    simp (disch := first | assumption | exact zk_291 | omega) only [r_iconst, r_iret]
    exact this
  · have h0' := h0 q1 q2
    have := h0'.go ho y1 y2
    have t9 := y2.2.2.2.2.2.2.2.2.2.2.2.1
    have l9 := y2.2.2.2.2.2.2.2.2.2.2.2.2
    simp (disch := first | assumption | exact zk_291 | omega) only [r_K1, r_i2lR, r_lastoreR, r_goto, zb_291_3, r_iconst, r_iret]
    exact this
set_option maxRecDepth 20000 in
theorem l_failsBy (hd : 90 ≤ d) (hw : zWc σ s V) (ho : zOK σ) {x v : Int} (hx : zI32 x) (hv : zI32 v) (e1 : ¬ (0 ≤ x ∧ x < σ.r.n) → zLth Q 1 σ s V) (e2 : 0 ≤ x ∧ x < σ.r.n → ¬ (0 ≤ v ∧ v < zTwo σ.r.n) → zLth Q 2 σ s V) (h0 : 0 ≤ x ∧ x < σ.r.n → 0 ≤ v ∧ v < zTwo σ.r.n → zLrt Q (Int64.ofInt (zb1 (zin (zFail σ.r v.toNat) x))) σ s V) : zcall d 292 [.ref 5, zi x, zi v, .ref 191] (s, V) Q := by
  obtain ⟨d, rfl⟩ : ∃ e, d = e + 1 := ⟨d - 1, by omega⟩
  simp (disch := first | assumption | omega) only [zc_292]
  simp (disch := first | assumption | exact zk_292 | ((repeat (first | exact z1n | refine z1I ?_ | refine z1R ?_)); done) | exact rfl | omega | decide) only [zb_292_0, r_aload_3, r_iconst, r_aload_0, r_iload_1, r_iload_2, r_inv_3_0, r_inv_3_1, r_inv_3_2, r_inv_3_3, r_inv_3_4, r_K0, r_K1, r_if_eq, r_lconst, r_goto, r_goto_w, r_lastore, r_lastoreR, r_astore_4i, r_astore_4r, r_astore_4j, r_iret, r_bret_0, r_bret_1, ↓reduceIte, not_true_eq_false, not_false_eq_true, Int.reduceEq, Int.reduceLE, Int.reduceLT, Int.reduceAdd, Int.reduceNeg, Int.reduceMul, Int.reduceSub, Int.reduceToNat]
  refine w_failsBy (by omega) hw ho hx hv (fun q1 => fun s' V' y1 y2 => ?_) (fun q1 q2 => fun s' V' y1 y2 => ?_) (fun q1 q2 => fun s' V' y1 y2 => ?_)
  · have := e1 q1 s' V' y1 y2
    refine Eq.mpr (r_KH (lb := 3) (by decide) (by decide) zb_292_3 (by simp) rfl) ?_
    simp (disch := first | assumption | exact zk_292 | omega) only [r_iconst, r_iret]
    exact this
  · have := e2 q1 q2 s' V' y1 y2
    refine Eq.mpr (r_KH (lb := 4) (by decide) (by decide) zb_292_4 (by simp) rfl) ?_
    simp (disch := first | assumption | exact zk_292 | omega) only [r_iconst, r_iret]
    exact this
  · have h0' := h0 q1 q2
    have := h0'.go ho y1 y2
    have t9 := y2.2.2.2.2.2.2.2.2.2.2.2.1
    have l9 := y2.2.2.2.2.2.2.2.2.2.2.2.2
    cases hbb : (zin (zFail σ.r v.toNat) x)
    · rw [hbb] at this
      simp (disch := first | assumption | exact zk_292 | omega) only [r_K1, zb1_f, r_if_eq, r_lconst, r_lastore, r_goto, r_goto_w, zb_292_1, zb_292_2, zb_292_5, r_iconst, r_iret, ↓reduceIte, Int.reduceEq]
      exact this
    · rw [hbb] at this
      simp (disch := first | assumption | exact zk_292 | omega) only [r_K1, zb1_t, r_if_eq, r_lconst, r_lastore, r_goto, r_goto_w, zb_292_1, zb_292_2, zb_292_5, r_iconst, r_iret, ↓reduceIte, Int.reduceEq]
      exact this
set_option maxRecDepth 20000 in
theorem l_cuts (hd : 90 ≤ d) (hw : zWc σ s V) (ho : zOK σ) {x b : Int} (hx : zI32 x) (hb : zI32 b) (e1 : ¬ (0 ≤ x ∧ x < σ.r.n) → zLth Q 1 σ s V) (e2 : 0 ≤ x ∧ x < σ.r.n → ¬ (1 ≤ b ∧ b ≤ 12) → zLth Q 2 σ s V) (h0 : 0 ≤ x ∧ x < σ.r.n → (1 ≤ b ∧ b ≤ 12) → zLrt Q (Int32.ofInt (zCuts σ.r x b)).toInt64 σ s V) : zcall d 293 [.ref 5, zi x, zi b, .ref 191] (s, V) Q := by
  obtain ⟨d, rfl⟩ : ∃ e, d = e + 1 := ⟨d - 1, by omega⟩
  simp (disch := first | assumption | omega) only [zc_293]
  simp (disch := first | assumption | exact zk_293 | ((repeat (first | exact z1n | refine z1I ?_ | refine z1R ?_)); done) | exact rfl | omega | decide) only [zb_293_0, r_aload_3, r_iconst, r_aload_0, r_iload_1, r_iload_2, r_inv_3_0, r_inv_3_1, r_inv_3_2, r_inv_3_3, r_inv_3_4, r_K0, r_K1, r_i2l, r_lastore, r_lastoreR, r_goto, r_astore_4i, r_astore_4r, r_astore_4j, r_iret, r_bret_0, r_bret_1, ↓reduceIte, not_true_eq_false, not_false_eq_true, Int.reduceEq, Int.reduceLE, Int.reduceLT, Int.reduceAdd, Int.reduceNeg, Int.reduceMul, Int.reduceSub, Int.reduceToNat]
  refine w_cuts (by omega) hw ho hx hb (fun q1 => fun s' V' y1 y2 => ?_) (fun q1 q2 => fun s' V' y1 y2 => ?_) (fun q1 q2 => fun s' V' y1 y2 => ?_)
  · have := e1 q1 s' V' y1 y2
    refine Eq.mpr (r_KH (lb := 1) (by decide) (by decide) zb_293_1 (by simp) rfl) ?_
    simp (disch := first | assumption | exact zk_293 | omega) only [r_iconst, r_iret]
    exact this
  · have := e2 q1 q2 s' V' y1 y2
    refine Eq.mpr (r_KH (lb := 2) (by decide) (by decide) zb_293_2 (by simp) rfl) ?_
    simp (disch := first | assumption | exact zk_293 | omega) only [r_iconst, r_iret]
    exact this
  · have h0' := h0 q1 q2
    have := h0'.go ho y1 y2
    have t9 := y2.2.2.2.2.2.2.2.2.2.2.2.1
    have l9 := y2.2.2.2.2.2.2.2.2.2.2.2.2
    simp (disch := first | assumption | exact zk_293 | omega) only [r_K1, r_i2lR, r_lastoreR, r_goto, zb_293_3, r_iconst, r_iret]
    exact this
set_option maxRecDepth 20000 in
theorem l_cut (hd : 90 ≤ d) (hw : zWc σ s V) (ho : zOK σ) {x b j : Int} (hx : zI32 x) (hb : zI32 b) (hj : zI32 j) (e1 : ¬ (0 ≤ x ∧ x < σ.r.n) → zLth Q 1 σ s V) (e2 : 0 ≤ x ∧ x < σ.r.n → ¬ (1 ≤ b ∧ b ≤ 12) → zLth Q 2 σ s V) (h0 : 0 ≤ x ∧ x < σ.r.n → (1 ≤ b ∧ b ≤ 12) → zLrt Q (Int32.ofInt (zCutj σ.r x b j)).toInt64 σ s V) : zcall d 294 [.ref 5, zi x, zi b, zi j, .ref 191] (s, V) Q := by
  obtain ⟨d, rfl⟩ : ∃ e, d = e + 1 := ⟨d - 1, by omega⟩
  simp (disch := first | assumption | omega) only [zc_294]
  simp (disch := first | assumption | exact zk_294 | ((repeat (first | exact z1n | refine z1I ?_ | refine z1R ?_)); done) | exact rfl | omega | decide) only [zb_294_0, r_aload_4, r_iconst, r_aload_0, r_iload_1, r_iload_2, r_iload_3, r_inv_4_0, r_inv_4_1, r_inv_4_2, r_inv_4_3, r_inv_4_4, r_K0, r_K1, r_i2l, r_lastore, r_lastoreR, r_goto, r_astore_5i, r_astore_5r, r_astore_5j, r_iret, r_bret_0, r_bret_1, ↓reduceIte, not_true_eq_false, not_false_eq_true, Int.reduceEq, Int.reduceLE, Int.reduceLT, Int.reduceAdd, Int.reduceNeg, Int.reduceMul, Int.reduceSub, Int.reduceToNat]
  refine w_cut (by omega) hw ho hx hb hj (fun q1 => fun s' V' y1 y2 => ?_) (fun q1 q2 => fun s' V' y1 y2 => ?_) (fun q1 q2 => fun s' V' y1 y2 => ?_)
  · have := e1 q1 s' V' y1 y2
    refine Eq.mpr (r_KH (lb := 1) (by decide) (by decide) zb_294_1 (by simp) rfl) ?_
    simp (disch := first | assumption | exact zk_294 | omega) only [r_iconst, r_iret]
    exact this
  · have := e2 q1 q2 s' V' y1 y2
    refine Eq.mpr (r_KH (lb := 2) (by decide) (by decide) zb_294_2 (by simp) rfl) ?_
    simp (disch := first | assumption | exact zk_294 | omega) only [r_iconst, r_iret]
    exact this
  · have h0' := h0 q1 q2
    have := h0'.go ho y1 y2
    have t9 := y2.2.2.2.2.2.2.2.2.2.2.2.1
    have l9 := y2.2.2.2.2.2.2.2.2.2.2.2.2
    simp (disch := first | assumption | exact zk_294 | omega) only [r_K1, r_i2lR, r_lastoreR, r_goto, zb_294_3, r_iconst, r_iret]
    exact this
set_option maxRecDepth 20000 in
theorem l_availability (hd : 90 ≤ d) (hw : zWc σ s V) (ho : zOK σ) {x : Int} (hx : zI32 x) (e1 : ¬ (0 ≤ x ∧ x < σ.r.n) → zLth Q 1 σ s V) (h0 : 0 ≤ x ∧ x < σ.r.n → zLrt Q (Int32.ofInt (zavA σ.r x)).toInt64 σ s V) : zcall d 295 [.ref 5, zi x, .ref 191] (s, V) Q := by
  obtain ⟨d, rfl⟩ : ∃ e, d = e + 1 := ⟨d - 1, by omega⟩
  simp (disch := first | assumption | omega) only [zc_295]
  simp (disch := first | assumption | exact zk_295 | ((repeat (first | exact z1n | refine z1I ?_ | refine z1R ?_)); done) | exact rfl | omega | decide) only [zb_295_0, r_aload_2, r_iconst, r_aload_0, r_iload_1, r_inv_2_0, r_inv_2_1, r_inv_2_2, r_inv_2_3, r_inv_2_4, r_K0, r_K1, r_i2l, r_lastore, r_lastoreR, r_goto, r_astore_3i, r_astore_3r, r_astore_3j, r_iret, r_bret_0, r_bret_1, ↓reduceIte, not_true_eq_false, not_false_eq_true, Int.reduceEq, Int.reduceLE, Int.reduceLT, Int.reduceAdd, Int.reduceNeg, Int.reduceMul, Int.reduceSub, Int.reduceToNat]
  refine w_availability (by omega) hw ho hx (fun q1 => fun s' V' y1 y2 => ?_) (fun q1 => fun s' V' y1 y2 => ?_)
  · have := e1 q1 s' V' y1 y2
    refine Eq.mpr (r_KH (lb := 1) (by decide) (by decide) zb_295_1 (by simp) rfl) ?_
    simp (disch := first | assumption | exact zk_295 | omega) only [r_iconst, r_iret]
    exact this
  · have h0' := h0 q1
    have := h0'.go ho y1 y2
    have t9 := y2.2.2.2.2.2.2.2.2.2.2.2.1
    have l9 := y2.2.2.2.2.2.2.2.2.2.2.2.2
    simp (disch := first | assumption | exact zk_295 | omega) only [r_K1, r_i2lR, r_lastoreR, r_goto, zb_295_2, r_iconst, r_iret]
    exact this
set_option maxRecDepth 20000 in
theorem l_weakest (hd : 90 ≤ d) (hw : zWc σ s V) (ho : zOK σ) {x : Int} (hx : zI32 x) (e1 : ¬ (0 ≤ x ∧ x < σ.r.n) → zLth Q 1 σ s V) (h0 : 0 ≤ x ∧ x < σ.r.n → zLrt Q (Int32.ofInt ((zavW σ.r x σ.r.n).1)).toInt64 σ s V) : zcall d 296 [.ref 5, zi x, .ref 191] (s, V) Q := by
  obtain ⟨d, rfl⟩ : ∃ e, d = e + 1 := ⟨d - 1, by omega⟩
  simp (disch := first | assumption | omega) only [zc_296]
  simp (disch := first | assumption | exact zk_296 | ((repeat (first | exact z1n | refine z1I ?_ | refine z1R ?_)); done) | exact rfl | omega | decide) only [zb_296_0, r_aload_2, r_iconst, r_aload_0, r_iload_1, r_inv_2_0, r_inv_2_1, r_inv_2_2, r_inv_2_3, r_inv_2_4, r_K0, r_K1, r_i2l, r_lastore, r_lastoreR, r_goto, r_astore_3i, r_astore_3r, r_astore_3j, r_iret, r_bret_0, r_bret_1, ↓reduceIte, not_true_eq_false, not_false_eq_true, Int.reduceEq, Int.reduceLE, Int.reduceLT, Int.reduceAdd, Int.reduceNeg, Int.reduceMul, Int.reduceSub, Int.reduceToNat]
  refine w_weakest (by omega) hw ho hx (fun q1 => fun s' V' y1 y2 => ?_) (fun q1 => fun s' V' y1 y2 => ?_)
  · have := e1 q1 s' V' y1 y2
    refine Eq.mpr (r_KH (lb := 1) (by decide) (by decide) zb_296_1 (by simp) rfl) ?_
    simp (disch := first | assumption | exact zk_296 | omega) only [r_iconst, r_iret]
    exact this
  · have h0' := h0 q1
    have := h0'.go ho y1 y2
    have t9 := y2.2.2.2.2.2.2.2.2.2.2.2.1
    have l9 := y2.2.2.2.2.2.2.2.2.2.2.2.2
    simp (disch := first | assumption | exact zk_296 | omega) only [r_K1, r_i2lR, r_lastoreR, r_goto, zb_296_2, r_iconst, r_iret]
    exact this
set_option maxRecDepth 20000 in
theorem l_append (hd : 90 ≤ d) (hw : zWc σ s V) (ho : zOK σ) {x : Int} (hx : zI32 x) (e1 : ¬ (0 ≤ x ∧ x ≤ 127) → zLth Q 1 σ s V) (e2 : 0 ≤ x ∧ x ≤ 127 → ¬ σ.m < 120 → zLth Q 2 σ s V) (h0 : 0 ≤ x ∧ x ≤ 127 → σ.m < 120 → zOK (σ.tx (σ.m + 1) (fun k => if k = σ.m then x else σ.T k)) ∧ zLrt Q (Int32.ofInt (σ.m + 1)).toInt64 (σ.tx (σ.m + 1) (fun k => if k = σ.m then x else σ.T k)) s V) : zcall d 297 [.ref 5, zi x, .ref 191] (s, V) Q := by
  obtain ⟨d, rfl⟩ : ∃ e, d = e + 1 := ⟨d - 1, by omega⟩
  simp (disch := first | assumption | omega) only [zc_297]
  simp (disch := first | assumption | exact zk_297 | ((repeat (first | exact z1n | refine z1I ?_ | refine z1R ?_)); done) | exact rfl | omega | decide) only [zb_297_0, r_aload_2, r_iconst, r_aload_0, r_iload_1, r_inv_2_0, r_inv_2_1, r_inv_2_2, r_inv_2_3, r_inv_2_4, r_K0, r_K1, r_i2l, r_lastore, r_lastoreR, r_goto, r_astore_3i, r_astore_3r, r_astore_3j, r_iret, r_bret_0, r_bret_1, ↓reduceIte, not_true_eq_false, not_false_eq_true, Int.reduceEq, Int.reduceLE, Int.reduceLT, Int.reduceAdd, Int.reduceNeg, Int.reduceMul, Int.reduceSub, Int.reduceToNat]
  refine w_append (by omega) hw ho hx (fun q1 => fun s' V' y1 y2 => ?_) (fun q1 q2 => fun s' V' y1 y2 => ?_) (fun q1 q2 => fun s' V' y1 y2 => ?_)
  · have := e1 q1 s' V' y1 y2
    refine Eq.mpr (r_KH (lb := 1) (by decide) (by decide) zb_297_1 (by simp) rfl) ?_
    simp (disch := first | assumption | exact zk_297 | omega) only [r_iconst, r_iret]
    exact this
  · have := e2 q1 q2 s' V' y1 y2
    refine Eq.mpr (r_KH (lb := 2) (by decide) (by decide) zb_297_2 (by simp) rfl) ?_
    simp (disch := first | assumption | exact zk_297 | omega) only [r_iconst, r_iret]
    exact this
  · obtain ⟨ho', h0'⟩ := h0 q1 q2
    have := h0'.go ho' y1 y2
    have t9 := y2.2.2.2.2.2.2.2.2.2.2.2.1
    have l9 := y2.2.2.2.2.2.2.2.2.2.2.2.2
    simp (disch := first | assumption | exact zk_297 | omega) only [r_K1, r_i2lR, r_lastoreR, r_goto, zb_297_3, r_iconst, r_iret]
    exact this
set_option maxRecDepth 20000 in
theorem l_undo (hd : 90 ≤ d) (hw : zWc σ s V) (ho : zOK σ) (e1 : σ.p = 0 → zLth Q 1 σ s V) (h0 : ¬ σ.p = 0 → zOK (σ.H (σ.p.toNat - 1), (σ.p - 1, σ.H), σ.2.2) ∧ zLrt Q (Int32.ofInt (σ.p - 1)).toInt64 (σ.H (σ.p.toNat - 1), (σ.p - 1, σ.H), σ.2.2) s V) : zcall d 298 [.ref 5, .ref 191] (s, V) Q := by
  obtain ⟨d, rfl⟩ : ∃ e, d = e + 1 := ⟨d - 1, by omega⟩
  simp (disch := first | assumption | omega) only [zc_298]
  simp (disch := first | assumption | exact zk_298 | ((repeat (first | exact z1n | refine z1I ?_ | refine z1R ?_)); done) | exact rfl | omega | decide) only [zb_298_0, r_aload_1, r_iconst, r_aload_0, r_inv_1_0, r_inv_1_1, r_inv_1_2, r_inv_1_3, r_inv_1_4, r_K0, r_K1, r_i2l, r_lastore, r_lastoreR, r_goto, r_astore_2i, r_astore_2r, r_astore_2j, r_iret, r_bret_0, r_bret_1, ↓reduceIte, not_true_eq_false, not_false_eq_true, Int.reduceEq, Int.reduceLE, Int.reduceLT, Int.reduceAdd, Int.reduceNeg, Int.reduceMul, Int.reduceSub, Int.reduceToNat]
  refine w_undo (by omega) hw ho (fun q1 => fun s' V' y1 y2 => ?_) (fun q1 => fun s' V' y1 y2 => ?_)
  · have := e1 q1 s' V' y1 y2
    refine Eq.mpr (r_KH (lb := 1) (by decide) (by decide) zb_298_1 (by simp) rfl) ?_
    simp (disch := first | assumption | exact zk_298 | omega) only [r_iconst, r_iret]
    exact this
  · obtain ⟨ho', h0'⟩ := h0 q1
    have := h0'.go ho' y1 y2
    have t9 := y2.2.2.2.2.2.2.2.2.2.2.2.1
    have l9 := y2.2.2.2.2.2.2.2.2.2.2.2.2
    simp (disch := first | assumption | exact zk_298 | omega) only [r_K1, r_i2lR, r_lastoreR, r_goto, zb_298_2, r_iconst, r_iret]
    exact this
end
