/-! MODEL, 1: its object and rows; what only looks -/
def zMsl : List Int := [0, 1, 2, 4, 7, 8, 10, 11, 12, 13, 14, 15, 16, 17, 18, 19, 28, 29, 30, 31, 32, 35, 37, 38, 39, 42]
def zMtg : List Nat := [20, 20, 20, 20, 20, 20, 20, 20, 20, 20, 20, 20, 20, 20, 23, 20, 20, 20, 20, 20, 20, 20, 20, 20, 23, 20]
def zMln : List Int := [230, 920, 230, 120, 12, 12, 12, 13, 13, 13, 13, 13, 13, 13, 13, 13, 240, 800, 6, 240, 800, 12, 12, 4096, 4096, 5]
def zMP (s : zS) (V : zV) : Prop := s.tg 164 = 10 ∧ ∀ i : Nat, i < 26 → V 164 (zMsl.getD i 0) = .ref (165 + i) ∧ s.tg (165 + i) = zMtg.getD i 0 ∧ s.ln (165 + i) = zMln.getD i 0
/-- a state as a row of numbers, from place o on -/
def zMCr (ρ : zR) (V : zV) (r : Nat) (o : Int) : Prop := V r (o + 0) = zi ρ.n ∧ V r (o + 1) = zi ρ.c ∧ (∀ w x : Int, 0 ≤ w → w < 9 → 0 ≤ x → x < ρ.n → V r (o + (2 + 9 * x + w)) = zi (ρ.S w x)) ∧ (∀ w k : Int, 0 ≤ w → w < 5 → 0 ≤ k → k < ρ.c → V r (o + (110 + 5 * k + w)) = zi (ρ.K w k))
def zMC (ρ : zR) (V : zV) : Prop := V 165 0 = zi ρ.n ∧ V 165 1 = zi ρ.c ∧ (∀ w x : Int, 0 ≤ w → w < 9 → 0 ≤ x → x < ρ.n → V 165 (2 + 9 * x + w) = zi (ρ.S w x)) ∧ (∀ w k : Int, 0 ≤ w → w < 5 → 0 ≤ k → k < ρ.c → V 165 (110 + 5 * k + w) = zi (ρ.K w k))
theorem zMC_r {ρ : zR} {V : zV} : zMC ρ V ↔ zMCr ρ V 165 0 := by
  unfold zMC zMCr
  simp only [Int.zero_add]
/-- a row of ints -/
def zInts (V : zV) (r : Nat) (n : Int) : Prop := ∀ i : Int, 0 ≤ i → i < n → ∃ z, V r i = zi z
theorem zInts.fn {V : zV} {r : Nat} {n : Int} (h : zInts V r n) : ∃ m : Int → Int, ∀ i : Int, 0 ≤ i → i < n → V r i = zi (m i) := by
  have : ∀ i : Int, ∃ z : Int, 0 ≤ i → i < n → V r i = zi z := by
    intro i
    by_cases c : 0 ≤ i ∧ i < n
    · obtain ⟨z, hz⟩ := h i c.1 c.2
      exact ⟨z, fun _ _ => hz⟩
    · exact ⟨0, fun a b => absurd ⟨a, b⟩ c⟩
  exact Classical.skolem.mp this
/-- but for the rows of l and the fields of ks nothing has changed -/
def zFm (l : List Nat) (ks : List Int) (V V' : zV) : Prop := (∀ r : Nat, r ≠ 164 → r ∉ l → V' r = V r) ∧ ∀ k : Int, k ∉ ks → V' 164 k = V 164 k
theorem zFm.rf {l : List Nat} {ks : List Int} {V : zV} : zFm l ks V V := ⟨fun _ _ _ => rfl, fun _ _ => rfl⟩
theorem zFm.tr {l : List Nat} {ks : List Int} {V V' V'' : zV} (h : zFm l ks V V') (h' : zFm l ks V' V'') : zFm l ks V V'' := ⟨fun r a b => (h'.1 r a b).trans (h.1 r a b), fun k a => (h'.2 k a).trans (h.2 k a)⟩
theorem zFm.mono {l l' : List Nat} {ks ks' : List Int} {V V' : zV} (h : zFm l ks V V') (hl : ∀ r ∈ l, r ∈ l') (hk : ∀ k ∈ ks, k ∈ ks') : zFm l' ks' V V' := ⟨fun r a b => h.1 r a (fun q => b (hl r q)), fun k a => h.2 k (fun q => a (hk k q))⟩
theorem zFm.pf {l : List Nat} {ks : List Int} {V V1 : zV} {k : Int} {v : Value} (h : zFm l ks V V1) (hk : k ∈ ks) : zFm l ks V (zput V1 164 k v) := ⟨fun r a b => (zput_row a).trans (h.1 r a b), fun k' a => (zput_k (fun q => a (by rw [q]; exact hk))).trans (h.2 k' a)⟩
theorem zFm.pr {l : List Nat} {ks : List Int} {V V1 : zV} {r : Nat} {k : Int} {v : Value} (h : zFm l ks V V1) (hr : r ∈ l) (h4 : r ≠ 164) : zFm l ks V (zput V1 r k v) := ⟨fun r' a b => (zput_row (fun q => b (by rw [q]; exact hr))).trans (h.1 r' a b), fun k' a => (zput_r (fun q => h4 q.symm)).trans (h.2 k' a)⟩
theorem zFm.prow {l : List Nat} {ks : List Int} {V V1 : zV} {r : Nat} {f : Int → Value} (h : zFm l ks V V1) (hr : r ∈ l) (h4 : r ≠ 164) : zFm l ks V (zrow V1 r f) := ⟨fun r' a b => (zrow_r (fun q => b (by rw [q]; exact hr))).trans (h.1 r' a b), fun k' a => (congrFun (zrow_r (fun q => h4 q.symm)) k').trans (h.2 k' a)⟩
theorem zMP.fm {s : zS} {l : List Nat} {ks : List Int} {V V' : zV} (hM : zMP s V) (h : zFm l ks V V') (hk : ∀ i : Nat, i < 26 → zMsl.getD i 0 ∉ ks) : zMP s V' := ⟨hM.1, fun i hi => ⟨(h.2 _ (hk i hi)).trans (hM.2 i hi).1, (hM.2 i hi).2⟩⟩
theorem zMC.fm {ρ : zR} {l : List Nat} {ks : List Int} {V V' : zV} (hC : zMC ρ V) (h : zFm l ks V V') (hl : 165 ∉ l) : zMC ρ V' := by
  unfold zMC
  rw [h.1 165 (by decide) hl]
  exact hC
section
variable {d : Nat} {s : zS} {V : zV} {Q : zO → zH → Prop} {ρ : zR} {h : zH}
set_option maxRecDepth 20000 in
theorem m_in (hd : 1 ≤ d) {x y z : Int} (hx : zI32 x) (hy : zI32 y) (hz : zI32 z) : zcall d 162 [zi x, zi y, zi z] h Q = if y ≤ x ∧ x ≤ z then Q (.inl (some (zi 1))) h else Q (.inl (some (zi 0))) h := by
  obtain ⟨x1, x2⟩ := hx
  obtain ⟨y1, y2⟩ := hy
  obtain ⟨z1, z2⟩ := hz
  obtain ⟨d, rfl⟩ : ∃ e, d = e + 1 := ⟨d - 1, by omega⟩
  simp (disch := first | assumption | omega) only [zc_162]
  simp (disch := first | assumption | exact zk_162 | ((repeat (first | exact z1n | refine z1I ?_ | refine z1R ?_)); done) | exact rfl | omega | decide) only [zb_162_0, zb_162_1, zb_162_2, r_iload_0, r_iload_1, r_icmp_lt, r_iload_2, r_icmp_gt, r_iconst, r_goto, r_goto_w, r_iret, r_bret_0, r_bret_1, ↓reduceIte, not_true_eq_false, not_false_eq_true, Int.reduceEq, Int.reduceLE, Int.reduceLT, Int.reduceAdd, Int.reduceNeg, Int.reduceMul, Int.reduceSub, Int.reduceToNat]
  (repeat' split) <;> first | rfl | (exfalso; omega) | (exfalso; grind)
set_option maxRecDepth 20000 in
theorem m_fails (hd : 1 ≤ d) (hM : zMP s V) {x : Int} : zcall d 163 [.ref 164, zi x] (s, V) Q = Q (.inl (some (zi 0))) (s, zput V 164 6 (zi x)) := by
  have tM := hM.1
  obtain ⟨d, rfl⟩ : ∃ e, d = e + 1 := ⟨d - 1, by omega⟩
  simp (disch := first | assumption | omega) only [zc_163]
  simp (disch := first | assumption | exact zk_163 | ((repeat (first | exact z1n | refine z1I ?_ | refine z1R ?_)); done) | exact rfl | omega | decide) only [zb_163_0, r_aload_0, r_iload_1, r_pf_646, r_iconst, r_iret, r_bret_0, r_bret_1, ↓reduceIte, not_true_eq_false, not_false_eq_true, Int.reduceEq, Int.reduceLE, Int.reduceLT, Int.reduceAdd, Int.reduceNeg, Int.reduceMul, Int.reduceSub, Int.reduceToNat]
set_option maxRecDepth 20000 in
theorem m_tells (hd : 1 ≤ d) (hM : zMP s V) {x : Int} : zcall d 164 [.ref 164, zi x] (s, V) Q = Q (.inl (some (zi x))) (s, zput V 164 6 (zi 0)) := by
  have tM := hM.1
  obtain ⟨d, rfl⟩ : ∃ e, d = e + 1 := ⟨d - 1, by omega⟩
  simp (disch := first | assumption | omega) only [zc_164]
  simp (disch := first | assumption | exact zk_164 | ((repeat (first | exact z1n | refine z1I ?_ | refine z1R ?_)); done) | exact rfl | omega | decide) only [zb_164_0, r_aload_0, r_iconst, r_pf_646, r_iload_1, r_iret, r_bret_0, r_bret_1, ↓reduceIte, not_true_eq_false, not_false_eq_true, Int.reduceEq, Int.reduceLE, Int.reduceLT, Int.reduceAdd, Int.reduceNeg, Int.reduceMul, Int.reduceSub, Int.reduceToNat]
set_option maxRecDepth 20000 in
theorem m_thrown (hd : 1 ≤ d) (hM : zMP s V) {x : Int} (hx : V 164 6 = zi x) : zcall d 161 [.ref 164] (s, V) Q = Q (.inl (some (zi x))) (s, V) := by
  have tM := hM.1
  obtain ⟨d, rfl⟩ : ∃ e, d = e + 1 := ⟨d - 1, by omega⟩
  simp (disch := first | assumption | omega) only [zc_161]
  simp (disch := first | assumption | exact zk_161 | ((repeat (first | exact z1n | refine z1I ?_ | refine z1R ?_)); done) | exact rfl | omega | decide) only [zb_161_0, r_aload_0, r_gf_646, r_iret, r_bret_0, r_bret_1, hx, ↓reduceIte, not_true_eq_false, not_false_eq_true, Int.reduceEq, Int.reduceLE, Int.reduceLT, Int.reduceAdd, Int.reduceNeg, Int.reduceMul, Int.reduceSub, Int.reduceToNat]
set_option maxRecDepth 20000 in
theorem m_of (hd : 1 ≤ d) (hM : zMP s V) (hC : zMC ρ V) (hn : ρ.n ≤ 12) {x w : Int} (x0 : 0 ≤ x) (x1 : x < ρ.n) (w0 : 0 ≤ w) (w1 : w < 9) : zcall d 168 [.ref 164, zi x, zi w] (s, V) Q = Q (.inl (some (zi (ρ.S w x)))) (s, V) := by
  have tM := hM.1
  have vm_s : V 164 0 = .ref 165 := (hM.2 0 (by decide)).1
  have tm_s : s.tg 165 = 20 := (hM.2 0 (by decide)).2.1
  have lm_s : s.ln 165 = 230 := (hM.2 0 (by decide)).2.2
  have e := hC.2.2.1
  obtain ⟨d, rfl⟩ : ∃ e, d = e + 1 := ⟨d - 1, by omega⟩
  simp (disch := first | assumption | omega) only [zc_168]
  simp (disch := first | assumption | exact zk_168 | ((repeat (first | exact z1n | refine z1I ?_ | refine z1R ?_)); done) | exact rfl | omega | decide) only [zb_168_0, r_aload_0, r_gf_640, r_iconst, r_iload_1, r_imul, r_iadd, r_iload_2, r_ial, r_ial30, r_ial32, r_iret, r_bret_0, r_bret_1, vm_s, e, ↓reduceIte, not_true_eq_false, not_false_eq_true, Int.reduceEq, Int.reduceLE, Int.reduceLT, Int.reduceAdd, Int.reduceNeg, Int.reduceMul, Int.reduceSub, Int.reduceToNat]
set_option maxRecDepth 20000 in
theorem m_puts (hd : 1 ≤ d) (hM : zMP s V) {x w v : Int} (x0 : 0 ≤ x) (x1 : x < 12) (w0 : 0 ≤ w) (w1 : w < 9) : zcall d 169 [.ref 164, zi x, zi w, zi v] (s, V) Q = Q (.inl none) (s, zput V 165 (2 + 9 * x + w) (zi v)) := by
  have tM := hM.1
  have vm_s : V 164 0 = .ref 165 := (hM.2 0 (by decide)).1
  have tm_s : s.tg 165 = 20 := (hM.2 0 (by decide)).2.1
  have lm_s : s.ln 165 = 230 := (hM.2 0 (by decide)).2.2
  obtain ⟨d, rfl⟩ : ∃ e, d = e + 1 := ⟨d - 1, by omega⟩
  simp (disch := first | assumption | omega) only [zc_169]
  simp (disch := first | assumption | exact zk_169 | ((repeat (first | exact z1n | refine z1I ?_ | refine z1R ?_)); done) | exact rfl | omega | decide) only [zb_169_0, r_aload_0, r_gf_640, r_iconst, r_iload_1, r_imul, r_iadd, r_iload_2, r_iload_3, r_iastore, r_ret, vm_s, ↓reduceIte, not_true_eq_false, not_false_eq_true, Int.reduceEq, Int.reduceLE, Int.reduceLT, Int.reduceAdd, Int.reduceNeg, Int.reduceMul, Int.reduceSub, Int.reduceToNat]
set_option maxRecDepth 20000 in
theorem m_callOf (hd : 1 ≤ d) (hM : zMP s V) (hC : zMC ρ V) (hn : ρ.c ≤ 24) {x w : Int} (x0 : 0 ≤ x) (x1 : x < ρ.c) (w0 : 0 ≤ w) (w1 : w < 5) : zcall d 170 [.ref 164, zi x, zi w] (s, V) Q = Q (.inl (some (zi (ρ.K w x)))) (s, V) := by
  have tM := hM.1
  have vm_s : V 164 0 = .ref 165 := (hM.2 0 (by decide)).1
  have tm_s : s.tg 165 = 20 := (hM.2 0 (by decide)).2.1
  have lm_s : s.ln 165 = 230 := (hM.2 0 (by decide)).2.2
  have e := hC.2.2.2
  obtain ⟨d, rfl⟩ : ∃ e, d = e + 1 := ⟨d - 1, by omega⟩
  simp (disch := first | assumption | omega) only [zc_170]
  simp (disch := first | assumption | exact zk_170 | ((repeat (first | exact z1n | refine z1I ?_ | refine z1R ?_)); done) | exact rfl | omega | decide) only [zb_170_0, r_aload_0, r_gf_640, r_iconst, r_iload_1, r_imul, r_iadd, r_iload_2, r_ial, r_ial30, r_ial32, r_iret, r_bret_0, r_bret_1, vm_s, e, ↓reduceIte, not_true_eq_false, not_false_eq_true, Int.reduceEq, Int.reduceLE, Int.reduceLT, Int.reduceAdd, Int.reduceNeg, Int.reduceMul, Int.reduceSub, Int.reduceToNat]
set_option maxRecDepth 20000 in
theorem m_caller (hd : 2 ≤ d) (hM : zMP s V) (hC : zMC ρ V) (hn : ρ.c ≤ 24) {x : Int} (x0 : 0 ≤ x) (x1 : x < ρ.c) : zcall d 171 [.ref 164, zi x] (s, V) Q = Q (.inl (some (zi (ρ.K 0 x)))) (s, V) := by
  have tM := hM.1
  obtain ⟨d, rfl⟩ : ∃ e, d = e + 1 := ⟨d - 1, by omega⟩
  simp (disch := first | assumption | omega) only [zc_171]
  simp (disch := first | assumption | exact zk_171 | ((repeat (first | exact z1n | refine z1I ?_ | refine z1R ?_)); done) | exact rfl | omega | decide) only [zb_171_0, r_aload_0, r_iload_1, r_iconst, r_inv_3_0, r_inv_3_1, r_inv_3_2, r_inv_3_3, r_inv_3_4, r_K0, r_K1, r_iret, r_bret_0, r_bret_1, m_callOf (hC := hC), ↓reduceIte, not_true_eq_false, not_false_eq_true, Int.reduceEq, Int.reduceLE, Int.reduceLT, Int.reduceAdd, Int.reduceNeg, Int.reduceMul, Int.reduceSub, Int.reduceToNat]
set_option maxRecDepth 20000 in
theorem m_callee (hd : 2 ≤ d) (hM : zMP s V) (hC : zMC ρ V) (hn : ρ.c ≤ 24) {x : Int} (x0 : 0 ≤ x) (x1 : x < ρ.c) : zcall d 172 [.ref 164, zi x] (s, V) Q = Q (.inl (some (zi (ρ.K 1 x)))) (s, V) := by
  have tM := hM.1
  obtain ⟨d, rfl⟩ : ∃ e, d = e + 1 := ⟨d - 1, by omega⟩
  simp (disch := first | assumption | omega) only [zc_172]
  simp (disch := first | assumption | exact zk_172 | ((repeat (first | exact z1n | refine z1I ?_ | refine z1R ?_)); done) | exact rfl | omega | decide) only [zb_172_0, r_aload_0, r_iload_1, r_iconst, r_inv_3_0, r_inv_3_1, r_inv_3_2, r_inv_3_3, r_inv_3_4, r_K0, r_K1, r_iret, r_bret_0, r_bret_1, m_callOf (hC := hC), ↓reduceIte, not_true_eq_false, not_false_eq_true, Int.reduceEq, Int.reduceLE, Int.reduceLT, Int.reduceAdd, Int.reduceNeg, Int.reduceMul, Int.reduceSub, Int.reduceToNat]
set_option maxRecDepth 20000 in
theorem m_isRepl (hd : 2 ≤ d) (hM : zMP s V) (hC : zMC ρ V) (hW : zWF ρ) {x : Int} (x0 : 0 ≤ x) (x1 : x < ρ.c) : zcall d 173 [.ref 164, zi x] (s, V) Q = if ρ.K 4 x = 2 then Q (.inl (some (zi 1))) (s, V) else Q (.inl (some (zi 0))) (s, V) := by
  obtain ⟨n0, n1, c0, c1⟩ := hW.1
  have w := hW.2.2.1 x x0 x1
  have tM := hM.1
  obtain ⟨d, rfl⟩ : ∃ e, d = e + 1 := ⟨d - 1, by omega⟩
  simp (disch := first | assumption | omega) only [zc_173]
  simp (disch := first | assumption | exact zk_173 | ((repeat (first | exact z1n | refine z1I ?_ | refine z1R ?_)); done) | exact rfl | omega | decide) only [zb_173_0, zb_173_1, zb_173_2, r_aload_0, r_iload_1, r_iconst, r_inv_3_0, r_inv_3_1, r_inv_3_2, r_inv_3_3, r_inv_3_4, r_K0, r_K1, r_icmp_ne, r_goto, r_goto_w, r_iret, r_bret_0, r_bret_1, m_callOf (hC := hC), ↓reduceIte, not_true_eq_false, not_false_eq_true, Int.reduceEq, Int.reduceLE, Int.reduceLT, Int.reduceAdd, Int.reduceNeg, Int.reduceMul, Int.reduceSub, Int.reduceToNat]
  (repeat' split) <;> first | rfl | (exfalso; omega) | (exfalso; grind)
set_option maxRecDepth 20000 in
theorem m_isService (hd : 2 ≤ d) (hM : zMP s V) (hC : zMC ρ V) (hW : zWF ρ) {x : Int} (hx : zI32 x) : zcall d 174 [.ref 164, zi x] (s, V) Q = if 0 ≤ x ∧ x < ρ.n then Q (.inl (some (zi 1))) (s, V) else Q (.inl (some (zi 0))) (s, V) := by
  obtain ⟨n0, n1, c0, c1⟩ := hW.1
  have i1 : zI32 0 := ⟨by omega, by omega⟩
  have i2 : zI32 (ρ.n - 1) := ⟨by omega, by omega⟩
  have tM := hM.1
  have vm_s : V 164 0 = .ref 165 := (hM.2 0 (by decide)).1
  have tm_s : s.tg 165 = 20 := (hM.2 0 (by decide)).2.1
  have lm_s : s.ln 165 = 230 := (hM.2 0 (by decide)).2.2
  have e := hC.1
  obtain ⟨d, rfl⟩ : ∃ e, d = e + 1 := ⟨d - 1, by omega⟩
  simp (disch := first | assumption | omega) only [zc_174]
  simp (disch := first | assumption | exact zk_174 | ((repeat (first | exact z1n | refine z1I ?_ | refine z1R ?_)); done) | exact rfl | omega | decide) only [zb_174_0, r_iload_1, r_iconst, r_aload_0, r_gf_640, r_ial, r_ial30, r_ial32, r_isub, r_inv_3_0, r_inv_3_1, r_inv_3_2, r_inv_3_3, r_inv_3_4, r_K0, r_K1, r_iret, r_bret_0, r_bret_1, vm_s, e, m_in, ↓reduceIte, not_true_eq_false, not_false_eq_true, Int.reduceEq, Int.reduceLE, Int.reduceLT, Int.reduceAdd, Int.reduceNeg, Int.reduceMul, Int.reduceSub, Int.reduceToNat]
  (repeat' split) <;> first | rfl | (exfalso; omega) | (exfalso; grind)
set_option maxRecDepth 20000 in
theorem m_isCall (hd : 2 ≤ d) (hM : zMP s V) (hC : zMC ρ V) (hW : zWF ρ) {x : Int} (hx : zI32 x) : zcall d 175 [.ref 164, zi x] (s, V) Q = if 0 ≤ x ∧ x < ρ.c then Q (.inl (some (zi 1))) (s, V) else Q (.inl (some (zi 0))) (s, V) := by
  obtain ⟨n0, n1, c0, c1⟩ := hW.1
  have i1 : zI32 0 := ⟨by omega, by omega⟩
  have i2 : zI32 (ρ.c - 1) := ⟨by omega, by omega⟩
  have tM := hM.1
  have vm_s : V 164 0 = .ref 165 := (hM.2 0 (by decide)).1
  have tm_s : s.tg 165 = 20 := (hM.2 0 (by decide)).2.1
  have lm_s : s.ln 165 = 230 := (hM.2 0 (by decide)).2.2
  have e := hC.2.1
  obtain ⟨d, rfl⟩ : ∃ e, d = e + 1 := ⟨d - 1, by omega⟩
  simp (disch := first | assumption | omega) only [zc_175]
  simp (disch := first | assumption | exact zk_175 | ((repeat (first | exact z1n | refine z1I ?_ | refine z1R ?_)); done) | exact rfl | omega | decide) only [zb_175_0, r_iload_1, r_iconst, r_aload_0, r_gf_640, r_ial, r_ial30, r_ial32, r_isub, r_inv_3_0, r_inv_3_1, r_inv_3_2, r_inv_3_3, r_inv_3_4, r_K0, r_K1, r_iret, r_bret_0, r_bret_1, vm_s, e, m_in, ↓reduceIte, not_true_eq_false, not_false_eq_true, Int.reduceEq, Int.reduceLE, Int.reduceLT, Int.reduceAdd, Int.reduceNeg, Int.reduceMul, Int.reduceSub, Int.reduceToNat]
  (repeat' split) <;> first | rfl | (exfalso; omega) | (exfalso; grind)
set_option maxRecDepth 20000 in
theorem m_isUp (hd : 2 ≤ d) (hM : zMP s V) (hC : zMC ρ V) (hW : zWF ρ) {x : Int} (x0 : 0 ≤ x) (x1 : x < ρ.n) : zcall d 176 [.ref 164, zi x] (s, V) Q = if ρ.S 6 x = 1 then Q (.inl (some (zi 1))) (s, V) else Q (.inl (some (zi 0))) (s, V) := by
  obtain ⟨n0, n1, c0, c1⟩ := hW.1
  have w := (hW.2.1 x x0 x1).2.2.2.2.2.2.1
  have tM := hM.1
  obtain ⟨d, rfl⟩ : ∃ e, d = e + 1 := ⟨d - 1, by omega⟩
  simp (disch := first | assumption | omega) only [zc_176]
  simp (disch := first | assumption | exact zk_176 | ((repeat (first | exact z1n | refine z1I ?_ | refine z1R ?_)); done) | exact rfl | omega | decide) only [zb_176_0, zb_176_1, zb_176_2, r_aload_0, r_iload_1, r_iconst, r_inv_3_0, r_inv_3_1, r_inv_3_2, r_inv_3_3, r_inv_3_4, r_K0, r_K1, r_icmp_ne, r_goto, r_goto_w, r_iret, r_bret_0, r_bret_1, m_of (hC := hC), ↓reduceIte, not_true_eq_false, not_false_eq_true, Int.reduceEq, Int.reduceLE, Int.reduceLT, Int.reduceAdd, Int.reduceNeg, Int.reduceMul, Int.reduceSub, Int.reduceToNat]
  (repeat' split) <;> first | rfl | (exfalso; omega) | (exfalso; grind)
set_option maxRecDepth 20000 in
theorem m_own (hd : 2 ≤ d) (hM : zMP s V) (hC : zMC ρ V) (hW : zWF ρ) {x : Int} (x0 : 0 ≤ x) (x1 : x < ρ.n) : zcall d 177 [.ref 164, zi x] (s, V) Q = Q (.inl (some (zi (zdiv (ρ.S 0 x * ρ.S 1 x + 99) 100)))) (s, V) := by
  obtain ⟨n0, n1, c0, c1⟩ := hW.1
  have tM := hM.1
  obtain ⟨d, rfl⟩ : ∃ e, d = e + 1 := ⟨d - 1, by omega⟩
  simp (disch := first | assumption | omega) only [zc_177]
  simp (disch := first | assumption | exact zk_177 | ((repeat (first | exact z1n | refine z1I ?_ | refine z1R ?_)); done) | exact rfl | omega | decide) only [zb_177_0, r_aload_0, r_iload_1, r_iconst, r_inv_3_0, r_inv_3_1, r_inv_3_2, r_inv_3_3, r_inv_3_4, r_K0, r_K1, r_imul, r_iadd, r_idiv, r_iret, r_bret_0, r_bret_1, m_of (hC := hC), ↓reduceIte, not_true_eq_false, not_false_eq_true, Int.reduceEq, Int.reduceLE, Int.reduceLT, Int.reduceAdd, Int.reduceNeg, Int.reduceMul, Int.reduceSub, Int.reduceToNat]
/-- the next call of x behind k -/
def zNext (ρ : zR) (x k : Int) : Int := zfst (fun j => decide (ρ.K 0 j = x)) (k + 1) ρ.c
set_option maxRecDepth 20000 in
theorem m_nextCall (hd : 3 ≤ d) (hM : zMP s V) (hC : zMC ρ V) (hW : zWF ρ) {x k : Int} (x0 : 0 ≤ x) (x1 : x < ρ.n) (k0 : -1 ≤ k) (k1 : k < ρ.c) : zcall d 178 [.ref 164, zi x, zi k] (s, V) Q = Q (.inl (some (zi (zNext ρ x k)))) (s, V) := by
  obtain ⟨n0, n1, c0, c1⟩ := hW.1
  have tM := hM.1
  have vm_s : V 164 0 = .ref 165 := (hM.2 0 (by decide)).1
  have tm_s : s.tg 165 = 20 := (hM.2 0 (by decide)).2.1
  have lm_s : s.ln 165 = 230 := (hM.2 0 (by decide)).2.2
  have e := hC.2.1
  obtain ⟨d, rfl⟩ : ∃ e, d = e + 1 := ⟨d - 1, by omega⟩
  simp (disch := first | assumption | omega) only [zc_178]
  simp (disch := first | assumption | exact zk_178 | ((repeat (first | exact z1n | refine z1I ?_ | refine z1R ?_)); done) | exact rfl | omega | decide) only [zb_178_0, r_iload_2, r_iconst, r_iadd, r_istore_3i, r_istore_3r, r_istore_3j, r_goto_w, r_iload_3, r_aload_0, r_gf_640, r_ial, r_ial30, r_ial32, r_icmp_ge, r_inv_2_0, r_inv_2_1, r_inv_2_2, r_inv_2_3, r_inv_2_4, r_K0, r_K1, r_iload_1, r_icmp_eq, r_iinc_3i, r_iinc_3r, r_iinc_3j, r_goto, r_iret, r_bret_0, r_bret_1, vm_s, ↓reduceIte, not_true_eq_false, not_false_eq_true, Int.reduceEq, Int.reduceLE, Int.reduceLT, Int.reduceAdd, Int.reduceNeg, Int.reduceMul, Int.reduceSub, Int.reduceToNat]
  unfold zNext
  obtain ⟨g1, g2⟩ := z_search (F := fun j => zwp (zcall d) 178 Q (zB 178 1) [.ref 164, zi x, zi k, zi j] [] (s, V)) (E := fun j => Q (.inl (some (zi j))) (s, V)) (p := fun j => decide (ρ.K 0 j = x)) (i := k + 1) (n := ρ.c) (by omega) (fun j j0 j1 => by
    have w := hW.2.2.1 j (by omega) j1
    constructor
    · intro q
      have q : ρ.K 0 j = x := by simpa using q
      simp (disch := first | assumption | exact zk_178 | ((repeat (first | exact z1n | refine z1I ?_ | refine z1R ?_)); done) | exact rfl | omega | decide) only [zb_178_1, zb_178_2, r_iload_2, r_iconst, r_iadd, r_istore_3i, r_istore_3r, r_istore_3j, r_goto_w, r_iload_3, r_aload_0, r_gf_640, r_ial, r_ial30, r_ial32, r_icmp_ge, r_inv_2_0, r_inv_2_1, r_inv_2_2, r_inv_2_3, r_inv_2_4, r_K0, r_K1, r_iload_1, r_icmp_eq, r_iinc_3i, r_iinc_3r, r_iinc_3j, r_goto, r_iret, r_bret_0, r_bret_1, vm_s, e, m_caller (hC := hC), q, ↓reduceIte, not_true_eq_false, not_false_eq_true, Int.reduceEq, Int.reduceLE, Int.reduceLT, Int.reduceAdd, Int.reduceNeg, Int.reduceMul, Int.reduceSub, Int.reduceToNat]
      rw [if_neg (by omega)]
    · intro q
      have q : ¬ ρ.K 0 j = x := by simpa using q
      conv => lhs; rw [zb_178_1]
      simp (disch := first | assumption | exact zk_178 | ((repeat (first | exact z1n | refine z1I ?_ | refine z1R ?_)); done) | exact rfl | omega | decide) only [zb_178_2, r_iload_2, r_iconst, r_iadd, r_istore_3i, r_istore_3r, r_istore_3j, r_goto_w, r_iload_3, r_aload_0, r_gf_640, r_ial, r_ial30, r_ial32, r_icmp_ge, r_inv_2_0, r_inv_2_1, r_inv_2_2, r_inv_2_3, r_inv_2_4, r_K0, r_K1, r_iload_1, r_icmp_eq, r_iinc_3i, r_iinc_3r, r_iinc_3j, r_goto, r_iret, r_bret_0, r_bret_1, vm_s, e, m_caller (hC := hC), q, ↓reduceIte, not_true_eq_false, not_false_eq_true, Int.reduceEq, Int.reduceLE, Int.reduceLT, Int.reduceAdd, Int.reduceNeg, Int.reduceMul, Int.reduceSub, Int.reduceToNat]
      rw [if_neg (by omega)])
  obtain ⟨a, b, -, -⟩ := zfst_is (fun j => decide (ρ.K 0 j = x)) (i := k + 1) (n := ρ.c) (by omega)
  by_cases q : zfst (fun j => decide (ρ.K 0 j = x)) (k + 1) ρ.c < ρ.c
  · exact g1 q
  · have q2 : zfst (fun j => decide (ρ.K 0 j = x)) (k + 1) ρ.c = ρ.c := by omega
    refine (g2 q2).trans ?_
    rw [q2]
    simp (disch := first | assumption | exact zk_178 | ((repeat (first | exact z1n | refine z1I ?_ | refine z1R ?_)); done) | exact rfl | omega | decide) only [zb_178_0, zb_178_1, zb_178_2, r_iload_2, r_iconst, r_iadd, r_istore_3i, r_istore_3r, r_istore_3j, r_goto_w, r_iload_3, r_aload_0, r_gf_640, r_ial, r_ial30, r_ial32, r_icmp_ge, r_inv_2_0, r_inv_2_1, r_inv_2_2, r_inv_2_3, r_inv_2_4, r_K0, r_K1, r_iload_1, r_icmp_eq, r_iinc_3i, r_iinc_3r, r_iinc_3j, r_goto, r_iret, r_bret_0, r_bret_1, vm_s, e, Int.le_refl, ↓reduceIte, not_true_eq_false, not_false_eq_true, Int.reduceEq, Int.reduceLE, Int.reduceLT, Int.reduceAdd, Int.reduceNeg, Int.reduceMul, Int.reduceSub, Int.reduceToNat]
set_option maxRecDepth 20000 in
theorem m_callsOf (hd : 3 ≤ d) (hM : zMP s V) (hC : zMC ρ V) (hW : zWF ρ) {x : Int} (x0 : 0 ≤ x) (x1 : x < ρ.n) : zcall d 179 [.ref 164, zi x] (s, V) Q = Q (.inl (some (zi (zCnt ρ x)))) (s, V) := by
  obtain ⟨n0, n1, c0, c1⟩ := hW.1
  have tM := hM.1
  have vm_s : V 164 0 = .ref 165 := (hM.2 0 (by decide)).1
  have tm_s : s.tg 165 = 20 := (hM.2 0 (by decide)).2.1
  have lm_s : s.ln 165 = 230 := (hM.2 0 (by decide)).2.2
  have e := hC.2.1
  obtain ⟨d, rfl⟩ : ∃ e, d = e + 1 := ⟨d - 1, by omega⟩
  simp (disch := first | assumption | omega) only [zc_179]
  simp (disch := first | assumption | exact zk_179 | ((repeat (first | exact z1n | refine z1I ?_ | refine z1R ?_)); done) | exact rfl | omega | decide) only [zb_179_0, r_iconst, r_istore_2i, r_istore_2r, r_istore_2j, r_istore_3i, r_istore_3r, r_istore_3j, r_goto_w, r_iload_3, r_aload_0, r_gf_640, r_ial, r_ial30, r_ial32, r_icmp_ge, r_iload_2, r_inv_2_0, r_inv_2_1, r_inv_2_2, r_inv_2_3, r_inv_2_4, r_K0, r_K1, r_iload_1, r_icmp_ne, r_goto, r_iadd, r_iinc_3i, r_iinc_3r, r_iinc_3j, r_iret, r_bret_0, r_bret_1, vm_s, ↓reduceIte, not_true_eq_false, not_false_eq_true, Int.reduceEq, Int.reduceLE, Int.reduceLT, Int.reduceAdd, Int.reduceNeg, Int.reduceMul, Int.reduceSub, Int.reduceToNat]
  unfold zCnt
  refine (z_chainI (F := fun k => zwp (zcall d) 179 Q (zB 179 1) [.ref 164, zi x, zi (zfo (fun k m => if ρ.K 0 k = x then m + 1 else m) 0 k), zi k] [] (s, V)) c0 (fun k k0 k1 => ?_)).trans ?_
  · have w := hW.2.2.1 k k0 k1
    conv => lhs; rw [zb_179_1]
    rw [zfo_s k0]
    simp (disch := first | assumption | exact zk_179 | ((repeat (first | exact z1n | refine z1I ?_ | refine z1R ?_)); done) | exact rfl | omega | decide) only [zb_179_2, zb_179_3, zb_179_4, r_iconst, r_istore_2i, r_istore_2r, r_istore_2j, r_istore_3i, r_istore_3r, r_istore_3j, r_goto_w, r_iload_3, r_aload_0, r_gf_640, r_ial, r_ial30, r_ial32, r_icmp_ge, r_iload_2, r_inv_2_0, r_inv_2_1, r_inv_2_2, r_inv_2_3, r_inv_2_4, r_K0, r_K1, r_iload_1, r_icmp_ne, r_goto, r_iadd, r_iinc_3i, r_iinc_3r, r_iinc_3j, r_iret, r_bret_0, r_bret_1, vm_s, e, m_caller (hC := hC), ↓reduceIte, not_true_eq_false, not_false_eq_true, Int.reduceEq, Int.reduceLE, Int.reduceLT, Int.reduceAdd, Int.reduceNeg, Int.reduceMul, Int.reduceSub, Int.reduceToNat]
    rw [if_neg (by omega : ¬ ρ.c ≤ k)]
    split
    · rename_i q
      rw [Int.add_zero]
    · rename_i q
      rw [if_pos (by omega)]
  · simp (disch := first | assumption | exact zk_179 | ((repeat (first | exact z1n | refine z1I ?_ | refine z1R ?_)); done) | exact rfl | omega | decide) only [zb_179_0, zb_179_1, zb_179_2, zb_179_3, zb_179_4, r_iconst, r_istore_2i, r_istore_2r, r_istore_2j, r_istore_3i, r_istore_3r, r_istore_3j, r_goto_w, r_iload_3, r_aload_0, r_gf_640, r_ial, r_ial30, r_ial32, r_icmp_ge, r_iload_2, r_inv_2_0, r_inv_2_1, r_inv_2_2, r_inv_2_3, r_inv_2_4, r_K0, r_K1, r_iload_1, r_icmp_ne, r_goto, r_iadd, r_iinc_3i, r_iinc_3r, r_iinc_3j, r_iret, r_bret_0, r_bret_1, vm_s, e, Int.le_refl, ↓reduceIte, not_true_eq_false, not_false_eq_true, Int.reduceEq, Int.reduceLE, Int.reduceLT, Int.reduceAdd, Int.reduceNeg, Int.reduceMul, Int.reduceSub, Int.reduceToNat]
set_option maxRecDepth 20000 in
theorem m_leader (hd : 3 ≤ d) (hM : zMP s V) (hC : zMC ρ V) (hW : zWF ρ) {k : Int} (k0 : 0 ≤ k) (k1 : k < ρ.c) : zcall d 195 [.ref 164, zi k] (s, V) Q = Q (.inl (some (zi (zLead ρ k)))) (s, V) := by
  obtain ⟨n0, n1, c0, c1⟩ := hW.1
  have w := hW.2.2.1 k k0 k1
  have tM := hM.1
  obtain ⟨d, rfl⟩ : ∃ e, d = e + 1 := ⟨d - 1, by omega⟩
  simp (disch := first | assumption | omega) only [zc_195]
  simp (disch := first | assumption | exact zk_195 | ((repeat (first | exact z1n | refine z1I ?_ | refine z1R ?_)); done) | exact rfl | omega | decide) only [zb_195_0, r_iconst, r_istore_2i, r_istore_2r, r_istore_2j, r_istore_3i, r_istore_3r, r_istore_3j, r_goto_w, r_iload_3, r_iload_1, r_icmp_ge, r_aload_0, r_inv_2_0, r_inv_2_1, r_inv_2_2, r_inv_2_3, r_inv_2_4, r_K0, r_K1, r_if_eq, r_icmp_ne, r_if_ne, r_goto, r_iload_2, r_iinc_3i, r_iinc_3r, r_iinc_3j, r_iret, r_bret_0, r_bret_1, ↓reduceIte, not_true_eq_false, not_false_eq_true, Int.reduceEq, Int.reduceLE, Int.reduceLT, Int.reduceAdd, Int.reduceNeg, Int.reduceMul, Int.reduceSub, Int.reduceToNat]
  by_cases q : ρ.K 4 k = 2
  · refine (z_chainI (F := fun j => zwp (zcall d) 195 Q (zB 195 1) [.ref 164, zi k, zi (zHd ρ (ρ.K 0 k) j.toNat), zi j] [] (s, V)) k0 (fun j j0 j1 => ?_)).trans ?_
    · have wj := hW.2.2.1 j j0 (by omega)
      conv => lhs; rw [zb_195_1]
      rw [show (j + 1).toNat = j.toNat + 1 by omega, zHd_s, Int.toNat_of_nonneg j0]
      simp (disch := first | assumption | exact zk_195 | ((repeat (first | exact z1n | refine z1I ?_ | refine z1R ?_)); done) | exact rfl | omega | decide) only [zb_195_2, zb_195_3, zb_195_4, r_iconst, r_istore_2i, r_istore_2r, r_istore_2j, r_istore_3i, r_istore_3r, r_istore_3j, r_goto_w, r_iload_3, r_iload_1, r_icmp_ge, r_aload_0, r_inv_2_0, r_inv_2_1, r_inv_2_2, r_inv_2_3, r_inv_2_4, r_K0, r_K1, r_if_eq, r_icmp_ne, r_if_ne, r_goto, r_iload_2, r_iinc_3i, r_iinc_3r, r_iinc_3j, r_iret, r_bret_0, r_bret_1, m_caller (hC := hC), m_isRepl (hC := hC), q, ↓reduceIte, not_true_eq_false, not_false_eq_true, Int.reduceEq, Int.reduceLE, Int.reduceLT, Int.reduceAdd, Int.reduceNeg, Int.reduceMul, Int.reduceSub, Int.reduceToNat]
      rw [if_neg (by omega : ¬ k ≤ j)]
      by_cases e1 : ρ.K 0 j = ρ.K 0 k
      · rw [if_neg (by omega)]
        by_cases e2 : ρ.K 4 j = 2
        · rw [if_pos e2, if_neg (fun q => q.2 e2)]
        · rw [if_neg e2, if_pos ⟨e1, e2⟩]
      · rw [if_pos e1, if_neg (fun q => e1 q.1)]
    · unfold zLead
      rw [if_pos q]
      simp (disch := first | assumption | exact zk_195 | ((repeat (first | exact z1n | refine z1I ?_ | refine z1R ?_)); done) | exact rfl | omega | decide) only [zb_195_0, zb_195_1, zb_195_2, zb_195_3, zb_195_4, r_iconst, r_istore_2i, r_istore_2r, r_istore_2j, r_istore_3i, r_istore_3r, r_istore_3j, r_goto_w, r_iload_3, r_iload_1, r_icmp_ge, r_aload_0, r_inv_2_0, r_inv_2_1, r_inv_2_2, r_inv_2_3, r_inv_2_4, r_K0, r_K1, r_if_eq, r_icmp_ne, r_if_ne, r_goto, r_iload_2, r_iinc_3i, r_iinc_3r, r_iinc_3j, r_iret, r_bret_0, r_bret_1, Int.le_refl, ↓reduceIte, not_true_eq_false, not_false_eq_true, Int.reduceEq, Int.reduceLE, Int.reduceLT, Int.reduceAdd, Int.reduceNeg, Int.reduceMul, Int.reduceSub, Int.reduceToNat]
  · unfold zLead
    rw [if_neg q]
    simp (disch := first | assumption | exact zk_195 | ((repeat (first | exact z1n | refine z1I ?_ | refine z1R ?_)); done) | exact rfl | omega | decide) only [zb_195_0, zb_195_1, zb_195_2, zb_195_3, zb_195_4, r_iconst, r_istore_2i, r_istore_2r, r_istore_2j, r_istore_3i, r_istore_3r, r_istore_3j, r_goto_w, r_iload_3, r_iload_1, r_icmp_ge, r_aload_0, r_inv_2_0, r_inv_2_1, r_inv_2_2, r_inv_2_3, r_inv_2_4, r_K0, r_K1, r_if_eq, r_icmp_ne, r_if_ne, r_goto, r_iload_2, r_iinc_3i, r_iinc_3r, r_iinc_3j, r_iret, r_bret_0, r_bret_1, m_isRepl (hC := hC), q, ↓reduceIte, not_true_eq_false, not_false_eq_true, Int.reduceEq, Int.reduceLE, Int.reduceLT, Int.reduceAdd, Int.reduceNeg, Int.reduceMul, Int.reduceSub, Int.reduceToNat]
    split <;> rfl
set_option maxRecDepth 20000 in
theorem m_ups (hd : 2 ≤ d) (hM : zMP s V) (hC : zMC ρ V) (hW : zWF ρ) : zcall d 187 [.ref 164] (s, V) Q = Q (.inl (some (zi (zfo (fun x m => m + ρ.S 6 x) 0 ρ.n)))) (s, V) := by
  obtain ⟨n0, n1, c0, c1⟩ := hW.1
  have tM := hM.1
  have vm_s : V 164 0 = .ref 165 := (hM.2 0 (by decide)).1
  have tm_s : s.tg 165 = 20 := (hM.2 0 (by decide)).2.1
  have lm_s : s.ln 165 = 230 := (hM.2 0 (by decide)).2.2
  have e := hC.1
  obtain ⟨d, rfl⟩ : ∃ e, d = e + 1 := ⟨d - 1, by omega⟩
  simp (disch := first | assumption | omega) only [zc_187]
  simp (disch := first | assumption | exact zk_187 | ((repeat (first | exact z1n | refine z1I ?_ | refine z1R ?_)); done) | exact rfl | omega | decide) only [zb_187_0, r_iconst, r_istore_1i, r_istore_1r, r_istore_1j, r_istore_2i, r_istore_2r, r_istore_2j, r_goto_w, r_iload_2, r_aload_0, r_gf_640, r_ial, r_ial30, r_ial32, r_icmp_ge, r_iload_1, r_inv_3_0, r_inv_3_1, r_inv_3_2, r_inv_3_3, r_inv_3_4, r_K0, r_K1, r_iadd, r_iinc_2i, r_iinc_2r, r_iinc_2j, r_goto, r_iret, r_bret_0, r_bret_1, vm_s, ↓reduceIte, not_true_eq_false, not_false_eq_true, Int.reduceEq, Int.reduceLE, Int.reduceLT, Int.reduceAdd, Int.reduceNeg, Int.reduceMul, Int.reduceSub, Int.reduceToNat]
  refine (z_chainI (F := fun k => zwp (zcall d) 187 Q (zB 187 1) [.ref 164, zi (zfo (fun x m => m + ρ.S 6 x) 0 k), zi k] [] (s, V)) n0 (fun k k0 k1 => ?_)).trans ?_
  · conv => lhs; rw [zb_187_1]
    rw [zfo_s k0]
    simp (disch := first | assumption | exact zk_187 | ((repeat (first | exact z1n | refine z1I ?_ | refine z1R ?_)); done) | exact rfl | omega | decide) only [zb_187_2, r_iconst, r_istore_1i, r_istore_1r, r_istore_1j, r_istore_2i, r_istore_2r, r_istore_2j, r_goto_w, r_iload_2, r_aload_0, r_gf_640, r_ial, r_ial30, r_ial32, r_icmp_ge, r_iload_1, r_inv_3_0, r_inv_3_1, r_inv_3_2, r_inv_3_3, r_inv_3_4, r_K0, r_K1, r_iadd, r_iinc_2i, r_iinc_2r, r_iinc_2j, r_goto, r_iret, r_bret_0, r_bret_1, vm_s, e, m_of (hC := hC), ↓reduceIte, not_true_eq_false, not_false_eq_true, Int.reduceEq, Int.reduceLE, Int.reduceLT, Int.reduceAdd, Int.reduceNeg, Int.reduceMul, Int.reduceSub, Int.reduceToNat]
    rw [if_neg (by omega : ¬ ρ.n ≤ k)]
  · simp (disch := first | assumption | exact zk_187 | ((repeat (first | exact z1n | refine z1I ?_ | refine z1R ?_)); done) | exact rfl | omega | decide) only [zb_187_0, zb_187_1, zb_187_2, r_iconst, r_istore_1i, r_istore_1r, r_istore_1j, r_istore_2i, r_istore_2r, r_istore_2j, r_goto_w, r_iload_2, r_aload_0, r_gf_640, r_ial, r_ial30, r_ial32, r_icmp_ge, r_iload_1, r_inv_3_0, r_inv_3_1, r_inv_3_2, r_inv_3_3, r_inv_3_4, r_K0, r_K1, r_iadd, r_iinc_2i, r_iinc_2r, r_iinc_2j, r_goto, r_iret, r_bret_0, r_bret_1, vm_s, e, Int.le_refl, ↓reduceIte, not_true_eq_false, not_false_eq_true, Int.reduceEq, Int.reduceLE, Int.reduceLT, Int.reduceAdd, Int.reduceNeg, Int.reduceMul, Int.reduceSub, Int.reduceToNat]
end
