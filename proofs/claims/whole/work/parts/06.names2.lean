/-! more words by their places; written by wip/whole/gen_names2.py -/
def zIs : List (Nat) := [(0), (1), (2), (3), (4), (5), (7), (8), (9), (10)]
def zIsp : List Nat := [152, 182, 87, 70, 162, 111, 31, 202, 23, 1123]
theorem zIs_c : zPl zIs zIsp (fun e => .instantiable (zCn e) (zNf e)) = true := by decide +kernel
theorem zIs_ok : ∀ e ∈ zIs, ((fun e => .instantiable (zCn e) (zNf e))) e ∈ zGood := zPl_ok zIs_c
def zIc : List (Nat) := [(0), (1), (2), (3), (4), (5), (7), (8), (9), (10)]
def zIcp : List Nat := [7, 9, 4, 3, 8, 6, 2, 10, 1, 11]
theorem zIc_c : zPl zIc zIcp (fun e => .initialized (zCn e)) = true := by decide +kernel
theorem zIc_ok : ∀ e ∈ zIc, ((fun e => .initialized (zCn e))) e ∈ zGood := zPl_ok zIc_c
theorem zFL_rng : ∀ e ∈ zFL, e.2.2 / 64 < 11 ∧ e.2.2 / 64 ≠ 6 ∧ e.2.2 % 64 < zNf (e.2.2 / 64) := by decide +kernel
theorem zCL_rng : ∀ e ∈ zCL, e.2.2 < 11 ∧ e.2.2 ∈ zIs ∧ e.2.2 ∈ zIc := by decide +kernel
theorem zSF_rng : ∀ e ∈ zSF, e.2.2 < 4 := by decide +kernel
theorem zMA_rng : ∀ e ∈ zMA, e.2.2 = 0 ∨ e.2.2 = 1 := by decide +kernel
theorem zDf_ok : ∀ t, t < 11 → ∀ k : Nat, k < zNf t → defaultValue (zFt t k) = zDf t k ∧ (zDf t k = .null ∨ zDf t k = .int 0 ∨ zDf t k = .long 0) := by decide +kernel
theorem zTy_ok : ∀ t, t < 11 → ∀ k : Nat, k < zNf t → (zTy (64 * t + k) = 1 ∧ zFt t k = .int) ∨ (zTy (64 * t + k) = 2 ∧ zFt t k = .boolean) ∨ (zTy (64 * t + k) = 3 ∧ zFt t k = .long) ∨ (zTy (64 * t + k) = 5 ∧ (zFt t k).isReference = true) := by decide +kernel
theorem zw_acN : (.native zAcN : Cond) ∈ zGood := zg_t 324 (by decide +kernel) rfl
theorem zw_acS : (.static zAcN : Cond) ∈ zGood := zg_t 323 (by decide +kernel) rfl
theorem zw_acI : (.initialized "java/lang/System" : Cond) ∈ zGood := zg_t 18 (by decide +kernel) rfl
theorem zw_frN : (.native zFrN : Cond) ∈ zGood := zg_t 1658 (by decide +kernel) rfl
theorem zw_frS : (.static zFrN : Cond) ∈ zGood := zg_t 1657 (by decide +kernel) rfl
theorem zw_frI : (.initialized "java/lang/Float" : Cond) ∈ zGood := zg_t 21 (by decide +kernel) rfl
theorem zw_oiI : (.instanceMethod Lib.objectInit : Cond) ∈ zGood := zg_t 28 (by decide +kernel) rfl
theorem zw_oiC : (.code Lib.objectInit ⟨#[0xb1]⟩ 1 none : Cond) ∈ zGood := zg_t 29 rfl rfl
theorem zw_aI : (.arrayClass .int : Cond) ∈ zGood := zg_t 68 (by decide +kernel) rfl
theorem zw_aJ : (.arrayClass .long : Cond) ∈ zGood := zg_t 199 (by decide +kernel) rfl
theorem zw_aD : (.arrayClass .double : Cond) ∈ zGood := zg_t 200 (by decide +kernel) rfl
theorem zw_aZ : (.arrayClass .boolean : Cond) ∈ zGood := zg_t 1261 (by decide +kernel) rfl
theorem zTx_own : ∀ t, t < 11 → ∀ k, k < zNf t → (zTx t k).2.2.2 = true → (zTx t k).1 = zCn t := by decide +kernel
def zEn (k : Nat) : String := ["", "java/lang/IndexOutOfBoundsException", "java/lang/IllegalArgumentException", "java/lang/IllegalStateException"].getD k ""
def zCk : List (Nat × Nat) := [(13, 2), (15, 3), (21, 1)]
def zCkp : List Nat := [571, 572, 685]
theorem zCk_c : zPl zCk zCkp (fun e => .classLink (zCn 11) e.1 (zEn e.2)) = true := by decide +kernel
theorem zCk_ok : ∀ e ∈ zCk, ((fun e => .classLink (zCn 11) e.1 (zEn e.2))) e ∈ zGood := zPl_ok zCk_c
/-- which exception each handler takes -/
def zHkT : List (List Nat) := [[], [], [], [], [], [], [], [], [], [], [], [], [], [], [], [], [], [], [], [], [], [], [], [], [], [], [], [], [], [], [], [], [], [], [], [], [], [], [], [], [], [], [], [], [], [], [], [], [], [], [], [], [], [], [], [], [], [], [], [], [], [], [], [], [], [], [], [], [], [], [], [], [], [], [], [], [], [], [], [], [], [], [], [], [], [], [], [], [], [], [], [], [], [], [], [], [], [], [], [], [], [], [], [], [], [], [], [], [], [], [], [], [], [], [], [], [], [], [], [], [], [], [], [], [], [], [], [], [], [], [], [], [], [], [], [], [], [], [], [], [], [], [], [], [], [], [], [], [], [], [], [], [], [], [], [], [], [], [], [], [], [], [], [], [], [], [], [], [], [], [], [], [], [], [], [], [], [], [], [], [], [], [], [], [], [], [], [], [], [], [], [], [], [], [], [], [], [], [], [], [], [], [], [], [], [], [], [], [], [], [], [], [], [], [], [], [], [], [], [], [], [], [], [], [], [], [], [], [], [], [], [], [], [], [], [], [], [], [], [], [], [], [], [], [], [], [], [], [], [], [], [], [], [], [], [], [], [], [], [], [], [], [], [], [], [], [], [], [], [], [2, 3], [1, 2, 3], [1, 3], [1, 2], [1, 2], [1, 2], [1, 2], [1], [1], [1, 2], [2, 3], [2], [2], [1], [1], [1, 3], [1, 3], [2], [1, 3], [1, 3], [2], [2, 1], [1, 2], [1, 2], [1, 2], [1], [1], [2, 3], [3], [], [], [], [], [], [], [], []]
def zHk (m : Nat) : List Nat := zHkT.getD m []
def zHsp : List ((Nat × Nat × Nat × Nat) × Nat) → Nat → Nat → Bool
  | [], _, _ => false
  | (x, k') :: r, k, pc => if k' = k then x.2.2.1 == pc && x.2.2.2 != 0 && zCk.contains (x.2.2.2, k) else decide (1 ≤ k') && decide (k' ≤ 3) && x.2.2.2 != 0 && zCk.contains (x.2.2.2, k') && zHsp r k pc
theorem zHsp_ok : ∀ (es : List ((Nat × Nat × Nat × Nat) × Nat)) (k pc : Nat), zHsp es k pc = true → ∃ pre x suf, es.map (fun q => q.1) = pre ++ x :: suf ∧ (∀ z ∈ pre, z.2.2.2 ≠ 0 ∧ ∃ k', k' ≠ k ∧ 1 ≤ k' ∧ k' ≤ 3 ∧ (z.2.2.2, k') ∈ zCk) ∧ x.2.2.1 = pc ∧ x.2.2.2 ≠ 0 ∧ (x.2.2.2, k) ∈ zCk
  | [], _, _, h => by cases h
  | (x, k') :: r, k, pc, h => by
    unfold zHsp at h
    by_cases e : k' = k
    · rw [if_pos e] at h
      simp only [Bool.and_eq_true, beq_iff_eq, bne_iff_ne, List.contains_iff_mem] at h
      exact ⟨[], x, r.map (fun q => q.1), rfl, fun _ q => (nomatch q), h.1.1, h.1.2, h.2⟩
    · rw [if_neg e] at h
      simp only [Bool.and_eq_true, decide_eq_true_eq, bne_iff_ne, List.contains_iff_mem] at h
      obtain ⟨pre, y, suf, h1, h2, h3⟩ := zHsp_ok r k pc h.2
      refine ⟨x :: pre, y, suf, by rw [List.map_cons, h1]; rfl, fun z hz => ?_, h3⟩
      rcases List.mem_cons.mp hz with rfl | hz
      · exact ⟨h.1.1.2, k', e, h.1.1.1.1, h.1.1.1.2, h.1.2⟩
      · exact h2 z hz
def zHcB (m : Nat) : Bool := (zHh m).length == (zHk m).length && [1, 2, 3].all (fun k => match zE m k with
  | none => true
  | some lb => zOw m == 11 && zHsp ((zHh m).zip (zHk m)) k (zPc m lb))
theorem zHc_c : ∀ m, m < 307 → zHcB m = true := by decide +kernel
theorem zE_rng : ∀ e ∈ zEx, 1 ≤ e.2.1 ∧ e.2.1 ≤ 3 := by decide +kernel
theorem zE_13 {m k : Nat} {lb : Int} (h : zE m k = some lb) : 1 ≤ k ∧ k ≤ 3 := by
  unfold zE at h
  cases hf : zEx.find? (fun q => q.1 == m && q.2.1 == k) with
  | none => rw [hf] at h; cases h
  | some q =>
    have h1 := List.find?_some hf
    have h2 := List.mem_of_find?_eq_some hf
    simp only [Bool.and_eq_true, beq_iff_eq] at h1
    have := zE_rng q h2
    rw [h1.2] at this
    exact this
theorem zHc_ok {m k : Nat} {lb : Int} (hm : m < 307) (h : zE m k = some lb) : zOw m = 11 ∧ ∃ pre x suf, zHh m = pre ++ x :: suf ∧ (∀ z ∈ pre, z.2.2.2 ≠ 0 ∧ ∃ k', k' ≠ k ∧ 1 ≤ k' ∧ k' ≤ 3 ∧ (z.2.2.2, k') ∈ zCk) ∧ x.2.2.1 = zPc m lb ∧ x.2.2.2 ≠ 0 ∧ (x.2.2.2, k) ∈ zCk := by
  have h1 := zHc_c m hm
  have hk := zE_13 h
  unfold zHcB at h1
  rw [Bool.and_eq_true] at h1
  have h2 := List.all_eq_true.mp h1.2 k (by rcases (by omega : k = 1 ∨ k = 2 ∨ k = 3) with rfl | rfl | rfl <;> decide)
  rw [h] at h2
  simp only [Bool.and_eq_true, beq_iff_eq] at h2
  obtain ⟨pre, x, suf, q1, q2⟩ := zHsp_ok _ _ _ h2.2
  have e : ((zHh m).zip (zHk m)).map (fun q => q.1) = zHh m := List.map_fst_zip (by have := h1.1; simp only [beq_iff_eq] at this; omega)
  rw [e] at q1
  exact ⟨h2.1, pre, x, suf, q1, q2⟩
theorem zIV_f : ∀ e ∈ zIV, e.2.2 < 307 ∧ e.2.2 ∈ zMc ∧ e.2.2 ∈ zMi ∧ e.2.2 ∈ zMn ∧ zHh e.2.2 = [] ∧ zKd e.2.2 = 2 ∧ zRcT.getD e.2.2 99 = zOw e.2.2 ∧ zOw e.2.2 < 11 ∧ zOw e.2.2 ≠ 6 ∧ e.2.2 ≠ zRef := by decide +kernel
theorem zIS_f : ∀ e ∈ zIS, e.2.2 < 307 ∧ e.2.2 ∈ zMc ∧ e.2.2 ∈ zMi ∧ e.2.2 ∈ zMs ∧ zHh e.2.2 = [] ∧ zKd e.2.2 = 0 := by decide +kernel
theorem zISU_f : ∀ e ∈ zISU, e.2.2 < 307 ∧ e.2.2 ∈ zMc ∧ e.2.2 ∈ zMi ∧ e.2.2 ∈ zMs ∧ zHh e.2.2 = [] ∧ zKd e.2.2 = 0 ∧ zOw e.2.2 = 6 ∧ e.2.2 ≠ zRef := by decide +kernel
theorem zISN_f : ∀ e ∈ zISN, e.2.2 < 307 ∧ e.2.2 ∈ zMc ∧ e.2.2 ∈ zMi ∧ e.2.2 ∈ zMs ∧ zHh e.2.2 = [] ∧ zKd e.2.2 = 0 ∧ e.2.2 ≠ zRef := by decide +kernel
theorem zIW_f : ∀ e ∈ zIW, e.2.2 < 307 ∧ e.2.2 ∈ zMc ∧ e.2.2 ∈ zMi ∧ e.2.2 ∈ zMs ∧ zHh e.2.2 ≠ [] ∧ zKd e.2.2 = 0 ∧ e.2.2 ≠ zRef := by decide +kernel
theorem zIU_f : ∀ e ∈ zIU, e.2.2 < 307 ∧ e.2.2 ∈ zMc ∧ e.2.2 ∈ zMi ∧ e.2.2 ∈ zMn ∧ zHh e.2.2 = [] ∧ zKd e.2.2 = 2 ∧ (zRcT.getD e.2.2 99 = 6 ∨ zRcT.getD e.2.2 99 = 0 ∨ zRcT.getD e.2.2 99 = 5) ∧ zOw e.2.2 = 6 ∧ e.2.2 ≠ zRef := by decide +kernel
theorem zIU_k : ∀ e ∈ zIU, (e.1 = 6 ∧ (e.2.2 = 63 ∨ e.2.2 = 64) ∧ zRcT.getD e.2.2 99 = 6) ∨ (zRcT.getD e.2.2 99 = e.1 ∧ (e.1, e.2.2) ∈ zIUl) := by decide +kernel
theorem zIU_sel {e : Nat × Nat × Nat} (he : e ∈ zIU) {t : Nat} (h1 : zRcT.getD e.2.2 99 = 6 → t = 0 ∨ t = 5) (h2 : zRcT.getD e.2.2 99 ≠ 6 → t = zRcT.getD e.2.2 99) : Cond.selects (zCn t) (zXn e.1 e.2.2) (zYn e.2.2) ∈ zGood := by
  rcases zIU_k e he with ⟨a, b, c⟩ | ⟨a, b⟩
  · have e6 : zXn e.1 e.2.2 = zYn e.2.2 := by
      rw [a]
      rcases b with b | b <;> rw [b] <;> rfl
    rw [e6]
    rcases b with b | b <;> rcases h1 c with q | q <;> rw [b, q]
    · exact zg_x 0 rfl (by decide +kernel)
    · exact zg_x 1 rfl (by decide +kernel)
    · exact zg_x 2 rfl (by decide +kernel)
    · exact zg_x 3 rfl (by decide +kernel)
  · have hne : zRcT.getD e.2.2 99 ≠ 6 := by
      rw [a]
      intro q
      rw [q] at b
      revert b
      exact fun b => by
        have : ∀ x ∈ zIUl, x.1 ≠ 6 := by decide
        exact this _ b rfl
    rw [h2 hne, a]
    exact zIUl_ok _ b
theorem zIIN_f : ∀ e ∈ zIIN, e.2.2 < 307 ∧ e.2.2 ∈ zMc ∧ e.2.2 ∈ zMi ∧ e.2.2 ∈ zMn ∧ zHh e.2.2 = [] ∧ zKd e.2.2 = 1 ∧ e.2.2 ≠ zRef ∧ zRk e.2.2 = 0 := by decide +kernel
theorem zII_f : ∀ e ∈ zII, e.2.2 < 307 ∧ e.2.2 ∈ zMc ∧ e.2.2 ∈ zMi ∧ e.2.2 ∈ zMn ∧ zHh e.2.2 = [] ∧ zKd e.2.2 = 1 ∧ e.2.2 ≠ zRef ∧ zRk e.2.2 = 0 := by decide +kernel
theorem zID_f : ∀ e ∈ zID, e.1 = 6 ∧ e.2.2 < 3 := by decide +kernel
theorem zIDl_f : ∀ e ∈ zIDl, e.2.2 < 307 ∧ e.2.2 ∈ zMc ∧ e.2.2 ∈ zMi ∧ e.2.2 ∈ zMn ∧ zHh e.2.2 = [] ∧ zKd e.2.2 = 2 ∧ e.2.2 ≠ zRef ∧ zOw e.2.2 = e.2.1 ∧ (e.2.1 = 0 ∨ e.2.1 = 5) ∧ zNa e.2.2 = [6, 5, 1].getD e.1 0 := by decide +kernel
theorem zDispT_l : ∀ q ∈ zDispT, (q.1, q.2.1, q.2.2) ∈ zIDl := by decide +kernel
theorem zDy_f : ∀ k, k < 3 → (zDy k).cls = zCn 6 ∧ (zDy k) = ⟨zCn 6, (zDy k).name, (zDy k).desc⟩ ∧ (parseMethodDescriptor (zDy k).desc).map (fun d => d.parameters.length) = some ([6, 5, 1].getD k 0 - 1) := by decide +kernel
theorem zCn6 : zCn 6 ≠ "java/lang/invoke/MethodHandle" ∧ zCn 6 ≠ "java/lang/invoke/VarHandle" := by decide
theorem zNatC : ∀ e ∈ zIsp, e < 1712 := by decide +kernel
