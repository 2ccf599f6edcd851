/-! more words by their places; written by wip/whole/gen_names2.py -/
def zIs : List (Nat) := [(0), (1), (2), (3), (4), (5), (7), (8), (9), (10)]
def zIsp : List Nat := [152, 182, 87, 70, 162, 111, 31, 202, 23, 1123]
theorem zIs_c : zPl zIs zIsp (fun e => .instantiable (zCn e) (zNf e)) = true := by decide +kernel
theorem zIs_ok : ∀ e ∈ zIs, ((fun e => .instantiable (zCn e) (zNf e))) e ∈ zGood := zPl_ok zIs_c
def zIc : List (Nat) := [(0), (1), (2), (3), (4), (5), (7), (8), (9), (10)]
def zIcp : List Nat := [7, 9, 4, 3, 8, 6, 2, 10, 1, 11]
theorem zIc_c : zPl zIc zIcp (fun e => .initialized (zCn e)) = true := by decide +kernel
theorem zIc_ok : ∀ e ∈ zIc, ((fun e => .initialized (zCn e))) e ∈ zGood := zPl_ok zIc_c
theorem zFL_rng : ∀ e ∈ zFL, e.2.2 / 64 < 11 ∧ e.2.2 / 64 ≠ 6 ∧ e.2.2 % 64 < zNf (e.2.2 / 64) := by decide +kernel
theorem zCL_rng : ∀ e ∈ zCL, e.2.2 < 11 ∧ e.2.2 ∈ zIs ∧ e.2.2 ∈ zIc := by decide +kernel
theorem zSF_rng : ∀ e ∈ zSF, e.2.2 < 4 := by decide +kernel
theorem zMA_rng : ∀ e ∈ zMA, e.2.2 = 0 ∨ e.2.2 = 1 := by decide +kernel
theorem zDf_ok : ∀ t, t < 11 → ∀ k : Nat, k < zNf t → defaultValue (zFt t k) = zDf t k ∧ (zDf t k = .null ∨ zDf t k = .int 0 ∨ zDf t k = .long 0) := by decide +kernel
theorem zTy_ok : ∀ t, t < 11 → ∀ k : Nat, k < zNf t → (zTy (64 * t + k) = 1 ∧ zFt t k = .int) ∨ (zTy (64 * t + k) = 2 ∧ zFt t k = .boolean) ∨ (zTy (64 * t + k) = 3 ∧ zFt t k = .long) ∨ (zTy (64 * t + k) = 5 ∧ (zFt t k).isReference = true) := by decide +kernel
theorem zw_acN : (.native zAcN : Cond) ∈ zGood := zg_t 324 (by decide +kernel) rfl
theorem zw_acS : (.static zAcN : Cond) ∈ zGood := zg_t 323 (by decide +kernel) rfl
theorem zw_acI : (.initialized "java/lang/System" : Cond) ∈ zGood := zg_t 18 (by decide +kernel) rfl
theorem zw_frN : (.native zFrN : Cond) ∈ zGood := zg_t 1658 (by decide +kernel) rfl
theorem zw_frS : (.static zFrN : Cond) ∈ zGood := zg_t 1657 (by decide +kernel) rfl
theorem zw_frI : (.initialized "java/lang/Float" : Cond) ∈ zGood := zg_t 21 (by decide +kernel) rfl
theorem zw_oiI : (.instanceMethod Lib.objectInit : Cond) ∈ zGood := zg_t 28 (by decide +kernel) rfl
theorem zw_oiC : (.code Lib.objectInit ⟨#[0xb1]⟩ 1 none : Cond) ∈ zGood := zg_t 29 rfl rfl
theorem zw_aI : (.arrayClass .int : Cond) ∈ zGood := zg_t 68 (by decide +kernel) rfl
theorem zw_aJ : (.arrayClass .long : Cond) ∈ zGood := zg_t 199 (by decide +kernel) rfl
theorem zw_aD : (.arrayClass .double : Cond) ∈ zGood := zg_t 200 (by decide +kernel) rfl
theorem zw_aZ : (.arrayClass .boolean : Cond) ∈ zGood := zg_t 1261 (by decide +kernel) rfl
theorem zTx_own : ∀ t, t < 11 → ∀ k, k < zNf t → (zTx t k).2.2.2 = true → (zTx t k).1 = zCn t := by decide +kernel
theorem zNatC : ∀ e ∈ zIsp, e < 1712 := by decide +kernel
