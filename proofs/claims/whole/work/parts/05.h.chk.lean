def zAllM : List Nat := ([0, 1, 2, 3, 4, 5, 6, 7, 8, 9, 10, 11, 12, 13, 14, 15, 16, 17, 18] : List Nat) ++ ([19, 20, 21, 22, 23, 24, 25, 26, 27, 28, 29, 30, 31, 32, 33, 34, 35, 36, 37, 38] : List Nat) ++ ([39, 40, 41, 42, 43, 44, 45, 46, 47, 48, 49, 50, 51, 52, 53, 54, 55, 56] : List Nat) ++ ([57, 58, 59, 60, 61, 62, 63, 64, 65, 66, 67, 68, 69, 70, 71, 72, 73, 74, 75] : List Nat) ++ ([76, 77, 78, 79, 80, 81, 82, 83, 84, 85, 86, 87, 88, 89, 90, 91, 92, 93, 94, 95, 96, 97, 98, 99, 100, 101, 102, 103] : List Nat) ++ ([104, 105, 106, 107, 108, 109, 110, 111, 112, 113, 114, 115, 116, 117, 118, 119, 120, 121, 122, 123, 124, 125, 126, 127, 128, 129, 130] : List Nat) ++ ([131, 132, 133, 134, 135, 136, 137, 138, 139, 140, 141, 142, 143, 144, 145, 146, 147, 148, 149, 150, 151, 152, 153, 154, 155, 157] : List Nat) ++ ([158, 159, 160, 161, 162, 163, 164, 165, 166, 167, 168, 169, 170, 171, 172, 173, 174, 175, 176, 177, 178, 179, 180, 181, 182] : List Nat) ++ ([183, 184, 185, 186, 187, 188, 189, 190, 191, 192, 193, 194, 195, 196, 197, 198, 199, 200, 201, 202] : List Nat) ++ ([203, 204, 205, 206, 207, 208, 209, 210, 211, 212, 213, 214] : List Nat) ++ ([215, 216, 217, 218, 219, 220, 221, 222, 223, 224, 225] : List Nat) ++ ([226, 227, 228, 229, 230, 231, 232, 233, 234, 235, 236, 237, 238, 239] : List Nat) ++ ([240, 241, 242, 243, 244, 245, 246, 247, 248, 249, 250, 251, 252, 253, 254] : List Nat) ++ ([255, 256, 257, 258, 259, 260, 261, 262, 263, 264, 265, 266, 267, 268] : List Nat) ++ ([269, 270, 271, 272, 273, 274, 275, 276, 277, 278, 279, 280, 281, 282, 283, 284, 285, 286, 287, 288, 289, 290, 291, 292, 293, 294, 295, 296, 297, 298, 300, 301] : List Nat) ++ ([302, 303, 304, 305, 306] : List Nat)
theorem zOk_all : ∀ m ∈ zAllM, zOkM m = true := List.forall_mem_append.mpr ⟨List.forall_mem_append.mpr ⟨List.forall_mem_append.mpr ⟨List.forall_mem_append.mpr ⟨List.forall_mem_append.mpr ⟨List.forall_mem_append.mpr ⟨List.forall_mem_append.mpr ⟨List.forall_mem_append.mpr ⟨List.forall_mem_append.mpr ⟨List.forall_mem_append.mpr ⟨List.forall_mem_append.mpr ⟨List.forall_mem_append.mpr ⟨List.forall_mem_append.mpr ⟨List.forall_mem_append.mpr ⟨List.forall_mem_append.mpr ⟨zOk_0, zOk_1⟩, zOk_2⟩, zOk_3⟩, zOk_4⟩, zOk_5⟩, zOk_6⟩, zOk_7⟩, zOk_8⟩, zOk_9⟩, zOk_10⟩, zOk_11⟩, zOk_12⟩, zOk_13⟩, zOk_14⟩, zOk_15⟩
theorem zAllM_in : ∀ m, m < 307 → m ≠ 299 → m ≠ 156 → m ∈ zAllM := by decide +kernel
theorem zOkL_at : ∀ l : Nat, l < 108 → zChk 299 (zPc 299 l) (zB 299 l) = true := by
  intro l hl
  have key : ∀ a n : Nat, zOkL a n = true → ∀ l, a ≤ l → l < a + n → zChk 299 (zPc 299 l) (zB 299 l) = true := by
    intro a n h l h1 h2
    have := List.all_eq_true.mp h l (List.mem_map.mpr ⟨l - a, List.mem_range.mpr (by omega), by omega⟩)
    exact this
  rcases (by omega : (0 ≤ l ∧ l < 0 + 12) ∨ (12 ≤ l ∧ l < 12 + 12) ∨ (24 ≤ l ∧ l < 24 + 12) ∨ (36 ≤ l ∧ l < 36 + 12) ∨ (48 ≤ l ∧ l < 48 + 12) ∨ (60 ≤ l ∧ l < 60 + 2) ∨ (62 ≤ l ∧ l < 62 + 2) ∨ (64 ≤ l ∧ l < 64 + 2) ∨ (66 ≤ l ∧ l < 66 + 2) ∨ (68 ≤ l ∧ l < 68 + 2) ∨ (70 ≤ l ∧ l < 70 + 2) ∨ (72 ≤ l ∧ l < 72 + 2) ∨ (74 ≤ l ∧ l < 74 + 2) ∨ (76 ≤ l ∧ l < 76 + 2) ∨ (78 ≤ l ∧ l < 78 + 2) ∨ (80 ≤ l ∧ l < 80 + 2) ∨ (82 ≤ l ∧ l < 82 + 2) ∨ (84 ≤ l ∧ l < 84 + 2) ∨ (86 ≤ l ∧ l < 86 + 2) ∨ (88 ≤ l ∧ l < 88 + 2) ∨ (90 ≤ l ∧ l < 90 + 2) ∨ (92 ≤ l ∧ l < 92 + 2) ∨ (94 ≤ l ∧ l < 94 + 2) ∨ (96 ≤ l ∧ l < 96 + 2) ∨ (98 ≤ l ∧ l < 98 + 2) ∨ (100 ≤ l ∧ l < 100 + 2) ∨ (102 ≤ l ∧ l < 102 + 2) ∨ (104 ≤ l ∧ l < 104 + 2) ∨ (106 ≤ l ∧ l < 106 + 2)) with h | h | h | h | h | h | h | h | h | h | h | h | h | h | h | h | h | h | h | h | h | h | h | h | h | h | h | h | h
  · exact key 0 12 zOkL_0 l h.1 h.2
  · exact key 12 12 zOkL_1 l h.1 h.2
  · exact key 24 12 zOkL_2 l h.1 h.2
  · exact key 36 12 zOkL_3 l h.1 h.2
  · exact key 48 12 zOkL_4 l h.1 h.2
  · exact key 60 2 zOkL_5 l h.1 h.2
  · exact key 62 2 zOkL_6 l h.1 h.2
  · exact key 64 2 zOkL_7 l h.1 h.2
  · exact key 66 2 zOkL_8 l h.1 h.2
  · exact key 68 2 zOkL_9 l h.1 h.2
  · exact key 70 2 zOkL_10 l h.1 h.2
  · exact key 72 2 zOkL_11 l h.1 h.2
  · exact key 74 2 zOkL_12 l h.1 h.2
  · exact key 76 2 zOkL_13 l h.1 h.2
  · exact key 78 2 zOkL_14 l h.1 h.2
  · exact key 80 2 zOkL_15 l h.1 h.2
  · exact key 82 2 zOkL_16 l h.1 h.2
  · exact key 84 2 zOkL_17 l h.1 h.2
  · exact key 86 2 zOkL_18 l h.1 h.2
  · exact key 88 2 zOkL_19 l h.1 h.2
  · exact key 90 2 zOkL_20 l h.1 h.2
  · exact key 92 2 zOkL_21 l h.1 h.2
  · exact key 94 2 zOkL_22 l h.1 h.2
  · exact key 96 2 zOkL_23 l h.1 h.2
  · exact key 98 2 zOkL_24 l h.1 h.2
  · exact key 100 2 zOkL_25 l h.1 h.2
  · exact key 102 2 zOkL_26 l h.1 h.2
  · exact key 104 2 zOkL_27 l h.1 h.2
  · exact key 106 2 zOkL_28 l h.1 h.2
/-- each block of each method stands in the code -/
theorem zChk_ok {m : Nat} (hm : m < 307) (hr : m ≠ 156) (l : Int) : zChk m (zPc m l) (zB m l) = true := by
  have key : ∀ k : Nat, (∀ n : Nat, n < (zTab.getD m []).length → zChk m (zPc m n) (zB m n) = true) → zChk m (zPc m k) (zB m k) = true := by
    intro k h
    by_cases hk : k < (zTab.getD m []).length
    · exact h k hk
    · have e : zB m k = [] := by
        unfold zB
        rw [List.getD_eq_getElem?_getD, List.getElem?_eq_none (by simpa using hk)]
        rfl
      rw [e]
      rfl
  have e1 : zPc m l = zPc m (l.toNat : Int) := by unfold zPc; rw [Int.toNat_natCast]
  have e2 : zB m l = zB m (l.toNat : Int) := by unfold zB; rw [Int.toNat_natCast]
  rw [e1, e2]
  refine key l.toNat ?_
  by_cases hl : m = 299
  · subst hl
    exact zOkL_at
  · have h := zOk_all m (zAllM_in m hm hl hr)
    intro n hn
    exact List.all_eq_true.mp h n (List.mem_range.mpr hn)
