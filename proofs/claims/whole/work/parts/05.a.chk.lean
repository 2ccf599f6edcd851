/-! THE CHECK OF THE CODE: each block of the abstract program is what the class files hold at its pc; written by wip/whole/gen_chk.py -/
def zn4 (f : Fin 4 → Instr) (k : Nat) : List (Instr × Nat) := if h : k < 4 then [(f ⟨k, h⟩, 1)] else []
def zPk {α : Type} (T : List α) (p : α → Bool) (f : α → Instr × Nat) : List (Instr × Nat) := (T.filter p).map f
def zOff (m pc : Nat) (l : Int) : Int := (zPc m l : Int) - pc
def zKeys (lo : Int) : Nat → List Int
  | 0 => []
  | n + 1 => lo :: zKeys (lo + 1) n
def zFinal (n : Nat) : Bool := (zTx (n / 64) (n % 64)).2.2.2
/-- the instructions of the machine that an abstract one may stand for, with their lengths -/
def zAlt (m pc : Nat) (i : Instr) : List (Instr × Nat) := match i with
  | .iload k => (.iload k, 2) :: zn4 .iload_n k
  | .lload k => (.lload k, 2) :: zn4 .lload_n k
  | .dload k => (.dload k, 2) :: zn4 .dload_n k
  | .fload k => (.fload k, 2) :: zn4 .fload_n k
  | .aload k => (.aload k, 2) :: zn4 .aload_n k
  | .istore k => (.istore k, 2) :: zn4 .istore_n k
  | .lstore k => (.lstore k, 2) :: zn4 .lstore_n k
  | .dstore k => (.dstore k, 2) :: zn4 .dstore_n k
  | .astore k => (.astore k, 2) :: zn4 .astore_n k
  | .iinc k n => [(.iinc k n, 3)]
  | .iconst n => (if -1 ≤ n ∧ n ≤ 5 then [(.iconst n, 1)] else []) ++ ((if -128 ≤ n ∧ n < 128 then [(.bipush n, 2)] else []) ++ ((if -32768 ≤ n ∧ n < 32768 then [(.sipush n, 3)] else []) ++ (zPk zKI (fun e => e.1 == zOw m && e.2.2 == n) (fun e => (.ldc e.2.1, 2)) ++ zPk zKI (fun e => e.1 == zOw m && e.2.2 == n) (fun e => (.ldc_w e.2.1, 3)))))
  | .jsr_w n => (if n = 0 then [(.lconst 0, 1)] else []) ++ ((if n = 1 then [(.lconst 1, 1)] else []) ++ zPk zKL (fun e => e.1 == zOw m && e.2.2 == n) (fun e => (.ldc2_w e.2.1, 3)))
  | .jsr n => (if n = 0 then [(.dconst 0, 1)] else []) ++ ((if n = 4607182418800017408 then [(.dconst 1, 1)] else []) ++ zPk zKD (fun e => e.1 == zOw m && e.2.2 == n) (fun e => (.ldc2_w e.2.1, 3)))
  | .pop => [(.pop, 1)]
  | .monitorexit => zPk zOI (fun e => e.1 == zOw m) (fun e => (.invokespecial e.2, 3))
  | .pop2 => zPk zAC (fun e => e.1 == zOw m) (fun e => (.invokestatic e.2, 3))
  | .f2i => zPk zFR (fun e => e.1 == zOw m) (fun e => (.invokestatic e.2, 3))
  | .goto l => [(.goto (zOff m pc l), 3)]
  | .ifCond c l => [(.ifCond c (zOff m pc l), 3)]
  | .if_icmp c l => [(.if_icmp c (zOff m pc l), 3)]
  | .lookupswitch d ps => (.lookupswitch (zOff m pc d) (ps.map (fun q => (q.1, zOff m pc q.2))), 1 + (3 - pc % 4) + 8 + 8 * ps.size) ::
      (match ps.toList with
        | [] => []
        | q :: r => if ps.toList.map (fun q => q.1) = zKeys q.1 ps.size then [(.tableswitch (zOff m pc d) q.1 (q.1 + (ps.size : Int) - 1) (ps.map (fun q => zOff m pc q.2)), 1 + (3 - pc % 4) + 12 + 4 * ps.size)] else [])
  | .getfield n => zPk zFL (fun e => e.1 == zOw m && e.2.2 == n) (fun e => (.getfield e.2.1, 3))
  | .putfield n => if zFinal n = true ∧ ¬ (zKd m = 1 ∧ zOw m = n / 64) then [] else zPk zFL (fun e => e.1 == zOw m && e.2.2 == n) (fun e => (.putfield e.2.1, 3))
  | .getstatic n => zPk zSF (fun e => e.1 == zOw m && e.2.2 == n) (fun e => (.getstatic e.2.1, 3))
  | .new t => zPk zCL (fun e => e.1 == zOw m && e.2.2 == t) (fun e => (.new e.2.1, 3))
  | .newarray t => if zAt t = 99 then [] else [(.newarray t, 2)]
  | .anewarray _ => zPk zCL (fun e => e.1 == zOw m && e.2.2 == 7) (fun e => (.anewarray e.2.1, 3))
  | .multianewarray t _ => zPk zMA (fun e => e.1 == zOw m && e.2.2 == t) (fun e => (.multianewarray e.2.1 2, 4))
  | .invokeinterface y n => if n = zNa y ∧ y < 307 then zPk zIV (fun e => e.1 == zOw m && e.2.2 == y) (fun e => (.invokevirtual e.2.1, 3)) ++ (zPk zIU (fun e => e.1 == zOw m && e.2.2 == y) (fun e => (.invokevirtual e.2.1, 3)) ++ (zPk zIS (fun e => e.1 == zOw m && e.2.2 == y) (fun e => (.invokestatic e.2.1, 3)) ++ (zPk zISU (fun e => e.1 == zOw m && e.2.2 == y) (fun e => (.invokestatic e.2.1, 3)) ++ (zPk zISN (fun e => e.1 == zOw m && e.2.2 == y) (fun e => (.invokestatic e.2.1, 3)) ++ (zPk zIW (fun e => e.1 == zOw m && e.2.2 == y) (fun e => (.invokestatic e.2.1, 3)) ++ (zPk zIIN (fun e => e.1 == zOw m && e.2.2 == y) (fun e => (.invokespecial e.2.1, 3)) ++ zPk zII (fun e => e.1 == zOw m && e.2.2 == y) (fun e => (.invokespecial e.2.1, 3)))))))) else []
  | .invokevirtual k => zPk zID (fun e => e.1 == zOw m && e.2.2 == k) (fun e => (.invokevirtual e.2.1, 3))
  | .goto_w _ => []
  | i => [(i, 1)]
/-- may a call of y out of m throw: refuse, and the system's methods out of a method that catches -/
def zAl (m y : Nat) : Bool := y == zRef || (zOw y == 9 && zKd y == 2 && zHh m != [])
/-- a call that may throw stands within each of the handlers' stretches -/
def zCovI (m pc : Nat) (i : Instr) : Bool := match i with
  | .invokeinterface y _ => !(zAl m y) || (zHh m).all (fun x => decide (x.1 ≤ pc) && decide (pc < x.2.1))
  | _ => true
def zChk (m : Nat) (pc : Nat) (c : List Instr) : Bool := match c with
  | [] => true
  | .goto_w l :: _ => zPc m l == pc
  | i :: r => zCovI m pc i && (zAlt m pc i).any (fun q => decide (decode (zCd m) pc = .ok q) && zChk m (pc + q.2) r)
def zOkM (m : Nat) : Bool := (List.range (zTab.getD m []).length).all (fun l => zChk m (zPc m l) (zB m l))
def zOkL (a n : Nat) : Bool := ((List.range n).map (fun k => a + k)).all (fun l : Nat => zChk 299 (zPc 299 l) (zB 299 l))
theorem zOk_0 : ∀ m ∈ ([0, 1, 2, 3, 4, 5, 6, 7, 8, 9, 10, 11, 12, 13, 14, 15, 16, 17, 18] : List Nat), zOkM m = true := by decide +kernel
theorem zOk_1 : ∀ m ∈ ([19, 20, 21, 22, 23, 24, 25, 26, 27, 28, 29, 30, 31, 32, 33, 34, 35, 36, 37, 38] : List Nat), zOkM m = true := by decide +kernel
theorem zOk_2 : ∀ m ∈ ([39, 40, 41, 42, 43, 44, 45, 46, 47, 48, 49, 50, 51, 52, 53, 54, 55, 56] : List Nat), zOkM m = true := by decide +kernel
theorem zOk_3 : ∀ m ∈ ([57, 58, 59, 60, 61, 62, 63, 64, 65, 66, 67, 68, 69, 70, 71, 72, 73, 74, 75] : List Nat), zOkM m = true := by decide +kernel
theorem zOk_4 : ∀ m ∈ ([76, 77, 78, 79, 80, 81, 82, 83, 84, 85, 86, 87, 88, 89, 90, 91, 92, 93, 94, 95, 96, 97, 98, 99, 100, 101, 102, 103] : List Nat), zOkM m = true := by decide +kernel
theorem zOk_5 : ∀ m ∈ ([104, 105, 106, 107, 108, 109, 110, 111, 112, 113, 114, 115, 116, 117, 118, 119, 120, 121, 122, 123, 124, 125, 126, 127, 128, 129, 130] : List Nat), zOkM m = true := by decide +kernel
theorem zOk_6 : ∀ m ∈ ([131, 132, 133, 134, 135, 136, 137, 138, 139, 140, 141, 142, 143, 144, 145, 146, 147, 148, 149, 150, 151, 152, 153, 154, 155, 157] : List Nat), zOkM m = true := by decide +kernel
theorem zOk_7 : ∀ m ∈ ([158, 159, 160, 161, 162, 163, 164, 165, 166, 167, 168, 169, 170, 171, 172, 173, 174, 175, 176, 177, 178, 179, 180, 181, 182] : List Nat), zOkM m = true := by decide +kernel
theorem zOk_8 : ∀ m ∈ ([183, 184, 185, 186, 187, 188, 189, 190, 191, 192, 193, 194, 195, 196, 197, 198, 199, 200, 201, 202] : List Nat), zOkM m = true := by decide +kernel
theorem zOk_9 : ∀ m ∈ ([203, 204, 205, 206, 207, 208, 209, 210, 211, 212, 213, 214] : List Nat), zOkM m = true := by decide +kernel
theorem zOk_10 : ∀ m ∈ ([215, 216, 217, 218, 219, 220, 221, 222, 223, 224, 225] : List Nat), zOkM m = true := by decide +kernel
theorem zOk_11 : ∀ m ∈ ([226, 227, 228, 229, 230, 231, 232, 233, 234, 235, 236, 237, 238, 239] : List Nat), zOkM m = true := by decide +kernel
theorem zOk_12 : ∀ m ∈ ([240, 241, 242, 243, 244, 245, 246, 247, 248, 249, 250, 251, 252, 253, 254] : List Nat), zOkM m = true := by decide +kernel
theorem zOk_13 : ∀ m ∈ ([255, 256, 257, 258, 259, 260, 261, 262, 263, 264, 265, 266, 267, 268] : List Nat), zOkM m = true := by decide +kernel
theorem zOk_14 : ∀ m ∈ ([269, 270, 271, 272, 273, 274, 275, 276, 277, 278, 279, 280, 281, 282, 283, 284, 285, 286, 287, 288, 289, 290, 291, 292, 293, 294, 295, 296, 297, 298, 300, 301] : List Nat), zOkM m = true := by decide +kernel
theorem zOk_15 : ∀ m ∈ ([302, 303, 304, 305, 306] : List Nat), zOkM m = true := by decide +kernel
