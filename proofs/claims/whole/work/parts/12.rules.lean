/-! rules of the machine: zwp at an instruction is zwp behind it; written by wip/whole/gen_rules.py -/
theorem z_rng {a : Int} (h1 : -2147483648 ≤ a) (h2 : a < 2147483648) : (Int32.ofInt a).toInt = a := Int32.toInt_ofInt_of_le (by omega) (by omega)
theorem z_lt {a b : Int} (h1 : -2147483648 ≤ a) (h2 : a < 2147483648) (h3 : -2147483648 ≤ b) (h4 : b < 2147483648) : (Int32.ofInt a < Int32.ofInt b) = (a < b) := by rw [Int32.lt_iff_toInt_lt, z_rng h1 h2, z_rng h3 h4]
theorem z_le {a b : Int} (h1 : -2147483648 ≤ a) (h2 : a < 2147483648) (h3 : -2147483648 ≤ b) (h4 : b < 2147483648) : (Int32.ofInt a ≤ Int32.ofInt b) = (a ≤ b) := by rw [Int32.le_iff_toInt_le, z_rng h1 h2, z_rng h3 h4]
theorem z_eq {a b : Int} (h1 : -2147483648 ≤ a) (h2 : a < 2147483648) (h3 : -2147483648 ≤ b) (h4 : b < 2147483648) : (Int32.ofInt a = Int32.ofInt b) = (a = b) := by rw [← Int32.toInt_inj, z_rng h1 h2, z_rng h3 h4]
theorem z_0 : (0 : Int32) = Int32.ofInt 0 := rfl
def zand (a b : Int) : Int := (Int32.ofInt a &&& Int32.ofInt b).toInt
def zor (a b : Int) : Int := (Int32.ofInt a ||| Int32.ofInt b).toInt
def zxor (a b : Int) : Int := (Int32.ofInt a ^^^ Int32.ofInt b).toInt
def zshl (a b : Int) : Int := (Int32.ofInt a <<< (Int32.ofInt b &&& 31)).toInt
def zshr (a b : Int) : Int := (Int32.ofInt a >>> (Int32.ofInt b &&& 31)).toInt
def zushr (a b : Int) : Int := ((Int32.ofInt a).toUInt32 >>> ((Int32.ofInt b).toUInt32 &&& Int32.toUInt32 31)).toInt32.toInt
def zdiv (a b : Int) : Int := (Int32.ofInt a / Int32.ofInt b).toInt
theorem z_ite {α : Type} {p q : Prop} {a b : α} {hp : Decidable p} {hq : Decidable q} (e : p = q) : (@ite α p hp a b) = (@ite α q hq a b) := by
  subst e
  congr
theorem if_pos_z {c : Prop} {hc : Decidable c} {a : List Instr × List Value × List Value × zH} {X : List Instr → List Value → List Value → zH → Prop} (h : c) : (match (@ite _ c hc (some a) none) with | some q => X q.1 q.2.1 q.2.2.1 q.2.2.2 | none => False) = X a.1 a.2.1 a.2.2.1 a.2.2.2 := by
  rw [if_pos h]
theorem z_ite2 {c : Prop} {hc : Decidable c} {a b : List Instr × List Value × List Value × zH} {X : List Instr → List Value → List Value → zH → Prop} : (match (@ite _ c hc (some a) (some b)) with | some q => X q.1 q.2.1 q.2.2.1 q.2.2.2 | none => False) = @ite _ c hc (X a.1 a.2.1 a.2.2.1 a.2.2.2) (X b.1 b.2.1 b.2.2.1 b.2.2.2) := by
  by_cases h : c
  · rw [if_pos h, if_pos h]
  · rw [if_neg h, if_neg h]
theorem z_and2 {a b c : Prop} (ha : a) (hb : b) : (a ∧ b ∧ c) = c := propext ⟨fun h => h.2.2, fun h => ⟨ha, hb, h⟩⟩
section
variable {d m : Nat} {Q : zO → zH → Prop} {r : List Instr} {L st : List Value} {s : zS} {V : zV} {h : zH} {v0 v1 v2 v3 v4 v5 v6 v7 v8 v9 v10 v11 v12 : Value} {x y j n k : Int} {l : Int} {a b c : Nat}
theorem r_iload_0 : zwp (zcall d) m Q (.iload 0 :: r) (zi x :: L) st h = zwp (zcall d) m Q r (zi x :: L) (zi x :: st) h := by rw [zw]; rfl
theorem r_lload_0 : zwp (zcall d) m Q (.lload 0 :: r) (zl x :: L) st h = zwp (zcall d) m Q r (zl x :: L) (zl x :: st) h := by rw [zw]; rfl
theorem r_aload_0 : zwp (zcall d) m Q (.aload 0 :: r) (.ref a :: L) st h = zwp (zcall d) m Q r (.ref a :: L) (.ref a :: st) h := by rw [zw]; rfl
theorem r_dload_0 {u : UInt64} : zwp (zcall d) m Q (.dload 0 :: r) (.double u :: L) st h = zwp (zcall d) m Q r (.double u :: L) (.double u :: st) h := by rw [zw]; rfl
theorem r_fload_0 {u : UInt32} : zwp (zcall d) m Q (.fload 0 :: r) (.float u :: L) st h = zwp (zcall d) m Q r (.float u :: L) (.float u :: st) h := by rw [zw]; rfl
theorem r_iload_1 : zwp (zcall d) m Q (.iload 1 :: r) (v0 :: zi x :: L) st h = zwp (zcall d) m Q r (v0 :: zi x :: L) (zi x :: st) h := by rw [zw]; rfl
theorem r_lload_1 : zwp (zcall d) m Q (.lload 1 :: r) (v0 :: zl x :: L) st h = zwp (zcall d) m Q r (v0 :: zl x :: L) (zl x :: st) h := by rw [zw]; rfl
theorem r_aload_1 : zwp (zcall d) m Q (.aload 1 :: r) (v0 :: .ref a :: L) st h = zwp (zcall d) m Q r (v0 :: .ref a :: L) (.ref a :: st) h := by rw [zw]; rfl
theorem r_dload_1 {u : UInt64} : zwp (zcall d) m Q (.dload 1 :: r) (v0 :: .double u :: L) st h = zwp (zcall d) m Q r (v0 :: .double u :: L) (.double u :: st) h := by rw [zw]; rfl
theorem r_fload_1 {u : UInt32} : zwp (zcall d) m Q (.fload 1 :: r) (v0 :: .float u :: L) st h = zwp (zcall d) m Q r (v0 :: .float u :: L) (.float u :: st) h := by rw [zw]; rfl
theorem r_iload_2 : zwp (zcall d) m Q (.iload 2 :: r) (v0 :: v1 :: zi x :: L) st h = zwp (zcall d) m Q r (v0 :: v1 :: zi x :: L) (zi x :: st) h := by rw [zw]; rfl
theorem r_lload_2 : zwp (zcall d) m Q (.lload 2 :: r) (v0 :: v1 :: zl x :: L) st h = zwp (zcall d) m Q r (v0 :: v1 :: zl x :: L) (zl x :: st) h := by rw [zw]; rfl
theorem r_aload_2 : zwp (zcall d) m Q (.aload 2 :: r) (v0 :: v1 :: .ref a :: L) st h = zwp (zcall d) m Q r (v0 :: v1 :: .ref a :: L) (.ref a :: st) h := by rw [zw]; rfl
theorem r_dload_2 {u : UInt64} : zwp (zcall d) m Q (.dload 2 :: r) (v0 :: v1 :: .double u :: L) st h = zwp (zcall d) m Q r (v0 :: v1 :: .double u :: L) (.double u :: st) h := by rw [zw]; rfl
theorem r_iload_3 : zwp (zcall d) m Q (.iload 3 :: r) (v0 :: v1 :: v2 :: zi x :: L) st h = zwp (zcall d) m Q r (v0 :: v1 :: v2 :: zi x :: L) (zi x :: st) h := by rw [zw]; rfl
theorem r_lload_3 : zwp (zcall d) m Q (.lload 3 :: r) (v0 :: v1 :: v2 :: zl x :: L) st h = zwp (zcall d) m Q r (v0 :: v1 :: v2 :: zl x :: L) (zl x :: st) h := by rw [zw]; rfl
theorem r_aload_3 : zwp (zcall d) m Q (.aload 3 :: r) (v0 :: v1 :: v2 :: .ref a :: L) st h = zwp (zcall d) m Q r (v0 :: v1 :: v2 :: .ref a :: L) (.ref a :: st) h := by rw [zw]; rfl
theorem r_dload_3 {u : UInt64} : zwp (zcall d) m Q (.dload 3 :: r) (v0 :: v1 :: v2 :: .double u :: L) st h = zwp (zcall d) m Q r (v0 :: v1 :: v2 :: .double u :: L) (.double u :: st) h := by rw [zw]; rfl
theorem r_iload_4 : zwp (zcall d) m Q (.iload 4 :: r) (v0 :: v1 :: v2 :: v3 :: zi x :: L) st h = zwp (zcall d) m Q r (v0 :: v1 :: v2 :: v3 :: zi x :: L) (zi x :: st) h := by rw [zw]; rfl
theorem r_lload_4 : zwp (zcall d) m Q (.lload 4 :: r) (v0 :: v1 :: v2 :: v3 :: zl x :: L) st h = zwp (zcall d) m Q r (v0 :: v1 :: v2 :: v3 :: zl x :: L) (zl x :: st) h := by rw [zw]; rfl
theorem r_aload_4 : zwp (zcall d) m Q (.aload 4 :: r) (v0 :: v1 :: v2 :: v3 :: .ref a :: L) st h = zwp (zcall d) m Q r (v0 :: v1 :: v2 :: v3 :: .ref a :: L) (.ref a :: st) h := by rw [zw]; rfl
theorem r_dload_4 {u : UInt64} : zwp (zcall d) m Q (.dload 4 :: r) (v0 :: v1 :: v2 :: v3 :: .double u :: L) st h = zwp (zcall d) m Q r (v0 :: v1 :: v2 :: v3 :: .double u :: L) (.double u :: st) h := by rw [zw]; rfl
theorem r_iload_5 : zwp (zcall d) m Q (.iload 5 :: r) (v0 :: v1 :: v2 :: v3 :: v4 :: zi x :: L) st h = zwp (zcall d) m Q r (v0 :: v1 :: v2 :: v3 :: v4 :: zi x :: L) (zi x :: st) h := by rw [zw]; rfl
theorem r_lload_5 : zwp (zcall d) m Q (.lload 5 :: r) (v0 :: v1 :: v2 :: v3 :: v4 :: zl x :: L) st h = zwp (zcall d) m Q r (v0 :: v1 :: v2 :: v3 :: v4 :: zl x :: L) (zl x :: st) h := by rw [zw]; rfl
theorem r_aload_5 : zwp (zcall d) m Q (.aload 5 :: r) (v0 :: v1 :: v2 :: v3 :: v4 :: .ref a :: L) st h = zwp (zcall d) m Q r (v0 :: v1 :: v2 :: v3 :: v4 :: .ref a :: L) (.ref a :: st) h := by rw [zw]; rfl
theorem r_dload_5 {u : UInt64} : zwp (zcall d) m Q (.dload 5 :: r) (v0 :: v1 :: v2 :: v3 :: v4 :: .double u :: L) st h = zwp (zcall d) m Q r (v0 :: v1 :: v2 :: v3 :: v4 :: .double u :: L) (.double u :: st) h := by rw [zw]; rfl
theorem r_iload_6 : zwp (zcall d) m Q (.iload 6 :: r) (v0 :: v1 :: v2 :: v3 :: v4 :: v5 :: zi x :: L) st h = zwp (zcall d) m Q r (v0 :: v1 :: v2 :: v3 :: v4 :: v5 :: zi x :: L) (zi x :: st) h := by rw [zw]; rfl
theorem r_lload_6 : zwp (zcall d) m Q (.lload 6 :: r) (v0 :: v1 :: v2 :: v3 :: v4 :: v5 :: zl x :: L) st h = zwp (zcall d) m Q r (v0 :: v1 :: v2 :: v3 :: v4 :: v5 :: zl x :: L) (zl x :: st) h := by rw [zw]; rfl
theorem r_aload_6 : zwp (zcall d) m Q (.aload 6 :: r) (v0 :: v1 :: v2 :: v3 :: v4 :: v5 :: .ref a :: L) st h = zwp (zcall d) m Q r (v0 :: v1 :: v2 :: v3 :: v4 :: v5 :: .ref a :: L) (.ref a :: st) h := by rw [zw]; rfl
theorem r_dload_6 {u : UInt64} : zwp (zcall d) m Q (.dload 6 :: r) (v0 :: v1 :: v2 :: v3 :: v4 :: v5 :: .double u :: L) st h = zwp (zcall d) m Q r (v0 :: v1 :: v2 :: v3 :: v4 :: v5 :: .double u :: L) (.double u :: st) h := by rw [zw]; rfl
theorem r_iload_7 : zwp (zcall d) m Q (.iload 7 :: r) (v0 :: v1 :: v2 :: v3 :: v4 :: v5 :: v6 :: zi x :: L) st h = zwp (zcall d) m Q r (v0 :: v1 :: v2 :: v3 :: v4 :: v5 :: v6 :: zi x :: L) (zi x :: st) h := by rw [zw]; rfl
theorem r_aload_7 : zwp (zcall d) m Q (.aload 7 :: r) (v0 :: v1 :: v2 :: v3 :: v4 :: v5 :: v6 :: .ref a :: L) st h = zwp (zcall d) m Q r (v0 :: v1 :: v2 :: v3 :: v4 :: v5 :: v6 :: .ref a :: L) (.ref a :: st) h := by rw [zw]; rfl
theorem r_dload_7 {u : UInt64} : zwp (zcall d) m Q (.dload 7 :: r) (v0 :: v1 :: v2 :: v3 :: v4 :: v5 :: v6 :: .double u :: L) st h = zwp (zcall d) m Q r (v0 :: v1 :: v2 :: v3 :: v4 :: v5 :: v6 :: .double u :: L) (.double u :: st) h := by rw [zw]; rfl
theorem r_iload_8 : zwp (zcall d) m Q (.iload 8 :: r) (v0 :: v1 :: v2 :: v3 :: v4 :: v5 :: v6 :: v7 :: zi x :: L) st h = zwp (zcall d) m Q r (v0 :: v1 :: v2 :: v3 :: v4 :: v5 :: v6 :: v7 :: zi x :: L) (zi x :: st) h := by rw [zw]; rfl
theorem r_aload_8 : zwp (zcall d) m Q (.aload 8 :: r) (v0 :: v1 :: v2 :: v3 :: v4 :: v5 :: v6 :: v7 :: .ref a :: L) st h = zwp (zcall d) m Q r (v0 :: v1 :: v2 :: v3 :: v4 :: v5 :: v6 :: v7 :: .ref a :: L) (.ref a :: st) h := by rw [zw]; rfl
theorem r_dload_8 {u : UInt64} : zwp (zcall d) m Q (.dload 8 :: r) (v0 :: v1 :: v2 :: v3 :: v4 :: v5 :: v6 :: v7 :: .double u :: L) st h = zwp (zcall d) m Q r (v0 :: v1 :: v2 :: v3 :: v4 :: v5 :: v6 :: v7 :: .double u :: L) (.double u :: st) h := by rw [zw]; rfl
theorem r_iload_9 : zwp (zcall d) m Q (.iload 9 :: r) (v0 :: v1 :: v2 :: v3 :: v4 :: v5 :: v6 :: v7 :: v8 :: zi x :: L) st h = zwp (zcall d) m Q r (v0 :: v1 :: v2 :: v3 :: v4 :: v5 :: v6 :: v7 :: v8 :: zi x :: L) (zi x :: st) h := by rw [zw]; rfl
theorem r_aload_9 : zwp (zcall d) m Q (.aload 9 :: r) (v0 :: v1 :: v2 :: v3 :: v4 :: v5 :: v6 :: v7 :: v8 :: .ref a :: L) st h = zwp (zcall d) m Q r (v0 :: v1 :: v2 :: v3 :: v4 :: v5 :: v6 :: v7 :: v8 :: .ref a :: L) (.ref a :: st) h := by rw [zw]; rfl
theorem r_dload_9 {u : UInt64} : zwp (zcall d) m Q (.dload 9 :: r) (v0 :: v1 :: v2 :: v3 :: v4 :: v5 :: v6 :: v7 :: v8 :: .double u :: L) st h = zwp (zcall d) m Q r (v0 :: v1 :: v2 :: v3 :: v4 :: v5 :: v6 :: v7 :: v8 :: .double u :: L) (.double u :: st) h := by rw [zw]; rfl
theorem r_iload_10 : zwp (zcall d) m Q (.iload 10 :: r) (v0 :: v1 :: v2 :: v3 :: v4 :: v5 :: v6 :: v7 :: v8 :: v9 :: zi x :: L) st h = zwp (zcall d) m Q r (v0 :: v1 :: v2 :: v3 :: v4 :: v5 :: v6 :: v7 :: v8 :: v9 :: zi x :: L) (zi x :: st) h := by rw [zw]; rfl
theorem r_aload_10 : zwp (zcall d) m Q (.aload 10 :: r) (v0 :: v1 :: v2 :: v3 :: v4 :: v5 :: v6 :: v7 :: v8 :: v9 :: .ref a :: L) st h = zwp (zcall d) m Q r (v0 :: v1 :: v2 :: v3 :: v4 :: v5 :: v6 :: v7 :: v8 :: v9 :: .ref a :: L) (.ref a :: st) h := by rw [zw]; rfl
theorem r_dload_10 {u : UInt64} : zwp (zcall d) m Q (.dload 10 :: r) (v0 :: v1 :: v2 :: v3 :: v4 :: v5 :: v6 :: v7 :: v8 :: v9 :: .double u :: L) st h = zwp (zcall d) m Q r (v0 :: v1 :: v2 :: v3 :: v4 :: v5 :: v6 :: v7 :: v8 :: v9 :: .double u :: L) (.double u :: st) h := by rw [zw]; rfl
theorem r_iload_11 : zwp (zcall d) m Q (.iload 11 :: r) (v0 :: v1 :: v2 :: v3 :: v4 :: v5 :: v6 :: v7 :: v8 :: v9 :: v10 :: zi x :: L) st h = zwp (zcall d) m Q r (v0 :: v1 :: v2 :: v3 :: v4 :: v5 :: v6 :: v7 :: v8 :: v9 :: v10 :: zi x :: L) (zi x :: st) h := by rw [zw]; rfl
theorem r_aload_11 : zwp (zcall d) m Q (.aload 11 :: r) (v0 :: v1 :: v2 :: v3 :: v4 :: v5 :: v6 :: v7 :: v8 :: v9 :: v10 :: .ref a :: L) st h = zwp (zcall d) m Q r (v0 :: v1 :: v2 :: v3 :: v4 :: v5 :: v6 :: v7 :: v8 :: v9 :: v10 :: .ref a :: L) (.ref a :: st) h := by rw [zw]; rfl
theorem r_istore_0 : zwp (zcall d) m Q (.istore 0 :: r) (v0 :: L) (zi x :: st) h = zwp (zcall d) m Q r (zi x :: L) st h := by rw [zw]; simp [zF, zstep, zSetL, zSetL2, zPrev, Value.category, zi, zl, zJ]
theorem r_astore_0 : zwp (zcall d) m Q (.astore 0 :: r) (v0 :: L) (.ref a :: st) h = zwp (zcall d) m Q r (.ref a :: L) st h := by rw [zw]; simp [zF, zstep, zSetL, zSetL2, zPrev, Value.category, zi, zl, zJ]
theorem r_iinc_0 : zwp (zcall d) m Q (.iinc 0 n :: r) (zi x :: L) st h = zwp (zcall d) m Q r (zi (x + n) :: L) st h := by rw [zw]; simp [zF, zstep, zSetL, zSetL2, zPrev, Value.category, zi, zl, zJ]
theorem r_dstore_0  {u : UInt64} : zwp (zcall d) m Q (.dstore 0 :: r) (v0 :: v1 :: L) (.double u :: st) h = zwp (zcall d) m Q r (.double u :: zJ :: L) st h := by rw [zw]; simp [zF, zstep, zSetL, zSetL2, zPrev, Value.category, zi, zl, zJ]
theorem r_lstore_0 : zwp (zcall d) m Q (.lstore 0 :: r) (v0 :: v1 :: L) (zl x :: st) h = zwp (zcall d) m Q r (zl x :: zJ :: L) st h := by rw [zw]; simp [zF, zstep, zSetL, zSetL2, zPrev, Value.category, zi, zl, zJ]
theorem r_istore_1i {w : Int} : zwp (zcall d) m Q (.istore 1 :: r) (zi w :: v1 :: L) (zi x :: st) h = zwp (zcall d) m Q r (zi w :: zi x :: L) st h := by rw [zw]; simp [zF, zstep, zSetL, zSetL2, zPrev, Value.category, zi, zl, zJ]
theorem r_astore_1i {w : Int} : zwp (zcall d) m Q (.astore 1 :: r) (zi w :: v1 :: L) (.ref a :: st) h = zwp (zcall d) m Q r (zi w :: .ref a :: L) st h := by rw [zw]; simp [zF, zstep, zSetL, zSetL2, zPrev, Value.category, zi, zl, zJ]
theorem r_iinc_1i {w : Int} : zwp (zcall d) m Q (.iinc 1 n :: r) (zi w :: zi x :: L) st h = zwp (zcall d) m Q r (zi w :: zi (x + n) :: L) st h := by rw [zw]; simp [zF, zstep, zSetL, zSetL2, zPrev, Value.category, zi, zl, zJ]
theorem r_dstore_1i {w : Int} {u : UInt64} : zwp (zcall d) m Q (.dstore 1 :: r) (zi w :: v1 :: v2 :: L) (.double u :: st) h = zwp (zcall d) m Q r (zi w :: .double u :: zJ :: L) st h := by rw [zw]; simp [zF, zstep, zSetL, zSetL2, zPrev, Value.category, zi, zl, zJ]
theorem r_lstore_1i {w : Int} : zwp (zcall d) m Q (.lstore 1 :: r) (zi w :: v1 :: v2 :: L) (zl x :: st) h = zwp (zcall d) m Q r (zi w :: zl x :: zJ :: L) st h := by rw [zw]; simp [zF, zstep, zSetL, zSetL2, zPrev, Value.category, zi, zl, zJ]
theorem r_istore_1r : zwp (zcall d) m Q (.istore 1 :: r) (.ref c :: v1 :: L) (zi x :: st) h = zwp (zcall d) m Q r (.ref c :: zi x :: L) st h := by rw [zw]; simp [zF, zstep, zSetL, zSetL2, zPrev, Value.category, zi, zl, zJ]
theorem r_astore_1r : zwp (zcall d) m Q (.astore 1 :: r) (.ref c :: v1 :: L) (.ref a :: st) h = zwp (zcall d) m Q r (.ref c :: .ref a :: L) st h := by rw [zw]; simp [zF, zstep, zSetL, zSetL2, zPrev, Value.category, zi, zl, zJ]
theorem r_iinc_1r : zwp (zcall d) m Q (.iinc 1 n :: r) (.ref c :: zi x :: L) st h = zwp (zcall d) m Q r (.ref c :: zi (x + n) :: L) st h := by rw [zw]; simp [zF, zstep, zSetL, zSetL2, zPrev, Value.category, zi, zl, zJ]
theorem r_dstore_1r  {u : UInt64} : zwp (zcall d) m Q (.dstore 1 :: r) (.ref c :: v1 :: v2 :: L) (.double u :: st) h = zwp (zcall d) m Q r (.ref c :: .double u :: zJ :: L) st h := by rw [zw]; simp [zF, zstep, zSetL, zSetL2, zPrev, Value.category, zi, zl, zJ]
theorem r_lstore_1r : zwp (zcall d) m Q (.lstore 1 :: r) (.ref c :: v1 :: v2 :: L) (zl x :: st) h = zwp (zcall d) m Q r (.ref c :: zl x :: zJ :: L) st h := by rw [zw]; simp [zF, zstep, zSetL, zSetL2, zPrev, Value.category, zi, zl, zJ]
theorem r_istore_1j : zwp (zcall d) m Q (.istore 1 :: r) (zJ :: v1 :: L) (zi x :: st) h = zwp (zcall d) m Q r (zJ :: zi x :: L) st h := by rw [zw]; simp [zF, zstep, zSetL, zSetL2, zPrev, Value.category, zi, zl, zJ]
theorem r_astore_1j : zwp (zcall d) m Q (.astore 1 :: r) (zJ :: v1 :: L) (.ref a :: st) h = zwp (zcall d) m Q r (zJ :: .ref a :: L) st h := by rw [zw]; simp [zF, zstep, zSetL, zSetL2, zPrev, Value.category, zi, zl, zJ]
theorem r_iinc_1j : zwp (zcall d) m Q (.iinc 1 n :: r) (zJ :: zi x :: L) st h = zwp (zcall d) m Q r (zJ :: zi (x + n) :: L) st h := by rw [zw]; simp [zF, zstep, zSetL, zSetL2, zPrev, Value.category, zi, zl, zJ]
theorem r_dstore_1j  {u : UInt64} : zwp (zcall d) m Q (.dstore 1 :: r) (zJ :: v1 :: v2 :: L) (.double u :: st) h = zwp (zcall d) m Q r (zJ :: .double u :: zJ :: L) st h := by rw [zw]; simp [zF, zstep, zSetL, zSetL2, zPrev, Value.category, zi, zl, zJ]
theorem r_lstore_1j : zwp (zcall d) m Q (.lstore 1 :: r) (zJ :: v1 :: v2 :: L) (zl x :: st) h = zwp (zcall d) m Q r (zJ :: zl x :: zJ :: L) st h := by rw [zw]; simp [zF, zstep, zSetL, zSetL2, zPrev, Value.category, zi, zl, zJ]
theorem r_istore_2i {w : Int} : zwp (zcall d) m Q (.istore 2 :: r) (v0 :: zi w :: v2 :: L) (zi x :: st) h = zwp (zcall d) m Q r (v0 :: zi w :: zi x :: L) st h := by rw [zw]; simp [zF, zstep, zSetL, zSetL2, zPrev, Value.category, zi, zl, zJ]
theorem r_astore_2i {w : Int} : zwp (zcall d) m Q (.astore 2 :: r) (v0 :: zi w :: v2 :: L) (.ref a :: st) h = zwp (zcall d) m Q r (v0 :: zi w :: .ref a :: L) st h := by rw [zw]; simp [zF, zstep, zSetL, zSetL2, zPrev, Value.category, zi, zl, zJ]
theorem r_iinc_2i {w : Int} : zwp (zcall d) m Q (.iinc 2 n :: r) (v0 :: zi w :: zi x :: L) st h = zwp (zcall d) m Q r (v0 :: zi w :: zi (x + n) :: L) st h := by rw [zw]; simp [zF, zstep, zSetL, zSetL2, zPrev, Value.category, zi, zl, zJ]
theorem r_dstore_2i {w : Int} {u : UInt64} : zwp (zcall d) m Q (.dstore 2 :: r) (v0 :: zi w :: v2 :: v3 :: L) (.double u :: st) h = zwp (zcall d) m Q r (v0 :: zi w :: .double u :: zJ :: L) st h := by rw [zw]; simp [zF, zstep, zSetL, zSetL2, zPrev, Value.category, zi, zl, zJ]
theorem r_lstore_2i {w : Int} : zwp (zcall d) m Q (.lstore 2 :: r) (v0 :: zi w :: v2 :: v3 :: L) (zl x :: st) h = zwp (zcall d) m Q r (v0 :: zi w :: zl x :: zJ :: L) st h := by rw [zw]; simp [zF, zstep, zSetL, zSetL2, zPrev, Value.category, zi, zl, zJ]
theorem r_istore_2r : zwp (zcall d) m Q (.istore 2 :: r) (v0 :: .ref c :: v2 :: L) (zi x :: st) h = zwp (zcall d) m Q r (v0 :: .ref c :: zi x :: L) st h := by rw [zw]; simp [zF, zstep, zSetL, zSetL2, zPrev, Value.category, zi, zl, zJ]
theorem r_astore_2r : zwp (zcall d) m Q (.astore 2 :: r) (v0 :: .ref c :: v2 :: L) (.ref a :: st) h = zwp (zcall d) m Q r (v0 :: .ref c :: .ref a :: L) st h := by rw [zw]; simp [zF, zstep, zSetL, zSetL2, zPrev, Value.category, zi, zl, zJ]
theorem r_iinc_2r : zwp (zcall d) m Q (.iinc 2 n :: r) (v0 :: .ref c :: zi x :: L) st h = zwp (zcall d) m Q r (v0 :: .ref c :: zi (x + n) :: L) st h := by rw [zw]; simp [zF, zstep, zSetL, zSetL2, zPrev, Value.category, zi, zl, zJ]
theorem r_dstore_2r  {u : UInt64} : zwp (zcall d) m Q (.dstore 2 :: r) (v0 :: .ref c :: v2 :: v3 :: L) (.double u :: st) h = zwp (zcall d) m Q r (v0 :: .ref c :: .double u :: zJ :: L) st h := by rw [zw]; simp [zF, zstep, zSetL, zSetL2, zPrev, Value.category, zi, zl, zJ]
theorem r_lstore_2r : zwp (zcall d) m Q (.lstore 2 :: r) (v0 :: .ref c :: v2 :: v3 :: L) (zl x :: st) h = zwp (zcall d) m Q r (v0 :: .ref c :: zl x :: zJ :: L) st h := by rw [zw]; simp [zF, zstep, zSetL, zSetL2, zPrev, Value.category, zi, zl, zJ]
theorem r_istore_2j : zwp (zcall d) m Q (.istore 2 :: r) (v0 :: zJ :: v2 :: L) (zi x :: st) h = zwp (zcall d) m Q r (v0 :: zJ :: zi x :: L) st h := by rw [zw]; simp [zF, zstep, zSetL, zSetL2, zPrev, Value.category, zi, zl, zJ]
theorem r_astore_2j : zwp (zcall d) m Q (.astore 2 :: r) (v0 :: zJ :: v2 :: L) (.ref a :: st) h = zwp (zcall d) m Q r (v0 :: zJ :: .ref a :: L) st h := by rw [zw]; simp [zF, zstep, zSetL, zSetL2, zPrev, Value.category, zi, zl, zJ]
theorem r_iinc_2j : zwp (zcall d) m Q (.iinc 2 n :: r) (v0 :: zJ :: zi x :: L) st h = zwp (zcall d) m Q r (v0 :: zJ :: zi (x + n) :: L) st h := by rw [zw]; simp [zF, zstep, zSetL, zSetL2, zPrev, Value.category, zi, zl, zJ]
theorem r_dstore_2j  {u : UInt64} : zwp (zcall d) m Q (.dstore 2 :: r) (v0 :: zJ :: v2 :: v3 :: L) (.double u :: st) h = zwp (zcall d) m Q r (v0 :: zJ :: .double u :: zJ :: L) st h := by rw [zw]; simp [zF, zstep, zSetL, zSetL2, zPrev, Value.category, zi, zl, zJ]
theorem r_lstore_2j : zwp (zcall d) m Q (.lstore 2 :: r) (v0 :: zJ :: v2 :: v3 :: L) (zl x :: st) h = zwp (zcall d) m Q r (v0 :: zJ :: zl x :: zJ :: L) st h := by rw [zw]; simp [zF, zstep, zSetL, zSetL2, zPrev, Value.category, zi, zl, zJ]
theorem r_istore_3i {w : Int} : zwp (zcall d) m Q (.istore 3 :: r) (v0 :: v1 :: zi w :: v3 :: L) (zi x :: st) h = zwp (zcall d) m Q r (v0 :: v1 :: zi w :: zi x :: L) st h := by rw [zw]; simp [zF, zstep, zSetL, zSetL2, zPrev, Value.category, zi, zl, zJ]
theorem r_astore_3i {w : Int} : zwp (zcall d) m Q (.astore 3 :: r) (v0 :: v1 :: zi w :: v3 :: L) (.ref a :: st) h = zwp (zcall d) m Q r (v0 :: v1 :: zi w :: .ref a :: L) st h := by rw [zw]; simp [zF, zstep, zSetL, zSetL2, zPrev, Value.category, zi, zl, zJ]
theorem r_iinc_3i {w : Int} : zwp (zcall d) m Q (.iinc 3 n :: r) (v0 :: v1 :: zi w :: zi x :: L) st h = zwp (zcall d) m Q r (v0 :: v1 :: zi w :: zi (x + n) :: L) st h := by rw [zw]; simp [zF, zstep, zSetL, zSetL2, zPrev, Value.category, zi, zl, zJ]
theorem r_dstore_3i {w : Int} {u : UInt64} : zwp (zcall d) m Q (.dstore 3 :: r) (v0 :: v1 :: zi w :: v3 :: v4 :: L) (.double u :: st) h = zwp (zcall d) m Q r (v0 :: v1 :: zi w :: .double u :: zJ :: L) st h := by rw [zw]; simp [zF, zstep, zSetL, zSetL2, zPrev, Value.category, zi, zl, zJ]
theorem r_lstore_3i {w : Int} : zwp (zcall d) m Q (.lstore 3 :: r) (v0 :: v1 :: zi w :: v3 :: v4 :: L) (zl x :: st) h = zwp (zcall d) m Q r (v0 :: v1 :: zi w :: zl x :: zJ :: L) st h := by rw [zw]; simp [zF, zstep, zSetL, zSetL2, zPrev, Value.category, zi, zl, zJ]
theorem r_istore_3r : zwp (zcall d) m Q (.istore 3 :: r) (v0 :: v1 :: .ref c :: v3 :: L) (zi x :: st) h = zwp (zcall d) m Q r (v0 :: v1 :: .ref c :: zi x :: L) st h := by rw [zw]; simp [zF, zstep, zSetL, zSetL2, zPrev, Value.category, zi, zl, zJ]
theorem r_astore_3r : zwp (zcall d) m Q (.astore 3 :: r) (v0 :: v1 :: .ref c :: v3 :: L) (.ref a :: st) h = zwp (zcall d) m Q r (v0 :: v1 :: .ref c :: .ref a :: L) st h := by rw [zw]; simp [zF, zstep, zSetL, zSetL2, zPrev, Value.category, zi, zl, zJ]
theorem r_iinc_3r : zwp (zcall d) m Q (.iinc 3 n :: r) (v0 :: v1 :: .ref c :: zi x :: L) st h = zwp (zcall d) m Q r (v0 :: v1 :: .ref c :: zi (x + n) :: L) st h := by rw [zw]; simp [zF, zstep, zSetL, zSetL2, zPrev, Value.category, zi, zl, zJ]
theorem r_dstore_3r  {u : UInt64} : zwp (zcall d) m Q (.dstore 3 :: r) (v0 :: v1 :: .ref c :: v3 :: v4 :: L) (.double u :: st) h = zwp (zcall d) m Q r (v0 :: v1 :: .ref c :: .double u :: zJ :: L) st h := by rw [zw]; simp [zF, zstep, zSetL, zSetL2, zPrev, Value.category, zi, zl, zJ]
theorem r_lstore_3r : zwp (zcall d) m Q (.lstore 3 :: r) (v0 :: v1 :: .ref c :: v3 :: v4 :: L) (zl x :: st) h = zwp (zcall d) m Q r (v0 :: v1 :: .ref c :: zl x :: zJ :: L) st h := by rw [zw]; simp [zF, zstep, zSetL, zSetL2, zPrev, Value.category, zi, zl, zJ]
theorem r_istore_3j : zwp (zcall d) m Q (.istore 3 :: r) (v0 :: v1 :: zJ :: v3 :: L) (zi x :: st) h = zwp (zcall d) m Q r (v0 :: v1 :: zJ :: zi x :: L) st h := by rw [zw]; simp [zF, zstep, zSetL, zSetL2, zPrev, Value.category, zi, zl, zJ]
theorem r_astore_3j : zwp (zcall d) m Q (.astore 3 :: r) (v0 :: v1 :: zJ :: v3 :: L) (.ref a :: st) h = zwp (zcall d) m Q r (v0 :: v1 :: zJ :: .ref a :: L) st h := by rw [zw]; simp [zF, zstep, zSetL, zSetL2, zPrev, Value.category, zi, zl, zJ]
theorem r_iinc_3j : zwp (zcall d) m Q (.iinc 3 n :: r) (v0 :: v1 :: zJ :: zi x :: L) st h = zwp (zcall d) m Q r (v0 :: v1 :: zJ :: zi (x + n) :: L) st h := by rw [zw]; simp [zF, zstep, zSetL, zSetL2, zPrev, Value.category, zi, zl, zJ]
theorem r_dstore_3j  {u : UInt64} : zwp (zcall d) m Q (.dstore 3 :: r) (v0 :: v1 :: zJ :: v3 :: v4 :: L) (.double u :: st) h = zwp (zcall d) m Q r (v0 :: v1 :: zJ :: .double u :: zJ :: L) st h := by rw [zw]; simp [zF, zstep, zSetL, zSetL2, zPrev, Value.category, zi, zl, zJ]
theorem r_lstore_3j : zwp (zcall d) m Q (.lstore 3 :: r) (v0 :: v1 :: zJ :: v3 :: v4 :: L) (zl x :: st) h = zwp (zcall d) m Q r (v0 :: v1 :: zJ :: zl x :: zJ :: L) st h := by rw [zw]; simp [zF, zstep, zSetL, zSetL2, zPrev, Value.category, zi, zl, zJ]
theorem r_istore_4i {w : Int} : zwp (zcall d) m Q (.istore 4 :: r) (v0 :: v1 :: v2 :: zi w :: v4 :: L) (zi x :: st) h = zwp (zcall d) m Q r (v0 :: v1 :: v2 :: zi w :: zi x :: L) st h := by rw [zw]; simp [zF, zstep, zSetL, zSetL2, zPrev, Value.category, zi, zl, zJ]
theorem r_astore_4i {w : Int} : zwp (zcall d) m Q (.astore 4 :: r) (v0 :: v1 :: v2 :: zi w :: v4 :: L) (.ref a :: st) h = zwp (zcall d) m Q r (v0 :: v1 :: v2 :: zi w :: .ref a :: L) st h := by rw [zw]; simp [zF, zstep, zSetL, zSetL2, zPrev, Value.category, zi, zl, zJ]
theorem r_iinc_4i {w : Int} : zwp (zcall d) m Q (.iinc 4 n :: r) (v0 :: v1 :: v2 :: zi w :: zi x :: L) st h = zwp (zcall d) m Q r (v0 :: v1 :: v2 :: zi w :: zi (x + n) :: L) st h := by rw [zw]; simp [zF, zstep, zSetL, zSetL2, zPrev, Value.category, zi, zl, zJ]
theorem r_dstore_4i {w : Int} {u : UInt64} : zwp (zcall d) m Q (.dstore 4 :: r) (v0 :: v1 :: v2 :: zi w :: v4 :: v5 :: L) (.double u :: st) h = zwp (zcall d) m Q r (v0 :: v1 :: v2 :: zi w :: .double u :: zJ :: L) st h := by rw [zw]; simp [zF, zstep, zSetL, zSetL2, zPrev, Value.category, zi, zl, zJ]
theorem r_istore_4r : zwp (zcall d) m Q (.istore 4 :: r) (v0 :: v1 :: v2 :: .ref c :: v4 :: L) (zi x :: st) h = zwp (zcall d) m Q r (v0 :: v1 :: v2 :: .ref c :: zi x :: L) st h := by rw [zw]; simp [zF, zstep, zSetL, zSetL2, zPrev, Value.category, zi, zl, zJ]
theorem r_astore_4r : zwp (zcall d) m Q (.astore 4 :: r) (v0 :: v1 :: v2 :: .ref c :: v4 :: L) (.ref a :: st) h = zwp (zcall d) m Q r (v0 :: v1 :: v2 :: .ref c :: .ref a :: L) st h := by rw [zw]; simp [zF, zstep, zSetL, zSetL2, zPrev, Value.category, zi, zl, zJ]
theorem r_iinc_4r : zwp (zcall d) m Q (.iinc 4 n :: r) (v0 :: v1 :: v2 :: .ref c :: zi x :: L) st h = zwp (zcall d) m Q r (v0 :: v1 :: v2 :: .ref c :: zi (x + n) :: L) st h := by rw [zw]; simp [zF, zstep, zSetL, zSetL2, zPrev, Value.category, zi, zl, zJ]
theorem r_dstore_4r  {u : UInt64} : zwp (zcall d) m Q (.dstore 4 :: r) (v0 :: v1 :: v2 :: .ref c :: v4 :: v5 :: L) (.double u :: st) h = zwp (zcall d) m Q r (v0 :: v1 :: v2 :: .ref c :: .double u :: zJ :: L) st h := by rw [zw]; simp [zF, zstep, zSetL, zSetL2, zPrev, Value.category, zi, zl, zJ]
theorem r_istore_4j : zwp (zcall d) m Q (.istore 4 :: r) (v0 :: v1 :: v2 :: zJ :: v4 :: L) (zi x :: st) h = zwp (zcall d) m Q r (v0 :: v1 :: v2 :: zJ :: zi x :: L) st h := by rw [zw]; simp [zF, zstep, zSetL, zSetL2, zPrev, Value.category, zi, zl, zJ]
theorem r_astore_4j : zwp (zcall d) m Q (.astore 4 :: r) (v0 :: v1 :: v2 :: zJ :: v4 :: L) (.ref a :: st) h = zwp (zcall d) m Q r (v0 :: v1 :: v2 :: zJ :: .ref a :: L) st h := by rw [zw]; simp [zF, zstep, zSetL, zSetL2, zPrev, Value.category, zi, zl, zJ]
theorem r_iinc_4j : zwp (zcall d) m Q (.iinc 4 n :: r) (v0 :: v1 :: v2 :: zJ :: zi x :: L) st h = zwp (zcall d) m Q r (v0 :: v1 :: v2 :: zJ :: zi (x + n) :: L) st h := by rw [zw]; simp [zF, zstep, zSetL, zSetL2, zPrev, Value.category, zi, zl, zJ]
theorem r_dstore_4j  {u : UInt64} : zwp (zcall d) m Q (.dstore 4 :: r) (v0 :: v1 :: v2 :: zJ :: v4 :: v5 :: L) (.double u :: st) h = zwp (zcall d) m Q r (v0 :: v1 :: v2 :: zJ :: .double u :: zJ :: L) st h := by rw [zw]; simp [zF, zstep, zSetL, zSetL2, zPrev, Value.category, zi, zl, zJ]
theorem r_istore_5i {w : Int} : zwp (zcall d) m Q (.istore 5 :: r) (v0 :: v1 :: v2 :: v3 :: zi w :: v5 :: L) (zi x :: st) h = zwp (zcall d) m Q r (v0 :: v1 :: v2 :: v3 :: zi w :: zi x :: L) st h := by rw [zw]; simp [zF, zstep, zSetL, zSetL2, zPrev, Value.category, zi, zl, zJ]
theorem r_astore_5i {w : Int} : zwp (zcall d) m Q (.astore 5 :: r) (v0 :: v1 :: v2 :: v3 :: zi w :: v5 :: L) (.ref a :: st) h = zwp (zcall d) m Q r (v0 :: v1 :: v2 :: v3 :: zi w :: .ref a :: L) st h := by rw [zw]; simp [zF, zstep, zSetL, zSetL2, zPrev, Value.category, zi, zl, zJ]
theorem r_iinc_5i {w : Int} : zwp (zcall d) m Q (.iinc 5 n :: r) (v0 :: v1 :: v2 :: v3 :: zi w :: zi x :: L) st h = zwp (zcall d) m Q r (v0 :: v1 :: v2 :: v3 :: zi w :: zi (x + n) :: L) st h := by rw [zw]; simp [zF, zstep, zSetL, zSetL2, zPrev, Value.category, zi, zl, zJ]
theorem r_dstore_5i {w : Int} {u : UInt64} : zwp (zcall d) m Q (.dstore 5 :: r) (v0 :: v1 :: v2 :: v3 :: zi w :: v5 :: v6 :: L) (.double u :: st) h = zwp (zcall d) m Q r (v0 :: v1 :: v2 :: v3 :: zi w :: .double u :: zJ :: L) st h := by rw [zw]; simp [zF, zstep, zSetL, zSetL2, zPrev, Value.category, zi, zl, zJ]
theorem r_istore_5r : zwp (zcall d) m Q (.istore 5 :: r) (v0 :: v1 :: v2 :: v3 :: .ref c :: v5 :: L) (zi x :: st) h = zwp (zcall d) m Q r (v0 :: v1 :: v2 :: v3 :: .ref c :: zi x :: L) st h := by rw [zw]; simp [zF, zstep, zSetL, zSetL2, zPrev, Value.category, zi, zl, zJ]
theorem r_astore_5r : zwp (zcall d) m Q (.astore 5 :: r) (v0 :: v1 :: v2 :: v3 :: .ref c :: v5 :: L) (.ref a :: st) h = zwp (zcall d) m Q r (v0 :: v1 :: v2 :: v3 :: .ref c :: .ref a :: L) st h := by rw [zw]; simp [zF, zstep, zSetL, zSetL2, zPrev, Value.category, zi, zl, zJ]
theorem r_iinc_5r : zwp (zcall d) m Q (.iinc 5 n :: r) (v0 :: v1 :: v2 :: v3 :: .ref c :: zi x :: L) st h = zwp (zcall d) m Q r (v0 :: v1 :: v2 :: v3 :: .ref c :: zi (x + n) :: L) st h := by rw [zw]; simp [zF, zstep, zSetL, zSetL2, zPrev, Value.category, zi, zl, zJ]
theorem r_dstore_5r  {u : UInt64} : zwp (zcall d) m Q (.dstore 5 :: r) (v0 :: v1 :: v2 :: v3 :: .ref c :: v5 :: v6 :: L) (.double u :: st) h = zwp (zcall d) m Q r (v0 :: v1 :: v2 :: v3 :: .ref c :: .double u :: zJ :: L) st h := by rw [zw]; simp [zF, zstep, zSetL, zSetL2, zPrev, Value.category, zi, zl, zJ]
theorem r_istore_5j : zwp (zcall d) m Q (.istore 5 :: r) (v0 :: v1 :: v2 :: v3 :: zJ :: v5 :: L) (zi x :: st) h = zwp (zcall d) m Q r (v0 :: v1 :: v2 :: v3 :: zJ :: zi x :: L) st h := by rw [zw]; simp [zF, zstep, zSetL, zSetL2, zPrev, Value.category, zi, zl, zJ]
theorem r_astore_5j : zwp (zcall d) m Q (.astore 5 :: r) (v0 :: v1 :: v2 :: v3 :: zJ :: v5 :: L) (.ref a :: st) h = zwp (zcall d) m Q r (v0 :: v1 :: v2 :: v3 :: zJ :: .ref a :: L) st h := by rw [zw]; simp [zF, zstep, zSetL, zSetL2, zPrev, Value.category, zi, zl, zJ]
theorem r_iinc_5j : zwp (zcall d) m Q (.iinc 5 n :: r) (v0 :: v1 :: v2 :: v3 :: zJ :: zi x :: L) st h = zwp (zcall d) m Q r (v0 :: v1 :: v2 :: v3 :: zJ :: zi (x + n) :: L) st h := by rw [zw]; simp [zF, zstep, zSetL, zSetL2, zPrev, Value.category, zi, zl, zJ]
theorem r_dstore_5j  {u : UInt64} : zwp (zcall d) m Q (.dstore 5 :: r) (v0 :: v1 :: v2 :: v3 :: zJ :: v5 :: v6 :: L) (.double u :: st) h = zwp (zcall d) m Q r (v0 :: v1 :: v2 :: v3 :: zJ :: .double u :: zJ :: L) st h := by rw [zw]; simp [zF, zstep, zSetL, zSetL2, zPrev, Value.category, zi, zl, zJ]
theorem r_istore_6i {w : Int} : zwp (zcall d) m Q (.istore 6 :: r) (v0 :: v1 :: v2 :: v3 :: v4 :: zi w :: v6 :: L) (zi x :: st) h = zwp (zcall d) m Q r (v0 :: v1 :: v2 :: v3 :: v4 :: zi w :: zi x :: L) st h := by rw [zw]; simp [zF, zstep, zSetL, zSetL2, zPrev, Value.category, zi, zl, zJ]
theorem r_astore_6i {w : Int} : zwp (zcall d) m Q (.astore 6 :: r) (v0 :: v1 :: v2 :: v3 :: v4 :: zi w :: v6 :: L) (.ref a :: st) h = zwp (zcall d) m Q r (v0 :: v1 :: v2 :: v3 :: v4 :: zi w :: .ref a :: L) st h := by rw [zw]; simp [zF, zstep, zSetL, zSetL2, zPrev, Value.category, zi, zl, zJ]
theorem r_iinc_6i {w : Int} : zwp (zcall d) m Q (.iinc 6 n :: r) (v0 :: v1 :: v2 :: v3 :: v4 :: zi w :: zi x :: L) st h = zwp (zcall d) m Q r (v0 :: v1 :: v2 :: v3 :: v4 :: zi w :: zi (x + n) :: L) st h := by rw [zw]; simp [zF, zstep, zSetL, zSetL2, zPrev, Value.category, zi, zl, zJ]
theorem r_dstore_6i {w : Int} {u : UInt64} : zwp (zcall d) m Q (.dstore 6 :: r) (v0 :: v1 :: v2 :: v3 :: v4 :: zi w :: v6 :: v7 :: L) (.double u :: st) h = zwp (zcall d) m Q r (v0 :: v1 :: v2 :: v3 :: v4 :: zi w :: .double u :: zJ :: L) st h := by rw [zw]; simp [zF, zstep, zSetL, zSetL2, zPrev, Value.category, zi, zl, zJ]
theorem r_istore_6r : zwp (zcall d) m Q (.istore 6 :: r) (v0 :: v1 :: v2 :: v3 :: v4 :: .ref c :: v6 :: L) (zi x :: st) h = zwp (zcall d) m Q r (v0 :: v1 :: v2 :: v3 :: v4 :: .ref c :: zi x :: L) st h := by rw [zw]; simp [zF, zstep, zSetL, zSetL2, zPrev, Value.category, zi, zl, zJ]
theorem r_astore_6r : zwp (zcall d) m Q (.astore 6 :: r) (v0 :: v1 :: v2 :: v3 :: v4 :: .ref c :: v6 :: L) (.ref a :: st) h = zwp (zcall d) m Q r (v0 :: v1 :: v2 :: v3 :: v4 :: .ref c :: .ref a :: L) st h := by rw [zw]; simp [zF, zstep, zSetL, zSetL2, zPrev, Value.category, zi, zl, zJ]
theorem r_iinc_6r : zwp (zcall d) m Q (.iinc 6 n :: r) (v0 :: v1 :: v2 :: v3 :: v4 :: .ref c :: zi x :: L) st h = zwp (zcall d) m Q r (v0 :: v1 :: v2 :: v3 :: v4 :: .ref c :: zi (x + n) :: L) st h := by rw [zw]; simp [zF, zstep, zSetL, zSetL2, zPrev, Value.category, zi, zl, zJ]
theorem r_dstore_6r  {u : UInt64} : zwp (zcall d) m Q (.dstore 6 :: r) (v0 :: v1 :: v2 :: v3 :: v4 :: .ref c :: v6 :: v7 :: L) (.double u :: st) h = zwp (zcall d) m Q r (v0 :: v1 :: v2 :: v3 :: v4 :: .ref c :: .double u :: zJ :: L) st h := by rw [zw]; simp [zF, zstep, zSetL, zSetL2, zPrev, Value.category, zi, zl, zJ]
theorem r_istore_6j : zwp (zcall d) m Q (.istore 6 :: r) (v0 :: v1 :: v2 :: v3 :: v4 :: zJ :: v6 :: L) (zi x :: st) h = zwp (zcall d) m Q r (v0 :: v1 :: v2 :: v3 :: v4 :: zJ :: zi x :: L) st h := by rw [zw]; simp [zF, zstep, zSetL, zSetL2, zPrev, Value.category, zi, zl, zJ]
theorem r_astore_6j : zwp (zcall d) m Q (.astore 6 :: r) (v0 :: v1 :: v2 :: v3 :: v4 :: zJ :: v6 :: L) (.ref a :: st) h = zwp (zcall d) m Q r (v0 :: v1 :: v2 :: v3 :: v4 :: zJ :: .ref a :: L) st h := by rw [zw]; simp [zF, zstep, zSetL, zSetL2, zPrev, Value.category, zi, zl, zJ]
theorem r_iinc_6j : zwp (zcall d) m Q (.iinc 6 n :: r) (v0 :: v1 :: v2 :: v3 :: v4 :: zJ :: zi x :: L) st h = zwp (zcall d) m Q r (v0 :: v1 :: v2 :: v3 :: v4 :: zJ :: zi (x + n) :: L) st h := by rw [zw]; simp [zF, zstep, zSetL, zSetL2, zPrev, Value.category, zi, zl, zJ]
theorem r_dstore_6j  {u : UInt64} : zwp (zcall d) m Q (.dstore 6 :: r) (v0 :: v1 :: v2 :: v3 :: v4 :: zJ :: v6 :: v7 :: L) (.double u :: st) h = zwp (zcall d) m Q r (v0 :: v1 :: v2 :: v3 :: v4 :: zJ :: .double u :: zJ :: L) st h := by rw [zw]; simp [zF, zstep, zSetL, zSetL2, zPrev, Value.category, zi, zl, zJ]
theorem r_istore_7i {w : Int} : zwp (zcall d) m Q (.istore 7 :: r) (v0 :: v1 :: v2 :: v3 :: v4 :: v5 :: zi w :: v7 :: L) (zi x :: st) h = zwp (zcall d) m Q r (v0 :: v1 :: v2 :: v3 :: v4 :: v5 :: zi w :: zi x :: L) st h := by rw [zw]; simp [zF, zstep, zSetL, zSetL2, zPrev, Value.category, zi, zl, zJ]
theorem r_astore_7i {w : Int} : zwp (zcall d) m Q (.astore 7 :: r) (v0 :: v1 :: v2 :: v3 :: v4 :: v5 :: zi w :: v7 :: L) (.ref a :: st) h = zwp (zcall d) m Q r (v0 :: v1 :: v2 :: v3 :: v4 :: v5 :: zi w :: .ref a :: L) st h := by rw [zw]; simp [zF, zstep, zSetL, zSetL2, zPrev, Value.category, zi, zl, zJ]
theorem r_iinc_7i {w : Int} : zwp (zcall d) m Q (.iinc 7 n :: r) (v0 :: v1 :: v2 :: v3 :: v4 :: v5 :: zi w :: zi x :: L) st h = zwp (zcall d) m Q r (v0 :: v1 :: v2 :: v3 :: v4 :: v5 :: zi w :: zi (x + n) :: L) st h := by rw [zw]; simp [zF, zstep, zSetL, zSetL2, zPrev, Value.category, zi, zl, zJ]
theorem r_dstore_7i {w : Int} {u : UInt64} : zwp (zcall d) m Q (.dstore 7 :: r) (v0 :: v1 :: v2 :: v3 :: v4 :: v5 :: zi w :: v7 :: v8 :: L) (.double u :: st) h = zwp (zcall d) m Q r (v0 :: v1 :: v2 :: v3 :: v4 :: v5 :: zi w :: .double u :: zJ :: L) st h := by rw [zw]; simp [zF, zstep, zSetL, zSetL2, zPrev, Value.category, zi, zl, zJ]
theorem r_istore_7r : zwp (zcall d) m Q (.istore 7 :: r) (v0 :: v1 :: v2 :: v3 :: v4 :: v5 :: .ref c :: v7 :: L) (zi x :: st) h = zwp (zcall d) m Q r (v0 :: v1 :: v2 :: v3 :: v4 :: v5 :: .ref c :: zi x :: L) st h := by rw [zw]; simp [zF, zstep, zSetL, zSetL2, zPrev, Value.category, zi, zl, zJ]
theorem r_astore_7r : zwp (zcall d) m Q (.astore 7 :: r) (v0 :: v1 :: v2 :: v3 :: v4 :: v5 :: .ref c :: v7 :: L) (.ref a :: st) h = zwp (zcall d) m Q r (v0 :: v1 :: v2 :: v3 :: v4 :: v5 :: .ref c :: .ref a :: L) st h := by rw [zw]; simp [zF, zstep, zSetL, zSetL2, zPrev, Value.category, zi, zl, zJ]
theorem r_iinc_7r : zwp (zcall d) m Q (.iinc 7 n :: r) (v0 :: v1 :: v2 :: v3 :: v4 :: v5 :: .ref c :: zi x :: L) st h = zwp (zcall d) m Q r (v0 :: v1 :: v2 :: v3 :: v4 :: v5 :: .ref c :: zi (x + n) :: L) st h := by rw [zw]; simp [zF, zstep, zSetL, zSetL2, zPrev, Value.category, zi, zl, zJ]
theorem r_dstore_7r  {u : UInt64} : zwp (zcall d) m Q (.dstore 7 :: r) (v0 :: v1 :: v2 :: v3 :: v4 :: v5 :: .ref c :: v7 :: v8 :: L) (.double u :: st) h = zwp (zcall d) m Q r (v0 :: v1 :: v2 :: v3 :: v4 :: v5 :: .ref c :: .double u :: zJ :: L) st h := by rw [zw]; simp [zF, zstep, zSetL, zSetL2, zPrev, Value.category, zi, zl, zJ]
theorem r_istore_7j : zwp (zcall d) m Q (.istore 7 :: r) (v0 :: v1 :: v2 :: v3 :: v4 :: v5 :: zJ :: v7 :: L) (zi x :: st) h = zwp (zcall d) m Q r (v0 :: v1 :: v2 :: v3 :: v4 :: v5 :: zJ :: zi x :: L) st h := by rw [zw]; simp [zF, zstep, zSetL, zSetL2, zPrev, Value.category, zi, zl, zJ]
theorem r_astore_7j : zwp (zcall d) m Q (.astore 7 :: r) (v0 :: v1 :: v2 :: v3 :: v4 :: v5 :: zJ :: v7 :: L) (.ref a :: st) h = zwp (zcall d) m Q r (v0 :: v1 :: v2 :: v3 :: v4 :: v5 :: zJ :: .ref a :: L) st h := by rw [zw]; simp [zF, zstep, zSetL, zSetL2, zPrev, Value.category, zi, zl, zJ]
theorem r_iinc_7j : zwp (zcall d) m Q (.iinc 7 n :: r) (v0 :: v1 :: v2 :: v3 :: v4 :: v5 :: zJ :: zi x :: L) st h = zwp (zcall d) m Q r (v0 :: v1 :: v2 :: v3 :: v4 :: v5 :: zJ :: zi (x + n) :: L) st h := by rw [zw]; simp [zF, zstep, zSetL, zSetL2, zPrev, Value.category, zi, zl, zJ]
theorem r_dstore_7j  {u : UInt64} : zwp (zcall d) m Q (.dstore 7 :: r) (v0 :: v1 :: v2 :: v3 :: v4 :: v5 :: zJ :: v7 :: v8 :: L) (.double u :: st) h = zwp (zcall d) m Q r (v0 :: v1 :: v2 :: v3 :: v4 :: v5 :: zJ :: .double u :: zJ :: L) st h := by rw [zw]; simp [zF, zstep, zSetL, zSetL2, zPrev, Value.category, zi, zl, zJ]
theorem r_istore_8i {w : Int} : zwp (zcall d) m Q (.istore 8 :: r) (v0 :: v1 :: v2 :: v3 :: v4 :: v5 :: v6 :: zi w :: v8 :: L) (zi x :: st) h = zwp (zcall d) m Q r (v0 :: v1 :: v2 :: v3 :: v4 :: v5 :: v6 :: zi w :: zi x :: L) st h := by rw [zw]; simp [zF, zstep, zSetL, zSetL2, zPrev, Value.category, zi, zl, zJ]
theorem r_astore_8i {w : Int} : zwp (zcall d) m Q (.astore 8 :: r) (v0 :: v1 :: v2 :: v3 :: v4 :: v5 :: v6 :: zi w :: v8 :: L) (.ref a :: st) h = zwp (zcall d) m Q r (v0 :: v1 :: v2 :: v3 :: v4 :: v5 :: v6 :: zi w :: .ref a :: L) st h := by rw [zw]; simp [zF, zstep, zSetL, zSetL2, zPrev, Value.category, zi, zl, zJ]
theorem r_iinc_8i {w : Int} : zwp (zcall d) m Q (.iinc 8 n :: r) (v0 :: v1 :: v2 :: v3 :: v4 :: v5 :: v6 :: zi w :: zi x :: L) st h = zwp (zcall d) m Q r (v0 :: v1 :: v2 :: v3 :: v4 :: v5 :: v6 :: zi w :: zi (x + n) :: L) st h := by rw [zw]; simp [zF, zstep, zSetL, zSetL2, zPrev, Value.category, zi, zl, zJ]
theorem r_dstore_8i {w : Int} {u : UInt64} : zwp (zcall d) m Q (.dstore 8 :: r) (v0 :: v1 :: v2 :: v3 :: v4 :: v5 :: v6 :: zi w :: v8 :: v9 :: L) (.double u :: st) h = zwp (zcall d) m Q r (v0 :: v1 :: v2 :: v3 :: v4 :: v5 :: v6 :: zi w :: .double u :: zJ :: L) st h := by rw [zw]; simp [zF, zstep, zSetL, zSetL2, zPrev, Value.category, zi, zl, zJ]
theorem r_istore_8r : zwp (zcall d) m Q (.istore 8 :: r) (v0 :: v1 :: v2 :: v3 :: v4 :: v5 :: v6 :: .ref c :: v8 :: L) (zi x :: st) h = zwp (zcall d) m Q r (v0 :: v1 :: v2 :: v3 :: v4 :: v5 :: v6 :: .ref c :: zi x :: L) st h := by rw [zw]; simp [zF, zstep, zSetL, zSetL2, zPrev, Value.category, zi, zl, zJ]
theorem r_astore_8r : zwp (zcall d) m Q (.astore 8 :: r) (v0 :: v1 :: v2 :: v3 :: v4 :: v5 :: v6 :: .ref c :: v8 :: L) (.ref a :: st) h = zwp (zcall d) m Q r (v0 :: v1 :: v2 :: v3 :: v4 :: v5 :: v6 :: .ref c :: .ref a :: L) st h := by rw [zw]; simp [zF, zstep, zSetL, zSetL2, zPrev, Value.category, zi, zl, zJ]
theorem r_iinc_8r : zwp (zcall d) m Q (.iinc 8 n :: r) (v0 :: v1 :: v2 :: v3 :: v4 :: v5 :: v6 :: .ref c :: zi x :: L) st h = zwp (zcall d) m Q r (v0 :: v1 :: v2 :: v3 :: v4 :: v5 :: v6 :: .ref c :: zi (x + n) :: L) st h := by rw [zw]; simp [zF, zstep, zSetL, zSetL2, zPrev, Value.category, zi, zl, zJ]
theorem r_dstore_8r  {u : UInt64} : zwp (zcall d) m Q (.dstore 8 :: r) (v0 :: v1 :: v2 :: v3 :: v4 :: v5 :: v6 :: .ref c :: v8 :: v9 :: L) (.double u :: st) h = zwp (zcall d) m Q r (v0 :: v1 :: v2 :: v3 :: v4 :: v5 :: v6 :: .ref c :: .double u :: zJ :: L) st h := by rw [zw]; simp [zF, zstep, zSetL, zSetL2, zPrev, Value.category, zi, zl, zJ]
theorem r_istore_8j : zwp (zcall d) m Q (.istore 8 :: r) (v0 :: v1 :: v2 :: v3 :: v4 :: v5 :: v6 :: zJ :: v8 :: L) (zi x :: st) h = zwp (zcall d) m Q r (v0 :: v1 :: v2 :: v3 :: v4 :: v5 :: v6 :: zJ :: zi x :: L) st h := by rw [zw]; simp [zF, zstep, zSetL, zSetL2, zPrev, Value.category, zi, zl, zJ]
theorem r_astore_8j : zwp (zcall d) m Q (.astore 8 :: r) (v0 :: v1 :: v2 :: v3 :: v4 :: v5 :: v6 :: zJ :: v8 :: L) (.ref a :: st) h = zwp (zcall d) m Q r (v0 :: v1 :: v2 :: v3 :: v4 :: v5 :: v6 :: zJ :: .ref a :: L) st h := by rw [zw]; simp [zF, zstep, zSetL, zSetL2, zPrev, Value.category, zi, zl, zJ]
theorem r_iinc_8j : zwp (zcall d) m Q (.iinc 8 n :: r) (v0 :: v1 :: v2 :: v3 :: v4 :: v5 :: v6 :: zJ :: zi x :: L) st h = zwp (zcall d) m Q r (v0 :: v1 :: v2 :: v3 :: v4 :: v5 :: v6 :: zJ :: zi (x + n) :: L) st h := by rw [zw]; simp [zF, zstep, zSetL, zSetL2, zPrev, Value.category, zi, zl, zJ]
theorem r_dstore_8j  {u : UInt64} : zwp (zcall d) m Q (.dstore 8 :: r) (v0 :: v1 :: v2 :: v3 :: v4 :: v5 :: v6 :: zJ :: v8 :: v9 :: L) (.double u :: st) h = zwp (zcall d) m Q r (v0 :: v1 :: v2 :: v3 :: v4 :: v5 :: v6 :: zJ :: .double u :: zJ :: L) st h := by rw [zw]; simp [zF, zstep, zSetL, zSetL2, zPrev, Value.category, zi, zl, zJ]
theorem r_istore_9i {w : Int} : zwp (zcall d) m Q (.istore 9 :: r) (v0 :: v1 :: v2 :: v3 :: v4 :: v5 :: v6 :: v7 :: zi w :: v9 :: L) (zi x :: st) h = zwp (zcall d) m Q r (v0 :: v1 :: v2 :: v3 :: v4 :: v5 :: v6 :: v7 :: zi w :: zi x :: L) st h := by rw [zw]; simp [zF, zstep, zSetL, zSetL2, zPrev, Value.category, zi, zl, zJ]
theorem r_astore_9i {w : Int} : zwp (zcall d) m Q (.astore 9 :: r) (v0 :: v1 :: v2 :: v3 :: v4 :: v5 :: v6 :: v7 :: zi w :: v9 :: L) (.ref a :: st) h = zwp (zcall d) m Q r (v0 :: v1 :: v2 :: v3 :: v4 :: v5 :: v6 :: v7 :: zi w :: .ref a :: L) st h := by rw [zw]; simp [zF, zstep, zSetL, zSetL2, zPrev, Value.category, zi, zl, zJ]
theorem r_iinc_9i {w : Int} : zwp (zcall d) m Q (.iinc 9 n :: r) (v0 :: v1 :: v2 :: v3 :: v4 :: v5 :: v6 :: v7 :: zi w :: zi x :: L) st h = zwp (zcall d) m Q r (v0 :: v1 :: v2 :: v3 :: v4 :: v5 :: v6 :: v7 :: zi w :: zi (x + n) :: L) st h := by rw [zw]; simp [zF, zstep, zSetL, zSetL2, zPrev, Value.category, zi, zl, zJ]
theorem r_dstore_9i {w : Int} {u : UInt64} : zwp (zcall d) m Q (.dstore 9 :: r) (v0 :: v1 :: v2 :: v3 :: v4 :: v5 :: v6 :: v7 :: zi w :: v9 :: v10 :: L) (.double u :: st) h = zwp (zcall d) m Q r (v0 :: v1 :: v2 :: v3 :: v4 :: v5 :: v6 :: v7 :: zi w :: .double u :: zJ :: L) st h := by rw [zw]; simp [zF, zstep, zSetL, zSetL2, zPrev, Value.category, zi, zl, zJ]
theorem r_istore_9r : zwp (zcall d) m Q (.istore 9 :: r) (v0 :: v1 :: v2 :: v3 :: v4 :: v5 :: v6 :: v7 :: .ref c :: v9 :: L) (zi x :: st) h = zwp (zcall d) m Q r (v0 :: v1 :: v2 :: v3 :: v4 :: v5 :: v6 :: v7 :: .ref c :: zi x :: L) st h := by rw [zw]; simp [zF, zstep, zSetL, zSetL2, zPrev, Value.category, zi, zl, zJ]
theorem r_astore_9r : zwp (zcall d) m Q (.astore 9 :: r) (v0 :: v1 :: v2 :: v3 :: v4 :: v5 :: v6 :: v7 :: .ref c :: v9 :: L) (.ref a :: st) h = zwp (zcall d) m Q r (v0 :: v1 :: v2 :: v3 :: v4 :: v5 :: v6 :: v7 :: .ref c :: .ref a :: L) st h := by rw [zw]; simp [zF, zstep, zSetL, zSetL2, zPrev, Value.category, zi, zl, zJ]
theorem r_iinc_9r : zwp (zcall d) m Q (.iinc 9 n :: r) (v0 :: v1 :: v2 :: v3 :: v4 :: v5 :: v6 :: v7 :: .ref c :: zi x :: L) st h = zwp (zcall d) m Q r (v0 :: v1 :: v2 :: v3 :: v4 :: v5 :: v6 :: v7 :: .ref c :: zi (x + n) :: L) st h := by rw [zw]; simp [zF, zstep, zSetL, zSetL2, zPrev, Value.category, zi, zl, zJ]
theorem r_dstore_9r  {u : UInt64} : zwp (zcall d) m Q (.dstore 9 :: r) (v0 :: v1 :: v2 :: v3 :: v4 :: v5 :: v6 :: v7 :: .ref c :: v9 :: v10 :: L) (.double u :: st) h = zwp (zcall d) m Q r (v0 :: v1 :: v2 :: v3 :: v4 :: v5 :: v6 :: v7 :: .ref c :: .double u :: zJ :: L) st h := by rw [zw]; simp [zF, zstep, zSetL, zSetL2, zPrev, Value.category, zi, zl, zJ]
theorem r_istore_9j : zwp (zcall d) m Q (.istore 9 :: r) (v0 :: v1 :: v2 :: v3 :: v4 :: v5 :: v6 :: v7 :: zJ :: v9 :: L) (zi x :: st) h = zwp (zcall d) m Q r (v0 :: v1 :: v2 :: v3 :: v4 :: v5 :: v6 :: v7 :: zJ :: zi x :: L) st h := by rw [zw]; simp [zF, zstep, zSetL, zSetL2, zPrev, Value.category, zi, zl, zJ]
theorem r_astore_9j : zwp (zcall d) m Q (.astore 9 :: r) (v0 :: v1 :: v2 :: v3 :: v4 :: v5 :: v6 :: v7 :: zJ :: v9 :: L) (.ref a :: st) h = zwp (zcall d) m Q r (v0 :: v1 :: v2 :: v3 :: v4 :: v5 :: v6 :: v7 :: zJ :: .ref a :: L) st h := by rw [zw]; simp [zF, zstep, zSetL, zSetL2, zPrev, Value.category, zi, zl, zJ]
theorem r_iinc_9j : zwp (zcall d) m Q (.iinc 9 n :: r) (v0 :: v1 :: v2 :: v3 :: v4 :: v5 :: v6 :: v7 :: zJ :: zi x :: L) st h = zwp (zcall d) m Q r (v0 :: v1 :: v2 :: v3 :: v4 :: v5 :: v6 :: v7 :: zJ :: zi (x + n) :: L) st h := by rw [zw]; simp [zF, zstep, zSetL, zSetL2, zPrev, Value.category, zi, zl, zJ]
theorem r_dstore_9j  {u : UInt64} : zwp (zcall d) m Q (.dstore 9 :: r) (v0 :: v1 :: v2 :: v3 :: v4 :: v5 :: v6 :: v7 :: zJ :: v9 :: v10 :: L) (.double u :: st) h = zwp (zcall d) m Q r (v0 :: v1 :: v2 :: v3 :: v4 :: v5 :: v6 :: v7 :: zJ :: .double u :: zJ :: L) st h := by rw [zw]; simp [zF, zstep, zSetL, zSetL2, zPrev, Value.category, zi, zl, zJ]
theorem r_istore_10i {w : Int} : zwp (zcall d) m Q (.istore 10 :: r) (v0 :: v1 :: v2 :: v3 :: v4 :: v5 :: v6 :: v7 :: v8 :: zi w :: v10 :: L) (zi x :: st) h = zwp (zcall d) m Q r (v0 :: v1 :: v2 :: v3 :: v4 :: v5 :: v6 :: v7 :: v8 :: zi w :: zi x :: L) st h := by rw [zw]; simp [zF, zstep, zSetL, zSetL2, zPrev, Value.category, zi, zl, zJ]
theorem r_astore_10i {w : Int} : zwp (zcall d) m Q (.astore 10 :: r) (v0 :: v1 :: v2 :: v3 :: v4 :: v5 :: v6 :: v7 :: v8 :: zi w :: v10 :: L) (.ref a :: st) h = zwp (zcall d) m Q r (v0 :: v1 :: v2 :: v3 :: v4 :: v5 :: v6 :: v7 :: v8 :: zi w :: .ref a :: L) st h := by rw [zw]; simp [zF, zstep, zSetL, zSetL2, zPrev, Value.category, zi, zl, zJ]
theorem r_iinc_10i {w : Int} : zwp (zcall d) m Q (.iinc 10 n :: r) (v0 :: v1 :: v2 :: v3 :: v4 :: v5 :: v6 :: v7 :: v8 :: zi w :: zi x :: L) st h = zwp (zcall d) m Q r (v0 :: v1 :: v2 :: v3 :: v4 :: v5 :: v6 :: v7 :: v8 :: zi w :: zi (x + n) :: L) st h := by rw [zw]; simp [zF, zstep, zSetL, zSetL2, zPrev, Value.category, zi, zl, zJ]
theorem r_dstore_10i {w : Int} {u : UInt64} : zwp (zcall d) m Q (.dstore 10 :: r) (v0 :: v1 :: v2 :: v3 :: v4 :: v5 :: v6 :: v7 :: v8 :: zi w :: v10 :: v11 :: L) (.double u :: st) h = zwp (zcall d) m Q r (v0 :: v1 :: v2 :: v3 :: v4 :: v5 :: v6 :: v7 :: v8 :: zi w :: .double u :: zJ :: L) st h := by rw [zw]; simp [zF, zstep, zSetL, zSetL2, zPrev, Value.category, zi, zl, zJ]
theorem r_istore_10r : zwp (zcall d) m Q (.istore 10 :: r) (v0 :: v1 :: v2 :: v3 :: v4 :: v5 :: v6 :: v7 :: v8 :: .ref c :: v10 :: L) (zi x :: st) h = zwp (zcall d) m Q r (v0 :: v1 :: v2 :: v3 :: v4 :: v5 :: v6 :: v7 :: v8 :: .ref c :: zi x :: L) st h := by rw [zw]; simp [zF, zstep, zSetL, zSetL2, zPrev, Value.category, zi, zl, zJ]
theorem r_astore_10r : zwp (zcall d) m Q (.astore 10 :: r) (v0 :: v1 :: v2 :: v3 :: v4 :: v5 :: v6 :: v7 :: v8 :: .ref c :: v10 :: L) (.ref a :: st) h = zwp (zcall d) m Q r (v0 :: v1 :: v2 :: v3 :: v4 :: v5 :: v6 :: v7 :: v8 :: .ref c :: .ref a :: L) st h := by rw [zw]; simp [zF, zstep, zSetL, zSetL2, zPrev, Value.category, zi, zl, zJ]
theorem r_iinc_10r : zwp (zcall d) m Q (.iinc 10 n :: r) (v0 :: v1 :: v2 :: v3 :: v4 :: v5 :: v6 :: v7 :: v8 :: .ref c :: zi x :: L) st h = zwp (zcall d) m Q r (v0 :: v1 :: v2 :: v3 :: v4 :: v5 :: v6 :: v7 :: v8 :: .ref c :: zi (x + n) :: L) st h := by rw [zw]; simp [zF, zstep, zSetL, zSetL2, zPrev, Value.category, zi, zl, zJ]
theorem r_dstore_10r  {u : UInt64} : zwp (zcall d) m Q (.dstore 10 :: r) (v0 :: v1 :: v2 :: v3 :: v4 :: v5 :: v6 :: v7 :: v8 :: .ref c :: v10 :: v11 :: L) (.double u :: st) h = zwp (zcall d) m Q r (v0 :: v1 :: v2 :: v3 :: v4 :: v5 :: v6 :: v7 :: v8 :: .ref c :: .double u :: zJ :: L) st h := by rw [zw]; simp [zF, zstep, zSetL, zSetL2, zPrev, Value.category, zi, zl, zJ]
theorem r_istore_10j : zwp (zcall d) m Q (.istore 10 :: r) (v0 :: v1 :: v2 :: v3 :: v4 :: v5 :: v6 :: v7 :: v8 :: zJ :: v10 :: L) (zi x :: st) h = zwp (zcall d) m Q r (v0 :: v1 :: v2 :: v3 :: v4 :: v5 :: v6 :: v7 :: v8 :: zJ :: zi x :: L) st h := by rw [zw]; simp [zF, zstep, zSetL, zSetL2, zPrev, Value.category, zi, zl, zJ]
theorem r_astore_10j : zwp (zcall d) m Q (.astore 10 :: r) (v0 :: v1 :: v2 :: v3 :: v4 :: v5 :: v6 :: v7 :: v8 :: zJ :: v10 :: L) (.ref a :: st) h = zwp (zcall d) m Q r (v0 :: v1 :: v2 :: v3 :: v4 :: v5 :: v6 :: v7 :: v8 :: zJ :: .ref a :: L) st h := by rw [zw]; simp [zF, zstep, zSetL, zSetL2, zPrev, Value.category, zi, zl, zJ]
theorem r_iinc_10j : zwp (zcall d) m Q (.iinc 10 n :: r) (v0 :: v1 :: v2 :: v3 :: v4 :: v5 :: v6 :: v7 :: v8 :: zJ :: zi x :: L) st h = zwp (zcall d) m Q r (v0 :: v1 :: v2 :: v3 :: v4 :: v5 :: v6 :: v7 :: v8 :: zJ :: zi (x + n) :: L) st h := by rw [zw]; simp [zF, zstep, zSetL, zSetL2, zPrev, Value.category, zi, zl, zJ]
theorem r_dstore_10j  {u : UInt64} : zwp (zcall d) m Q (.dstore 10 :: r) (v0 :: v1 :: v2 :: v3 :: v4 :: v5 :: v6 :: v7 :: v8 :: zJ :: v10 :: v11 :: L) (.double u :: st) h = zwp (zcall d) m Q r (v0 :: v1 :: v2 :: v3 :: v4 :: v5 :: v6 :: v7 :: v8 :: zJ :: .double u :: zJ :: L) st h := by rw [zw]; simp [zF, zstep, zSetL, zSetL2, zPrev, Value.category, zi, zl, zJ]
theorem r_istore_11i {w : Int} : zwp (zcall d) m Q (.istore 11 :: r) (v0 :: v1 :: v2 :: v3 :: v4 :: v5 :: v6 :: v7 :: v8 :: v9 :: zi w :: v11 :: L) (zi x :: st) h = zwp (zcall d) m Q r (v0 :: v1 :: v2 :: v3 :: v4 :: v5 :: v6 :: v7 :: v8 :: v9 :: zi w :: zi x :: L) st h := by rw [zw]; simp [zF, zstep, zSetL, zSetL2, zPrev, Value.category, zi, zl, zJ]
theorem r_astore_11i {w : Int} : zwp (zcall d) m Q (.astore 11 :: r) (v0 :: v1 :: v2 :: v3 :: v4 :: v5 :: v6 :: v7 :: v8 :: v9 :: zi w :: v11 :: L) (.ref a :: st) h = zwp (zcall d) m Q r (v0 :: v1 :: v2 :: v3 :: v4 :: v5 :: v6 :: v7 :: v8 :: v9 :: zi w :: .ref a :: L) st h := by rw [zw]; simp [zF, zstep, zSetL, zSetL2, zPrev, Value.category, zi, zl, zJ]
theorem r_iinc_11i {w : Int} : zwp (zcall d) m Q (.iinc 11 n :: r) (v0 :: v1 :: v2 :: v3 :: v4 :: v5 :: v6 :: v7 :: v8 :: v9 :: zi w :: zi x :: L) st h = zwp (zcall d) m Q r (v0 :: v1 :: v2 :: v3 :: v4 :: v5 :: v6 :: v7 :: v8 :: v9 :: zi w :: zi (x + n) :: L) st h := by rw [zw]; simp [zF, zstep, zSetL, zSetL2, zPrev, Value.category, zi, zl, zJ]
theorem r_istore_11r : zwp (zcall d) m Q (.istore 11 :: r) (v0 :: v1 :: v2 :: v3 :: v4 :: v5 :: v6 :: v7 :: v8 :: v9 :: .ref c :: v11 :: L) (zi x :: st) h = zwp (zcall d) m Q r (v0 :: v1 :: v2 :: v3 :: v4 :: v5 :: v6 :: v7 :: v8 :: v9 :: .ref c :: zi x :: L) st h := by rw [zw]; simp [zF, zstep, zSetL, zSetL2, zPrev, Value.category, zi, zl, zJ]
theorem r_astore_11r : zwp (zcall d) m Q (.astore 11 :: r) (v0 :: v1 :: v2 :: v3 :: v4 :: v5 :: v6 :: v7 :: v8 :: v9 :: .ref c :: v11 :: L) (.ref a :: st) h = zwp (zcall d) m Q r (v0 :: v1 :: v2 :: v3 :: v4 :: v5 :: v6 :: v7 :: v8 :: v9 :: .ref c :: .ref a :: L) st h := by rw [zw]; simp [zF, zstep, zSetL, zSetL2, zPrev, Value.category, zi, zl, zJ]
theorem r_iinc_11r : zwp (zcall d) m Q (.iinc 11 n :: r) (v0 :: v1 :: v2 :: v3 :: v4 :: v5 :: v6 :: v7 :: v8 :: v9 :: .ref c :: zi x :: L) st h = zwp (zcall d) m Q r (v0 :: v1 :: v2 :: v3 :: v4 :: v5 :: v6 :: v7 :: v8 :: v9 :: .ref c :: zi (x + n) :: L) st h := by rw [zw]; simp [zF, zstep, zSetL, zSetL2, zPrev, Value.category, zi, zl, zJ]
theorem r_istore_11j : zwp (zcall d) m Q (.istore 11 :: r) (v0 :: v1 :: v2 :: v3 :: v4 :: v5 :: v6 :: v7 :: v8 :: v9 :: zJ :: v11 :: L) (zi x :: st) h = zwp (zcall d) m Q r (v0 :: v1 :: v2 :: v3 :: v4 :: v5 :: v6 :: v7 :: v8 :: v9 :: zJ :: zi x :: L) st h := by rw [zw]; simp [zF, zstep, zSetL, zSetL2, zPrev, Value.category, zi, zl, zJ]
theorem r_astore_11j : zwp (zcall d) m Q (.astore 11 :: r) (v0 :: v1 :: v2 :: v3 :: v4 :: v5 :: v6 :: v7 :: v8 :: v9 :: zJ :: v11 :: L) (.ref a :: st) h = zwp (zcall d) m Q r (v0 :: v1 :: v2 :: v3 :: v4 :: v5 :: v6 :: v7 :: v8 :: v9 :: zJ :: .ref a :: L) st h := by rw [zw]; simp [zF, zstep, zSetL, zSetL2, zPrev, Value.category, zi, zl, zJ]
theorem r_iinc_11j : zwp (zcall d) m Q (.iinc 11 n :: r) (v0 :: v1 :: v2 :: v3 :: v4 :: v5 :: v6 :: v7 :: v8 :: v9 :: zJ :: zi x :: L) st h = zwp (zcall d) m Q r (v0 :: v1 :: v2 :: v3 :: v4 :: v5 :: v6 :: v7 :: v8 :: v9 :: zJ :: zi (x + n) :: L) st h := by rw [zw]; simp [zF, zstep, zSetL, zSetL2, zPrev, Value.category, zi, zl, zJ]
theorem r_iconst : zwp (zcall d) m Q (.iconst n :: r) L st h = zwp (zcall d) m Q r L (zi n :: st) h := by rw [zw]; rfl
theorem r_lconst : zwp (zcall d) m Q (.jsr_w n :: r) L st h = zwp (zcall d) m Q r L (zl n :: st) h := by rw [zw]; rfl
theorem r_dconst : zwp (zcall d) m Q (.jsr n :: r) L st h = zwp (zcall d) m Q r L (.double (UInt64.ofNat n.toNat) :: st) h := by rw [zw]; rfl
theorem r_iadd : zwp (zcall d) m Q (.iadd :: r) L (zi y :: zi x :: st) h = zwp (zcall d) m Q r L (zi (x + y) :: st) h := by rw [zw]; simp only [zi, Int32.ofInt_add]; rfl
theorem r_isub : zwp (zcall d) m Q (.isub :: r) L (zi y :: zi x :: st) h = zwp (zcall d) m Q r L (zi (x - y) :: st) h := by rw [zw]; simp only [zi, Int32.ofInt_sub]; rfl
theorem r_imul : zwp (zcall d) m Q (.imul :: r) L (zi y :: zi x :: st) h = zwp (zcall d) m Q r L (zi (x * y) :: st) h := by rw [zw]; simp only [zi, Int32.ofInt_mul]; rfl
theorem r_iand : zwp (zcall d) m Q (.iand :: r) L (zi y :: zi x :: st) h = zwp (zcall d) m Q r L (zi (zand x y) :: st) h := by rw [zw]; simp only [zi, zand, Int32.ofInt_toInt]; rfl
theorem r_ior : zwp (zcall d) m Q (.ior :: r) L (zi y :: zi x :: st) h = zwp (zcall d) m Q r L (zi (zor x y) :: st) h := by rw [zw]; simp only [zi, zor, Int32.ofInt_toInt]; rfl
theorem r_ixor : zwp (zcall d) m Q (.ixor :: r) L (zi y :: zi x :: st) h = zwp (zcall d) m Q r L (zi (zxor x y) :: st) h := by rw [zw]; simp only [zi, zxor, Int32.ofInt_toInt]; rfl
theorem r_ishl : zwp (zcall d) m Q (.ishl :: r) L (zi y :: zi x :: st) h = zwp (zcall d) m Q r L (zi (zshl x y) :: st) h := by rw [zw]; simp only [zi, zshl, Int32.ofInt_toInt]; rfl
theorem r_ishr : zwp (zcall d) m Q (.ishr :: r) L (zi y :: zi x :: st) h = zwp (zcall d) m Q r L (zi (zshr x y) :: st) h := by rw [zw]; simp only [zi, zshr, Int32.ofInt_toInt]; rfl
theorem r_iushr : zwp (zcall d) m Q (.iushr :: r) L (zi y :: zi x :: st) h = zwp (zcall d) m Q r L (zi (zushr x y) :: st) h := by rw [zw]; simp only [zi, zushr, Int32.ofInt_toInt]; rfl
theorem r_idiv (h1 : y ≠ 0) (h2 : -2147483648 ≤ y) (h3 : y < 2147483648) : zwp (zcall d) m Q (.idiv :: r) L (zi y :: zi x :: st) h = zwp (zcall d) m Q r L (zi (zdiv x y) :: st) h := by
  have e : Int32.ofInt y ≠ 0 := fun q => h1 (by rw [← z_rng h2 h3, q]; rfl)
  rw [zw]; simp only [zF, zstep, zi, zdiv, Int32.ofInt_toInt]; exact if_pos_z e
theorem r_ladd : zwp (zcall d) m Q (.ladd :: r) L (zl y :: zl x :: st) h = zwp (zcall d) m Q r L (zl (x + y) :: st) h := by rw [zw]; simp only [zl, Int64.ofInt_add]; rfl
theorem r_lmul : zwp (zcall d) m Q (.lmul :: r) L (zl y :: zl x :: st) h = zwp (zcall d) m Q r L (zl (x * y) :: st) h := by rw [zw]; simp only [zl, Int64.ofInt_mul]; rfl
theorem r_land {t u : Int64} : zwp (zcall d) m Q (.land :: r) L (.long u :: .long t :: st) h = zwp (zcall d) m Q r L (.long (t &&& u) :: st) h := by rw [zw]; rfl
theorem r_lor {t u : Int64} : zwp (zcall d) m Q (.lor :: r) L (.long u :: .long t :: st) h = zwp (zcall d) m Q r L (.long (t ||| u) :: st) h := by rw [zw]; rfl
theorem r_lushr {t : Int64} : zwp (zcall d) m Q (.lushr :: r) L (zi y :: .long t :: st) h = zwp (zcall d) m Q r L (.long (t.toUInt64 >>> ((Int32.ofInt y).toInt64.toUInt64 &&& Int64.toUInt64 63)).toInt64 :: st) h := by rw [zw]; rfl
theorem r_lcmp : zwp (zcall d) m Q (.lcmp :: r) L (zl y :: zl x :: st) h = zwp (zcall d) m Q r L (.int (lg_cmp (Int64.ofInt x) (Int64.ofInt y)) :: st) h := by rw [zw]; rfl
theorem r_lcmpR {t u : Int64} : zwp (zcall d) m Q (.lcmp :: r) L (.long u :: .long t :: st) h = zwp (zcall d) m Q r L (.int (lg_cmp t u) :: st) h := by rw [zw]; rfl
theorem r_dadd {t u : UInt64} (hn : vf_n64 (FP.dadd t u)) : zwp (zcall d) m Q (.dadd :: r) L (.double u :: .double t :: st) h = zwp (zcall d) m Q r L (.double (FP.dadd t u) :: st) h := by rw [zw]; exact if_pos_z hn
theorem r_dsub {t u : UInt64} (hn : vf_n64 (FP.dsub t u)) : zwp (zcall d) m Q (.dsub :: r) L (.double u :: .double t :: st) h = zwp (zcall d) m Q r L (.double (FP.dsub t u) :: st) h := by rw [zw]; exact if_pos_z hn
theorem r_dmul {t u : UInt64} (hn : vf_n64 (FP.dmul t u)) : zwp (zcall d) m Q (.dmul :: r) L (.double u :: .double t :: st) h = zwp (zcall d) m Q r L (.double (FP.dmul t u) :: st) h := by rw [zw]; exact if_pos_z hn
theorem r_ddiv {t u : UInt64} (hn : vf_n64 (FP.ddiv t u)) : zwp (zcall d) m Q (.ddiv :: r) L (.double u :: .double t :: st) h = zwp (zcall d) m Q r L (.double (FP.ddiv t u) :: st) h := by rw [zw]; exact if_pos_z hn
theorem r_dcmp {t u : UInt64} {op : CmpOp} : zwp (zcall d) m Q (.dcmp op :: r) L (.double u :: .double t :: st) h = zwp (zcall d) m Q r L (.int (Op.cmpValue (FP.dcmp t u) op) :: st) h := by rw [zw]; rfl
theorem r_fcmp {t u : UInt32} {op : CmpOp} : zwp (zcall d) m Q (.fcmp op :: r) L (.float u :: .float t :: st) h = zwp (zcall d) m Q r L (.int (Op.cmpValue (FP.fcmp t u) op) :: st) h := by rw [zw]; rfl
theorem r_i2l (h1 : -2147483648 ≤ x) (h2 : x < 2147483648) : zwp (zcall d) m Q (.i2l :: r) L (zi x :: st) h = zwp (zcall d) m Q r L (zl x :: st) h := by
  have e : (Int32.ofInt x).toInt64 = Int64.ofInt x := Int32.toInt64_ofInt (by simpa using h1) (by have : (Int32.maxValue).toInt = 2147483647 := rfl; omega)
  rw [zw]; simp only [zl, ← e]; rfl
theorem r_i2d : zwp (zcall d) m Q (.i2d :: r) L (zi x :: st) h = zwp (zcall d) m Q r L (.double (FP.i2d (Int32.ofInt x)) :: st) h := by rw [zw]; rfl
theorem r_d2i {u : UInt64} : zwp (zcall d) m Q (.d2i :: r) L (.double u :: st) h = zwp (zcall d) m Q r L (.int (FP.d2i u) :: st) h := by rw [zw]; rfl
theorem r_d2f {u : UInt64} (hn : vf_n32 (FP.d2f u)) : zwp (zcall d) m Q (.d2f :: r) L (.double u :: st) h = zwp (zcall d) m Q r L (.float (FP.d2f u) :: st) h := by rw [zw]; exact if_pos_z hn
theorem r_f2d {u : UInt32} (hn : vf_n64 (FP.f2d u)) : zwp (zcall d) m Q (.f2d :: r) L (.float u :: st) h = zwp (zcall d) m Q r L (.double (FP.f2d u) :: st) h := by rw [zw]; exact if_pos_z hn
theorem r_objI : zwp (zcall d) m Q (.monitorexit :: r) L [.ref a] h = zwp (zcall d) m Q r L [] h := by rw [zw]; rfl
theorem r_f2i {u : UInt32} : zwp (zcall d) m Q (.f2i :: r) L [.float u] h = zwp (zcall d) m Q r L [.int u.toInt32] h := by rw [zw]; rfl
theorem r_dup_i : zwp (zcall d) m Q (.dup :: r) L (zi x :: st) h = zwp (zcall d) m Q r L (zi x :: zi x :: st) h := by rw [zw]; rfl
theorem r_dup_r : zwp (zcall d) m Q (.dup :: r) L (.ref a :: st) h = zwp (zcall d) m Q r L (.ref a :: .ref a :: st) h := by rw [zw]; rfl
theorem r_dup2 : zwp (zcall d) m Q (.dup2 :: r) L (zi x :: .ref a :: st) h = zwp (zcall d) m Q r L (zi x :: .ref a :: zi x :: .ref a :: st) h := by rw [zw]; rfl
theorem r_pop_i : zwp (zcall d) m Q (.pop :: r) L (zi x :: st) h = zwp (zcall d) m Q r L st h := by rw [zw]; rfl
theorem r_pop_r : zwp (zcall d) m Q (.pop :: r) L (.ref a :: st) h = zwp (zcall d) m Q r L st h := by rw [zw]; rfl
theorem r_goto : zwp (zcall d) m Q (.goto l :: r) L st h = zwp (zcall d) m Q (zB m l) L st h := by rw [zw]; rfl
theorem r_goto_w : zwp (zcall d) m Q (.goto_w l :: r) L st h = zwp (zcall d) m Q (zB m l) L st h := by rw [zw]; rfl
theorem r_if_eq (h1 : -2147483648 ≤ x) (h2 : x < 2147483648) : zwp (zcall d) m Q (.ifCond .eq l :: r) L (zi x :: st) h = if x = 0 then zwp (zcall d) m Q (zB m l) L st h else zwp (zcall d) m Q r L st h := by
  rw [zw]
  show (match (if Int32.ofInt x = Int32.ofInt 0 then some (zB m l, L, st, h) else some (r, L, st, h)) with | some q => zwp (zcall d) m Q q.1 q.2.1 q.2.2.1 q.2.2.2 | none => False) = _
  rw [z_ite (hq := inferInstance) (z_eq h1 h2 (by decide) (by decide))]
  exact z_ite2
theorem r_icmp_eq (h1 : -2147483648 ≤ x) (h2 : x < 2147483648) (h3 : -2147483648 ≤ y) (h4 : y < 2147483648) : zwp (zcall d) m Q (.if_icmp .eq l :: r) L (zi y :: zi x :: st) h = if x = y then zwp (zcall d) m Q (zB m l) L st h else zwp (zcall d) m Q r L st h := by
  rw [zw]
  show (match (if Int32.ofInt x = Int32.ofInt y then some (zB m l, L, st, h) else some (r, L, st, h)) with | some q => zwp (zcall d) m Q q.1 q.2.1 q.2.2.1 q.2.2.2 | none => False) = _
  rw [z_ite (hq := inferInstance) (z_eq h1 h2 h3 h4)]
  exact z_ite2
theorem r_if_ne (h1 : -2147483648 ≤ x) (h2 : x < 2147483648) : zwp (zcall d) m Q (.ifCond .ne l :: r) L (zi x :: st) h = if ¬ x = 0 then zwp (zcall d) m Q (zB m l) L st h else zwp (zcall d) m Q r L st h := by
  rw [zw]
  show (match (if ¬ Int32.ofInt x = Int32.ofInt 0 then some (zB m l, L, st, h) else some (r, L, st, h)) with | some q => zwp (zcall d) m Q q.1 q.2.1 q.2.2.1 q.2.2.2 | none => False) = _
  rw [z_ite (hq := inferInstance) (congrArg Not (z_eq h1 h2 (by decide) (by decide)))]
  exact z_ite2
theorem r_icmp_ne (h1 : -2147483648 ≤ x) (h2 : x < 2147483648) (h3 : -2147483648 ≤ y) (h4 : y < 2147483648) : zwp (zcall d) m Q (.if_icmp .ne l :: r) L (zi y :: zi x :: st) h = if ¬ x = y then zwp (zcall d) m Q (zB m l) L st h else zwp (zcall d) m Q r L st h := by
  rw [zw]
  show (match (if ¬ Int32.ofInt x = Int32.ofInt y then some (zB m l, L, st, h) else some (r, L, st, h)) with | some q => zwp (zcall d) m Q q.1 q.2.1 q.2.2.1 q.2.2.2 | none => False) = _
  rw [z_ite (hq := inferInstance) (congrArg Not (z_eq h1 h2 h3 h4))]
  exact z_ite2
theorem r_if_lt (h1 : -2147483648 ≤ x) (h2 : x < 2147483648) : zwp (zcall d) m Q (.ifCond .lt l :: r) L (zi x :: st) h = if x < 0 then zwp (zcall d) m Q (zB m l) L st h else zwp (zcall d) m Q r L st h := by
  rw [zw]
  show (match (if Int32.ofInt x < Int32.ofInt 0 then some (zB m l, L, st, h) else some (r, L, st, h)) with | some q => zwp (zcall d) m Q q.1 q.2.1 q.2.2.1 q.2.2.2 | none => False) = _
  rw [z_ite (hq := inferInstance) (z_lt h1 h2 (by decide) (by decide))]
  exact z_ite2
theorem r_icmp_lt (h1 : -2147483648 ≤ x) (h2 : x < 2147483648) (h3 : -2147483648 ≤ y) (h4 : y < 2147483648) : zwp (zcall d) m Q (.if_icmp .lt l :: r) L (zi y :: zi x :: st) h = if x < y then zwp (zcall d) m Q (zB m l) L st h else zwp (zcall d) m Q r L st h := by
  rw [zw]
  show (match (if Int32.ofInt x < Int32.ofInt y then some (zB m l, L, st, h) else some (r, L, st, h)) with | some q => zwp (zcall d) m Q q.1 q.2.1 q.2.2.1 q.2.2.2 | none => False) = _
  rw [z_ite (hq := inferInstance) (z_lt h1 h2 h3 h4)]
  exact z_ite2
theorem r_if_ge (h1 : -2147483648 ≤ x) (h2 : x < 2147483648) : zwp (zcall d) m Q (.ifCond .ge l :: r) L (zi x :: st) h = if 0 ≤ x then zwp (zcall d) m Q (zB m l) L st h else zwp (zcall d) m Q r L st h := by
  rw [zw]
  show (match (if Int32.ofInt 0 ≤ Int32.ofInt x then some (zB m l, L, st, h) else some (r, L, st, h)) with | some q => zwp (zcall d) m Q q.1 q.2.1 q.2.2.1 q.2.2.2 | none => False) = _
  rw [z_ite (hq := inferInstance) (z_le (by decide) (by decide) h1 h2)]
  exact z_ite2
theorem r_icmp_ge (h1 : -2147483648 ≤ x) (h2 : x < 2147483648) (h3 : -2147483648 ≤ y) (h4 : y < 2147483648) : zwp (zcall d) m Q (.if_icmp .ge l :: r) L (zi y :: zi x :: st) h = if y ≤ x then zwp (zcall d) m Q (zB m l) L st h else zwp (zcall d) m Q r L st h := by
  rw [zw]
  show (match (if Int32.ofInt y ≤ Int32.ofInt x then some (zB m l, L, st, h) else some (r, L, st, h)) with | some q => zwp (zcall d) m Q q.1 q.2.1 q.2.2.1 q.2.2.2 | none => False) = _
  rw [z_ite (hq := inferInstance) (z_le h3 h4 h1 h2)]
  exact z_ite2
theorem r_if_gt (h1 : -2147483648 ≤ x) (h2 : x < 2147483648) : zwp (zcall d) m Q (.ifCond .gt l :: r) L (zi x :: st) h = if 0 < x then zwp (zcall d) m Q (zB m l) L st h else zwp (zcall d) m Q r L st h := by
  rw [zw]
  show (match (if Int32.ofInt 0 < Int32.ofInt x then some (zB m l, L, st, h) else some (r, L, st, h)) with | some q => zwp (zcall d) m Q q.1 q.2.1 q.2.2.1 q.2.2.2 | none => False) = _
  rw [z_ite (hq := inferInstance) (z_lt (by decide) (by decide) h1 h2)]
  exact z_ite2
theorem r_icmp_gt (h1 : -2147483648 ≤ x) (h2 : x < 2147483648) (h3 : -2147483648 ≤ y) (h4 : y < 2147483648) : zwp (zcall d) m Q (.if_icmp .gt l :: r) L (zi y :: zi x :: st) h = if y < x then zwp (zcall d) m Q (zB m l) L st h else zwp (zcall d) m Q r L st h := by
  rw [zw]
  show (match (if Int32.ofInt y < Int32.ofInt x then some (zB m l, L, st, h) else some (r, L, st, h)) with | some q => zwp (zcall d) m Q q.1 q.2.1 q.2.2.1 q.2.2.2 | none => False) = _
  rw [z_ite (hq := inferInstance) (z_lt h3 h4 h1 h2)]
  exact z_ite2
theorem r_if_le (h1 : -2147483648 ≤ x) (h2 : x < 2147483648) : zwp (zcall d) m Q (.ifCond .le l :: r) L (zi x :: st) h = if x ≤ 0 then zwp (zcall d) m Q (zB m l) L st h else zwp (zcall d) m Q r L st h := by
  rw [zw]
  show (match (if Int32.ofInt x ≤ Int32.ofInt 0 then some (zB m l, L, st, h) else some (r, L, st, h)) with | some q => zwp (zcall d) m Q q.1 q.2.1 q.2.2.1 q.2.2.2 | none => False) = _
  rw [z_ite (hq := inferInstance) (z_le h1 h2 (by decide) (by decide))]
  exact z_ite2
theorem r_icmp_le (h1 : -2147483648 ≤ x) (h2 : x < 2147483648) (h3 : -2147483648 ≤ y) (h4 : y < 2147483648) : zwp (zcall d) m Q (.if_icmp .le l :: r) L (zi y :: zi x :: st) h = if x ≤ y then zwp (zcall d) m Q (zB m l) L st h else zwp (zcall d) m Q r L st h := by
  rw [zw]
  show (match (if Int32.ofInt x ≤ Int32.ofInt y then some (zB m l, L, st, h) else some (r, L, st, h)) with | some q => zwp (zcall d) m Q q.1 q.2.1 q.2.2.1 q.2.2.2 | none => False) = _
  rw [z_ite (hq := inferInstance) (z_le h1 h2 h3 h4)]
  exact z_ite2
theorem r_sw {ps : List (Int × Int)} (hs : zSrt ps = true) (h1 : -2147483648 ≤ x) (h2 : x < 2147483648) : zwp (zcall d) m Q (.lookupswitch k (List.toArray ps) :: r) L (zi x :: st) h = zwp (zcall d) m Q (zB m (zsw ps k x)) L st h := by rw [zw]; refine (if_pos_z hs).trans ?_; show zwp (zcall d) m Q (zB m (zsw ps k (Int32.ofInt x).toInt)) L st h = _; rw [z_rng h1 h2]
theorem r_gf_0 (ht : s.tg a = 0) : zwp (zcall d) m Q (.getfield 0 :: r) L (.ref a :: st) (s, V) = zwp (zcall d) m Q r L (V a 0 :: st) (s, V) := by rw [zw]; exact if_pos_z ht
theorem r_pf_0 (ht : s.tg a = 0) : zwp (zcall d) m Q (.putfield 0 :: r) L (.ref b :: .ref a :: st) (s, V) = zwp (zcall d) m Q r L st (s, zput V a 0 (.ref b)) := by rw [zw]; exact if_pos_z ⟨ht, rfl⟩
theorem r_gf_64 (ht : s.tg a = 1) : zwp (zcall d) m Q (.getfield 64 :: r) L (.ref a :: st) (s, V) = zwp (zcall d) m Q r L (V a 0 :: st) (s, V) := by rw [zw]; exact if_pos_z ht
theorem r_pf_64 (ht : s.tg a = 1) : zwp (zcall d) m Q (.putfield 64 :: r) L (.ref b :: .ref a :: st) (s, V) = zwp (zcall d) m Q r L st (s, zput V a 0 (.ref b)) := by rw [zw]; exact if_pos_z ⟨ht, rfl⟩
theorem r_gf_65 (ht : s.tg a = 1) : zwp (zcall d) m Q (.getfield 65 :: r) L (.ref a :: st) (s, V) = zwp (zcall d) m Q r L (V a 1 :: st) (s, V) := by rw [zw]; exact if_pos_z ht
theorem r_pf_65 (ht : s.tg a = 1) : zwp (zcall d) m Q (.putfield 65 :: r) L (.ref b :: .ref a :: st) (s, V) = zwp (zcall d) m Q r L st (s, zput V a 1 (.ref b)) := by rw [zw]; exact if_pos_z ⟨ht, rfl⟩
theorem r_gf_66 (ht : s.tg a = 1) : zwp (zcall d) m Q (.getfield 66 :: r) L (.ref a :: st) (s, V) = zwp (zcall d) m Q r L (V a 2 :: st) (s, V) := by rw [zw]; exact if_pos_z ht
theorem r_pf_66 (ht : s.tg a = 1) : zwp (zcall d) m Q (.putfield 66 :: r) L (.ref b :: .ref a :: st) (s, V) = zwp (zcall d) m Q r L st (s, zput V a 2 (.ref b)) := by rw [zw]; exact if_pos_z ⟨ht, rfl⟩
theorem r_gf_128 (ht : s.tg a = 2) : zwp (zcall d) m Q (.getfield 128 :: r) L (.ref a :: st) (s, V) = zwp (zcall d) m Q r L (V a 0 :: st) (s, V) := by rw [zw]; exact if_pos_z ht
theorem r_pf_128 (ht : s.tg a = 2) : zwp (zcall d) m Q (.putfield 128 :: r) L (.ref b :: .ref a :: st) (s, V) = zwp (zcall d) m Q r L st (s, zput V a 0 (.ref b)) := by rw [zw]; exact if_pos_z ⟨ht, rfl⟩
theorem r_gf_129 (ht : s.tg a = 2) : zwp (zcall d) m Q (.getfield 129 :: r) L (.ref a :: st) (s, V) = zwp (zcall d) m Q r L (V a 1 :: st) (s, V) := by rw [zw]; exact if_pos_z ht
theorem r_pf_129 (ht : s.tg a = 2) : zwp (zcall d) m Q (.putfield 129 :: r) L (.ref b :: .ref a :: st) (s, V) = zwp (zcall d) m Q r L st (s, zput V a 1 (.ref b)) := by rw [zw]; exact if_pos_z ⟨ht, rfl⟩
theorem r_gf_130 (ht : s.tg a = 2) : zwp (zcall d) m Q (.getfield 130 :: r) L (.ref a :: st) (s, V) = zwp (zcall d) m Q r L (V a 2 :: st) (s, V) := by rw [zw]; exact if_pos_z ht
theorem r_pf_130 (ht : s.tg a = 2) : zwp (zcall d) m Q (.putfield 130 :: r) L (zi x :: .ref a :: st) (s, V) = zwp (zcall d) m Q r L st (s, zput V a 2 (zi x)) := by rw [zw]; exact if_pos_z ⟨ht, rfl⟩
theorem r_gf_131 (ht : s.tg a = 2) : zwp (zcall d) m Q (.getfield 131 :: r) L (.ref a :: st) (s, V) = zwp (zcall d) m Q r L (V a 3 :: st) (s, V) := by rw [zw]; exact if_pos_z ht
theorem r_pf_131 (ht : s.tg a = 2) : zwp (zcall d) m Q (.putfield 131 :: r) L (.ref b :: .ref a :: st) (s, V) = zwp (zcall d) m Q r L st (s, zput V a 3 (.ref b)) := by rw [zw]; exact if_pos_z ⟨ht, rfl⟩
theorem r_gf_132 (ht : s.tg a = 2) : zwp (zcall d) m Q (.getfield 132 :: r) L (.ref a :: st) (s, V) = zwp (zcall d) m Q r L (V a 4 :: st) (s, V) := by rw [zw]; exact if_pos_z ht
theorem r_pf_132 (ht : s.tg a = 2) : zwp (zcall d) m Q (.putfield 132 :: r) L (.ref b :: .ref a :: st) (s, V) = zwp (zcall d) m Q r L st (s, zput V a 4 (.ref b)) := by rw [zw]; exact if_pos_z ⟨ht, rfl⟩
theorem r_gf_192 (ht : s.tg a = 3) : zwp (zcall d) m Q (.getfield 192 :: r) L (.ref a :: st) (s, V) = zwp (zcall d) m Q r L (V a 0 :: st) (s, V) := by rw [zw]; exact if_pos_z ht
theorem r_pf_192 (ht : s.tg a = 3) : zwp (zcall d) m Q (.putfield 192 :: r) L (.ref b :: .ref a :: st) (s, V) = zwp (zcall d) m Q r L st (s, zput V a 0 (.ref b)) := by rw [zw]; exact if_pos_z ⟨ht, rfl⟩
theorem r_gf_193 (ht : s.tg a = 3) : zwp (zcall d) m Q (.getfield 193 :: r) L (.ref a :: st) (s, V) = zwp (zcall d) m Q r L (V a 1 :: st) (s, V) := by rw [zw]; exact if_pos_z ht
theorem r_pf_193 (ht : s.tg a = 3) : zwp (zcall d) m Q (.putfield 193 :: r) L (zi x :: .ref a :: st) (s, V) = zwp (zcall d) m Q r L st (s, zput V a 1 (zi x)) := by rw [zw]; exact if_pos_z ⟨ht, rfl⟩
theorem r_gf_256 (ht : s.tg a = 4) : zwp (zcall d) m Q (.getfield 256 :: r) L (.ref a :: st) (s, V) = zwp (zcall d) m Q r L (V a 0 :: st) (s, V) := by rw [zw]; exact if_pos_z ht
theorem r_pf_256 (ht : s.tg a = 4) : zwp (zcall d) m Q (.putfield 256 :: r) L (.ref b :: .ref a :: st) (s, V) = zwp (zcall d) m Q r L st (s, zput V a 0 (.ref b)) := by rw [zw]; exact if_pos_z ⟨ht, rfl⟩
theorem r_gf_257 (ht : s.tg a = 4) : zwp (zcall d) m Q (.getfield 257 :: r) L (.ref a :: st) (s, V) = zwp (zcall d) m Q r L (V a 1 :: st) (s, V) := by rw [zw]; exact if_pos_z ht
theorem r_pf_257 (ht : s.tg a = 4) : zwp (zcall d) m Q (.putfield 257 :: r) L (.ref b :: .ref a :: st) (s, V) = zwp (zcall d) m Q r L st (s, zput V a 1 (.ref b)) := by rw [zw]; exact if_pos_z ⟨ht, rfl⟩
theorem r_gf_258 (ht : s.tg a = 4) : zwp (zcall d) m Q (.getfield 258 :: r) L (.ref a :: st) (s, V) = zwp (zcall d) m Q r L (V a 2 :: st) (s, V) := by rw [zw]; exact if_pos_z ht
theorem r_pf_258 (ht : s.tg a = 4) : zwp (zcall d) m Q (.putfield 258 :: r) L (.ref b :: .ref a :: st) (s, V) = zwp (zcall d) m Q r L st (s, zput V a 2 (.ref b)) := by rw [zw]; exact if_pos_z ⟨ht, rfl⟩
theorem r_gf_259 (ht : s.tg a = 4) : zwp (zcall d) m Q (.getfield 259 :: r) L (.ref a :: st) (s, V) = zwp (zcall d) m Q r L (V a 3 :: st) (s, V) := by rw [zw]; exact if_pos_z ht
theorem r_pf_259 (ht : s.tg a = 4) : zwp (zcall d) m Q (.putfield 259 :: r) L (.ref b :: .ref a :: st) (s, V) = zwp (zcall d) m Q r L st (s, zput V a 3 (.ref b)) := by rw [zw]; exact if_pos_z ⟨ht, rfl⟩
theorem r_gf_320 (ht : s.tg a = 5) : zwp (zcall d) m Q (.getfield 320 :: r) L (.ref a :: st) (s, V) = zwp (zcall d) m Q r L (V a 0 :: st) (s, V) := by rw [zw]; exact if_pos_z ht
theorem r_pf_320_0 (ht : s.tg a = 5) : zwp (zcall d) m Q (.putfield 320 :: r) L (zi 0 :: .ref a :: st) (s, V) = zwp (zcall d) m Q r L st (s, zput V a 0 (zi 0)) := by rw [zw]; exact if_pos_z ⟨ht, rfl⟩
theorem r_pf_320_1 (ht : s.tg a = 5) : zwp (zcall d) m Q (.putfield 320 :: r) L (zi 1 :: .ref a :: st) (s, V) = zwp (zcall d) m Q r L st (s, zput V a 0 (zi 1)) := by rw [zw]; exact if_pos_z ⟨ht, rfl⟩
theorem r_pf_320 (ht : s.tg a = 5) (hx : x = 0 ∨ x = 1) : zwp (zcall d) m Q (.putfield 320 :: r) L (zi x :: .ref a :: st) (s, V) = zwp (zcall d) m Q r L st (s, zput V a 0 (zi x)) := by rw [zw]; rcases hx with rfl | rfl <;> exact if_pos_z ⟨ht, rfl⟩
theorem r_gf_321 (ht : s.tg a = 5) : zwp (zcall d) m Q (.getfield 321 :: r) L (.ref a :: st) (s, V) = zwp (zcall d) m Q r L (V a 1 :: st) (s, V) := by rw [zw]; exact if_pos_z ht
theorem r_pf_321 (ht : s.tg a = 5) : zwp (zcall d) m Q (.putfield 321 :: r) L (zi x :: .ref a :: st) (s, V) = zwp (zcall d) m Q r L st (s, zput V a 1 (zi x)) := by rw [zw]; exact if_pos_z ⟨ht, rfl⟩
theorem r_gf_322 (ht : s.tg a = 5) : zwp (zcall d) m Q (.getfield 322 :: r) L (.ref a :: st) (s, V) = zwp (zcall d) m Q r L (V a 2 :: st) (s, V) := by rw [zw]; exact if_pos_z ht
theorem r_pf_322 (ht : s.tg a = 5) : zwp (zcall d) m Q (.putfield 322 :: r) L (zi x :: .ref a :: st) (s, V) = zwp (zcall d) m Q r L st (s, zput V a 2 (zi x)) := by rw [zw]; exact if_pos_z ⟨ht, rfl⟩
theorem r_gf_323 (ht : s.tg a = 5) : zwp (zcall d) m Q (.getfield 323 :: r) L (.ref a :: st) (s, V) = zwp (zcall d) m Q r L (V a 3 :: st) (s, V) := by rw [zw]; exact if_pos_z ht
theorem r_pf_323 (ht : s.tg a = 5) : zwp (zcall d) m Q (.putfield 323 :: r) L (zi x :: .ref a :: st) (s, V) = zwp (zcall d) m Q r L st (s, zput V a 3 (zi x)) := by rw [zw]; exact if_pos_z ⟨ht, rfl⟩
theorem r_gf_324 (ht : s.tg a = 5) : zwp (zcall d) m Q (.getfield 324 :: r) L (.ref a :: st) (s, V) = zwp (zcall d) m Q r L (V a 4 :: st) (s, V) := by rw [zw]; exact if_pos_z ht
theorem r_pf_324 (ht : s.tg a = 5) : zwp (zcall d) m Q (.putfield 324 :: r) L (zi x :: .ref a :: st) (s, V) = zwp (zcall d) m Q r L st (s, zput V a 4 (zi x)) := by rw [zw]; exact if_pos_z ⟨ht, rfl⟩
theorem r_gf_325 (ht : s.tg a = 5) : zwp (zcall d) m Q (.getfield 325 :: r) L (.ref a :: st) (s, V) = zwp (zcall d) m Q r L (V a 5 :: st) (s, V) := by rw [zw]; exact if_pos_z ht
theorem r_pf_325 (ht : s.tg a = 5) : zwp (zcall d) m Q (.putfield 325 :: r) L (zi x :: .ref a :: st) (s, V) = zwp (zcall d) m Q r L st (s, zput V a 5 (zi x)) := by rw [zw]; exact if_pos_z ⟨ht, rfl⟩
theorem r_gf_326 (ht : s.tg a = 5) : zwp (zcall d) m Q (.getfield 326 :: r) L (.ref a :: st) (s, V) = zwp (zcall d) m Q r L (V a 6 :: st) (s, V) := by rw [zw]; exact if_pos_z ht
theorem r_pf_326 (ht : s.tg a = 5) : zwp (zcall d) m Q (.putfield 326 :: r) L (zi x :: .ref a :: st) (s, V) = zwp (zcall d) m Q r L st (s, zput V a 6 (zi x)) := by rw [zw]; exact if_pos_z ⟨ht, rfl⟩
theorem r_gf_327 (ht : s.tg a = 5) : zwp (zcall d) m Q (.getfield 327 :: r) L (.ref a :: st) (s, V) = zwp (zcall d) m Q r L (V a 7 :: st) (s, V) := by rw [zw]; exact if_pos_z ht
theorem r_pf_327 (ht : s.tg a = 5) : zwp (zcall d) m Q (.putfield 327 :: r) L (zi x :: .ref a :: st) (s, V) = zwp (zcall d) m Q r L st (s, zput V a 7 (zi x)) := by rw [zw]; exact if_pos_z ⟨ht, rfl⟩
theorem r_gf_328 (ht : s.tg a = 5) : zwp (zcall d) m Q (.getfield 328 :: r) L (.ref a :: st) (s, V) = zwp (zcall d) m Q r L (V a 8 :: st) (s, V) := by rw [zw]; exact if_pos_z ht
theorem r_pf_328 (ht : s.tg a = 5) : zwp (zcall d) m Q (.putfield 328 :: r) L (.ref b :: .ref a :: st) (s, V) = zwp (zcall d) m Q r L st (s, zput V a 8 (.ref b)) := by rw [zw]; exact if_pos_z ⟨ht, rfl⟩
theorem r_gf_329 (ht : s.tg a = 5) : zwp (zcall d) m Q (.getfield 329 :: r) L (.ref a :: st) (s, V) = zwp (zcall d) m Q r L (V a 9 :: st) (s, V) := by rw [zw]; exact if_pos_z ht
theorem r_pf_329 (ht : s.tg a = 5) : zwp (zcall d) m Q (.putfield 329 :: r) L (.ref b :: .ref a :: st) (s, V) = zwp (zcall d) m Q r L st (s, zput V a 9 (.ref b)) := by rw [zw]; exact if_pos_z ⟨ht, rfl⟩
theorem r_gf_448 (ht : s.tg a = 7) : zwp (zcall d) m Q (.getfield 448 :: r) L (.ref a :: st) (s, V) = zwp (zcall d) m Q r L (V a 0 :: st) (s, V) := by rw [zw]; exact if_pos_z ht
theorem r_pf_448 (ht : s.tg a = 7) : zwp (zcall d) m Q (.putfield 448 :: r) L (zi x :: .ref a :: st) (s, V) = zwp (zcall d) m Q r L st (s, zput V a 0 (zi x)) := by rw [zw]; exact if_pos_z ⟨ht, rfl⟩
theorem r_gf_449 (ht : s.tg a = 7) : zwp (zcall d) m Q (.getfield 449 :: r) L (.ref a :: st) (s, V) = zwp (zcall d) m Q r L (V a 1 :: st) (s, V) := by rw [zw]; exact if_pos_z ht
theorem r_pf_449 (ht : s.tg a = 7) : zwp (zcall d) m Q (.putfield 449 :: r) L (zi x :: .ref a :: st) (s, V) = zwp (zcall d) m Q r L st (s, zput V a 1 (zi x)) := by rw [zw]; exact if_pos_z ⟨ht, rfl⟩
theorem r_gf_450 (ht : s.tg a = 7) : zwp (zcall d) m Q (.getfield 450 :: r) L (.ref a :: st) (s, V) = zwp (zcall d) m Q r L (V a 2 :: st) (s, V) := by rw [zw]; exact if_pos_z ht
theorem r_pf_450 (ht : s.tg a = 7) : zwp (zcall d) m Q (.putfield 450 :: r) L (.ref b :: .ref a :: st) (s, V) = zwp (zcall d) m Q r L st (s, zput V a 2 (.ref b)) := by rw [zw]; exact if_pos_z ⟨ht, rfl⟩
theorem r_gf_451 (ht : s.tg a = 7) : zwp (zcall d) m Q (.getfield 451 :: r) L (.ref a :: st) (s, V) = zwp (zcall d) m Q r L (V a 3 :: st) (s, V) := by rw [zw]; exact if_pos_z ht
theorem r_pf_451 (ht : s.tg a = 7) : zwp (zcall d) m Q (.putfield 451 :: r) L (.ref b :: .ref a :: st) (s, V) = zwp (zcall d) m Q r L st (s, zput V a 3 (.ref b)) := by rw [zw]; exact if_pos_z ⟨ht, rfl⟩
theorem r_gf_512 (ht : s.tg a = 8) : zwp (zcall d) m Q (.getfield 512 :: r) L (.ref a :: st) (s, V) = zwp (zcall d) m Q r L (V a 0 :: st) (s, V) := by rw [zw]; exact if_pos_z ht
theorem r_pf_512 (ht : s.tg a = 8) : zwp (zcall d) m Q (.putfield 512 :: r) L (.ref b :: .ref a :: st) (s, V) = zwp (zcall d) m Q r L st (s, zput V a 0 (.ref b)) := by rw [zw]; exact if_pos_z ⟨ht, rfl⟩
theorem r_gf_513 (ht : s.tg a = 8) : zwp (zcall d) m Q (.getfield 513 :: r) L (.ref a :: st) (s, V) = zwp (zcall d) m Q r L (V a 1 :: st) (s, V) := by rw [zw]; exact if_pos_z ht
theorem r_pf_513 (ht : s.tg a = 8) : zwp (zcall d) m Q (.putfield 513 :: r) L (zi x :: .ref a :: st) (s, V) = zwp (zcall d) m Q r L st (s, zput V a 1 (zi x)) := by rw [zw]; exact if_pos_z ⟨ht, rfl⟩
theorem r_gf_514 (ht : s.tg a = 8) : zwp (zcall d) m Q (.getfield 514 :: r) L (.ref a :: st) (s, V) = zwp (zcall d) m Q r L (V a 2 :: st) (s, V) := by rw [zw]; exact if_pos_z ht
theorem r_pf_514 (ht : s.tg a = 8) : zwp (zcall d) m Q (.putfield 514 :: r) L (.ref b :: .ref a :: st) (s, V) = zwp (zcall d) m Q r L st (s, zput V a 2 (.ref b)) := by rw [zw]; exact if_pos_z ⟨ht, rfl⟩
theorem r_gf_515 (ht : s.tg a = 8) : zwp (zcall d) m Q (.getfield 515 :: r) L (.ref a :: st) (s, V) = zwp (zcall d) m Q r L (V a 3 :: st) (s, V) := by rw [zw]; exact if_pos_z ht
theorem r_pf_515 (ht : s.tg a = 8) : zwp (zcall d) m Q (.putfield 515 :: r) L (.ref b :: .ref a :: st) (s, V) = zwp (zcall d) m Q r L st (s, zput V a 3 (.ref b)) := by rw [zw]; exact if_pos_z ⟨ht, rfl⟩
theorem r_gf_576 (ht : s.tg a = 9) : zwp (zcall d) m Q (.getfield 576 :: r) L (.ref a :: st) (s, V) = zwp (zcall d) m Q r L (V a 0 :: st) (s, V) := by rw [zw]; exact if_pos_z ht
theorem r_pf_576 (ht : s.tg a = 9) : zwp (zcall d) m Q (.putfield 576 :: r) L (.ref b :: .ref a :: st) (s, V) = zwp (zcall d) m Q r L st (s, zput V a 0 (.ref b)) := by rw [zw]; exact if_pos_z ⟨ht, rfl⟩
theorem r_gf_577 (ht : s.tg a = 9) : zwp (zcall d) m Q (.getfield 577 :: r) L (.ref a :: st) (s, V) = zwp (zcall d) m Q r L (V a 1 :: st) (s, V) := by rw [zw]; exact if_pos_z ht
theorem r_pf_577 (ht : s.tg a = 9) : zwp (zcall d) m Q (.putfield 577 :: r) L (.ref b :: .ref a :: st) (s, V) = zwp (zcall d) m Q r L st (s, zput V a 1 (.ref b)) := by rw [zw]; exact if_pos_z ⟨ht, rfl⟩
theorem r_gf_578 (ht : s.tg a = 9) : zwp (zcall d) m Q (.getfield 578 :: r) L (.ref a :: st) (s, V) = zwp (zcall d) m Q r L (V a 2 :: st) (s, V) := by rw [zw]; exact if_pos_z ht
theorem r_pf_578 (ht : s.tg a = 9) : zwp (zcall d) m Q (.putfield 578 :: r) L (.ref b :: .ref a :: st) (s, V) = zwp (zcall d) m Q r L st (s, zput V a 2 (.ref b)) := by rw [zw]; exact if_pos_z ⟨ht, rfl⟩
theorem r_gf_579 (ht : s.tg a = 9) : zwp (zcall d) m Q (.getfield 579 :: r) L (.ref a :: st) (s, V) = zwp (zcall d) m Q r L (V a 3 :: st) (s, V) := by rw [zw]; exact if_pos_z ht
theorem r_pf_579 (ht : s.tg a = 9) : zwp (zcall d) m Q (.putfield 579 :: r) L (.ref b :: .ref a :: st) (s, V) = zwp (zcall d) m Q r L st (s, zput V a 3 (.ref b)) := by rw [zw]; exact if_pos_z ⟨ht, rfl⟩
theorem r_gf_580 (ht : s.tg a = 9) : zwp (zcall d) m Q (.getfield 580 :: r) L (.ref a :: st) (s, V) = zwp (zcall d) m Q r L (V a 4 :: st) (s, V) := by rw [zw]; exact if_pos_z ht
theorem r_pf_580 (ht : s.tg a = 9) : zwp (zcall d) m Q (.putfield 580 :: r) L (.ref b :: .ref a :: st) (s, V) = zwp (zcall d) m Q r L st (s, zput V a 4 (.ref b)) := by rw [zw]; exact if_pos_z ⟨ht, rfl⟩
theorem r_gf_581 (ht : s.tg a = 9) : zwp (zcall d) m Q (.getfield 581 :: r) L (.ref a :: st) (s, V) = zwp (zcall d) m Q r L (V a 5 :: st) (s, V) := by rw [zw]; exact if_pos_z ht
theorem r_pf_581 (ht : s.tg a = 9) : zwp (zcall d) m Q (.putfield 581 :: r) L (.ref b :: .ref a :: st) (s, V) = zwp (zcall d) m Q r L st (s, zput V a 5 (.ref b)) := by rw [zw]; exact if_pos_z ⟨ht, rfl⟩
theorem r_gf_582 (ht : s.tg a = 9) : zwp (zcall d) m Q (.getfield 582 :: r) L (.ref a :: st) (s, V) = zwp (zcall d) m Q r L (V a 6 :: st) (s, V) := by rw [zw]; exact if_pos_z ht
theorem r_pf_582 (ht : s.tg a = 9) : zwp (zcall d) m Q (.putfield 582 :: r) L (.ref b :: .ref a :: st) (s, V) = zwp (zcall d) m Q r L st (s, zput V a 6 (.ref b)) := by rw [zw]; exact if_pos_z ⟨ht, rfl⟩
theorem r_gf_583 (ht : s.tg a = 9) : zwp (zcall d) m Q (.getfield 583 :: r) L (.ref a :: st) (s, V) = zwp (zcall d) m Q r L (V a 7 :: st) (s, V) := by rw [zw]; exact if_pos_z ht
theorem r_pf_583 (ht : s.tg a = 9) : zwp (zcall d) m Q (.putfield 583 :: r) L (.ref b :: .ref a :: st) (s, V) = zwp (zcall d) m Q r L st (s, zput V a 7 (.ref b)) := by rw [zw]; exact if_pos_z ⟨ht, rfl⟩
theorem r_gf_584 (ht : s.tg a = 9) : zwp (zcall d) m Q (.getfield 584 :: r) L (.ref a :: st) (s, V) = zwp (zcall d) m Q r L (V a 8 :: st) (s, V) := by rw [zw]; exact if_pos_z ht
theorem r_pf_584 (ht : s.tg a = 9) : zwp (zcall d) m Q (.putfield 584 :: r) L (.ref b :: .ref a :: st) (s, V) = zwp (zcall d) m Q r L st (s, zput V a 8 (.ref b)) := by rw [zw]; exact if_pos_z ⟨ht, rfl⟩
theorem r_gf_640 (ht : s.tg a = 10) : zwp (zcall d) m Q (.getfield 640 :: r) L (.ref a :: st) (s, V) = zwp (zcall d) m Q r L (V a 0 :: st) (s, V) := by rw [zw]; exact if_pos_z ht
theorem r_pf_640 (ht : s.tg a = 10) : zwp (zcall d) m Q (.putfield 640 :: r) L (.ref b :: .ref a :: st) (s, V) = zwp (zcall d) m Q r L st (s, zput V a 0 (.ref b)) := by rw [zw]; exact if_pos_z ⟨ht, rfl⟩
theorem r_gf_641 (ht : s.tg a = 10) : zwp (zcall d) m Q (.getfield 641 :: r) L (.ref a :: st) (s, V) = zwp (zcall d) m Q r L (V a 1 :: st) (s, V) := by rw [zw]; exact if_pos_z ht
theorem r_pf_641 (ht : s.tg a = 10) : zwp (zcall d) m Q (.putfield 641 :: r) L (.ref b :: .ref a :: st) (s, V) = zwp (zcall d) m Q r L st (s, zput V a 1 (.ref b)) := by rw [zw]; exact if_pos_z ⟨ht, rfl⟩
theorem r_gf_642 (ht : s.tg a = 10) : zwp (zcall d) m Q (.getfield 642 :: r) L (.ref a :: st) (s, V) = zwp (zcall d) m Q r L (V a 2 :: st) (s, V) := by rw [zw]; exact if_pos_z ht
theorem r_pf_642 (ht : s.tg a = 10) : zwp (zcall d) m Q (.putfield 642 :: r) L (.ref b :: .ref a :: st) (s, V) = zwp (zcall d) m Q r L st (s, zput V a 2 (.ref b)) := by rw [zw]; exact if_pos_z ⟨ht, rfl⟩
theorem r_gf_643 (ht : s.tg a = 10) : zwp (zcall d) m Q (.getfield 643 :: r) L (.ref a :: st) (s, V) = zwp (zcall d) m Q r L (V a 3 :: st) (s, V) := by rw [zw]; exact if_pos_z ht
theorem r_pf_643 (ht : s.tg a = 10) : zwp (zcall d) m Q (.putfield 643 :: r) L (zi x :: .ref a :: st) (s, V) = zwp (zcall d) m Q r L st (s, zput V a 3 (zi x)) := by rw [zw]; exact if_pos_z ⟨ht, rfl⟩
theorem r_gf_644 (ht : s.tg a = 10) : zwp (zcall d) m Q (.getfield 644 :: r) L (.ref a :: st) (s, V) = zwp (zcall d) m Q r L (V a 4 :: st) (s, V) := by rw [zw]; exact if_pos_z ht
theorem r_pf_644 (ht : s.tg a = 10) : zwp (zcall d) m Q (.putfield 644 :: r) L (.ref b :: .ref a :: st) (s, V) = zwp (zcall d) m Q r L st (s, zput V a 4 (.ref b)) := by rw [zw]; exact if_pos_z ⟨ht, rfl⟩
theorem r_gf_645 (ht : s.tg a = 10) : zwp (zcall d) m Q (.getfield 645 :: r) L (.ref a :: st) (s, V) = zwp (zcall d) m Q r L (V a 5 :: st) (s, V) := by rw [zw]; exact if_pos_z ht
theorem r_pf_645 (ht : s.tg a = 10) : zwp (zcall d) m Q (.putfield 645 :: r) L (zi x :: .ref a :: st) (s, V) = zwp (zcall d) m Q r L st (s, zput V a 5 (zi x)) := by rw [zw]; exact if_pos_z ⟨ht, rfl⟩
theorem r_gf_646 (ht : s.tg a = 10) : zwp (zcall d) m Q (.getfield 646 :: r) L (.ref a :: st) (s, V) = zwp (zcall d) m Q r L (V a 6 :: st) (s, V) := by rw [zw]; exact if_pos_z ht
theorem r_pf_646 (ht : s.tg a = 10) : zwp (zcall d) m Q (.putfield 646 :: r) L (zi x :: .ref a :: st) (s, V) = zwp (zcall d) m Q r L st (s, zput V a 6 (zi x)) := by rw [zw]; exact if_pos_z ⟨ht, rfl⟩
theorem r_gf_647 (ht : s.tg a = 10) : zwp (zcall d) m Q (.getfield 647 :: r) L (.ref a :: st) (s, V) = zwp (zcall d) m Q r L (V a 7 :: st) (s, V) := by rw [zw]; exact if_pos_z ht
theorem r_pf_647 (ht : s.tg a = 10) : zwp (zcall d) m Q (.putfield 647 :: r) L (.ref b :: .ref a :: st) (s, V) = zwp (zcall d) m Q r L st (s, zput V a 7 (.ref b)) := by rw [zw]; exact if_pos_z ⟨ht, rfl⟩
theorem r_gf_648 (ht : s.tg a = 10) : zwp (zcall d) m Q (.getfield 648 :: r) L (.ref a :: st) (s, V) = zwp (zcall d) m Q r L (V a 8 :: st) (s, V) := by rw [zw]; exact if_pos_z ht
theorem r_pf_648 (ht : s.tg a = 10) : zwp (zcall d) m Q (.putfield 648 :: r) L (.ref b :: .ref a :: st) (s, V) = zwp (zcall d) m Q r L st (s, zput V a 8 (.ref b)) := by rw [zw]; exact if_pos_z ⟨ht, rfl⟩
theorem r_gf_649 (ht : s.tg a = 10) : zwp (zcall d) m Q (.getfield 649 :: r) L (.ref a :: st) (s, V) = zwp (zcall d) m Q r L (V a 9 :: st) (s, V) := by rw [zw]; exact if_pos_z ht
theorem r_pf_649 (ht : s.tg a = 10) : zwp (zcall d) m Q (.putfield 649 :: r) L (zi x :: .ref a :: st) (s, V) = zwp (zcall d) m Q r L st (s, zput V a 9 (zi x)) := by rw [zw]; exact if_pos_z ⟨ht, rfl⟩
theorem r_gf_650 (ht : s.tg a = 10) : zwp (zcall d) m Q (.getfield 650 :: r) L (.ref a :: st) (s, V) = zwp (zcall d) m Q r L (V a 10 :: st) (s, V) := by rw [zw]; exact if_pos_z ht
theorem r_pf_650 (ht : s.tg a = 10) : zwp (zcall d) m Q (.putfield 650 :: r) L (.ref b :: .ref a :: st) (s, V) = zwp (zcall d) m Q r L st (s, zput V a 10 (.ref b)) := by rw [zw]; exact if_pos_z ⟨ht, rfl⟩
theorem r_gf_651 (ht : s.tg a = 10) : zwp (zcall d) m Q (.getfield 651 :: r) L (.ref a :: st) (s, V) = zwp (zcall d) m Q r L (V a 11 :: st) (s, V) := by rw [zw]; exact if_pos_z ht
theorem r_pf_651 (ht : s.tg a = 10) : zwp (zcall d) m Q (.putfield 651 :: r) L (.ref b :: .ref a :: st) (s, V) = zwp (zcall d) m Q r L st (s, zput V a 11 (.ref b)) := by rw [zw]; exact if_pos_z ⟨ht, rfl⟩
theorem r_gf_652 (ht : s.tg a = 10) : zwp (zcall d) m Q (.getfield 652 :: r) L (.ref a :: st) (s, V) = zwp (zcall d) m Q r L (V a 12 :: st) (s, V) := by rw [zw]; exact if_pos_z ht
theorem r_pf_652 (ht : s.tg a = 10) : zwp (zcall d) m Q (.putfield 652 :: r) L (.ref b :: .ref a :: st) (s, V) = zwp (zcall d) m Q r L st (s, zput V a 12 (.ref b)) := by rw [zw]; exact if_pos_z ⟨ht, rfl⟩
theorem r_gf_653 (ht : s.tg a = 10) : zwp (zcall d) m Q (.getfield 653 :: r) L (.ref a :: st) (s, V) = zwp (zcall d) m Q r L (V a 13 :: st) (s, V) := by rw [zw]; exact if_pos_z ht
theorem r_pf_653 (ht : s.tg a = 10) : zwp (zcall d) m Q (.putfield 653 :: r) L (.ref b :: .ref a :: st) (s, V) = zwp (zcall d) m Q r L st (s, zput V a 13 (.ref b)) := by rw [zw]; exact if_pos_z ⟨ht, rfl⟩
theorem r_gf_654 (ht : s.tg a = 10) : zwp (zcall d) m Q (.getfield 654 :: r) L (.ref a :: st) (s, V) = zwp (zcall d) m Q r L (V a 14 :: st) (s, V) := by rw [zw]; exact if_pos_z ht
theorem r_pf_654 (ht : s.tg a = 10) : zwp (zcall d) m Q (.putfield 654 :: r) L (.ref b :: .ref a :: st) (s, V) = zwp (zcall d) m Q r L st (s, zput V a 14 (.ref b)) := by rw [zw]; exact if_pos_z ⟨ht, rfl⟩
theorem r_gf_655 (ht : s.tg a = 10) : zwp (zcall d) m Q (.getfield 655 :: r) L (.ref a :: st) (s, V) = zwp (zcall d) m Q r L (V a 15 :: st) (s, V) := by rw [zw]; exact if_pos_z ht
theorem r_pf_655 (ht : s.tg a = 10) : zwp (zcall d) m Q (.putfield 655 :: r) L (.ref b :: .ref a :: st) (s, V) = zwp (zcall d) m Q r L st (s, zput V a 15 (.ref b)) := by rw [zw]; exact if_pos_z ⟨ht, rfl⟩
theorem r_gf_656 (ht : s.tg a = 10) : zwp (zcall d) m Q (.getfield 656 :: r) L (.ref a :: st) (s, V) = zwp (zcall d) m Q r L (V a 16 :: st) (s, V) := by rw [zw]; exact if_pos_z ht
theorem r_pf_656 (ht : s.tg a = 10) : zwp (zcall d) m Q (.putfield 656 :: r) L (.ref b :: .ref a :: st) (s, V) = zwp (zcall d) m Q r L st (s, zput V a 16 (.ref b)) := by rw [zw]; exact if_pos_z ⟨ht, rfl⟩
theorem r_gf_657 (ht : s.tg a = 10) : zwp (zcall d) m Q (.getfield 657 :: r) L (.ref a :: st) (s, V) = zwp (zcall d) m Q r L (V a 17 :: st) (s, V) := by rw [zw]; exact if_pos_z ht
theorem r_pf_657 (ht : s.tg a = 10) : zwp (zcall d) m Q (.putfield 657 :: r) L (.ref b :: .ref a :: st) (s, V) = zwp (zcall d) m Q r L st (s, zput V a 17 (.ref b)) := by rw [zw]; exact if_pos_z ⟨ht, rfl⟩
theorem r_gf_658 (ht : s.tg a = 10) : zwp (zcall d) m Q (.getfield 658 :: r) L (.ref a :: st) (s, V) = zwp (zcall d) m Q r L (V a 18 :: st) (s, V) := by rw [zw]; exact if_pos_z ht
theorem r_pf_658 (ht : s.tg a = 10) : zwp (zcall d) m Q (.putfield 658 :: r) L (.ref b :: .ref a :: st) (s, V) = zwp (zcall d) m Q r L st (s, zput V a 18 (.ref b)) := by rw [zw]; exact if_pos_z ⟨ht, rfl⟩
theorem r_gf_659 (ht : s.tg a = 10) : zwp (zcall d) m Q (.getfield 659 :: r) L (.ref a :: st) (s, V) = zwp (zcall d) m Q r L (V a 19 :: st) (s, V) := by rw [zw]; exact if_pos_z ht
theorem r_pf_659 (ht : s.tg a = 10) : zwp (zcall d) m Q (.putfield 659 :: r) L (.ref b :: .ref a :: st) (s, V) = zwp (zcall d) m Q r L st (s, zput V a 19 (.ref b)) := by rw [zw]; exact if_pos_z ⟨ht, rfl⟩
theorem r_gf_660 (ht : s.tg a = 10) : zwp (zcall d) m Q (.getfield 660 :: r) L (.ref a :: st) (s, V) = zwp (zcall d) m Q r L (V a 20 :: st) (s, V) := by rw [zw]; exact if_pos_z ht
theorem r_pf_660 (ht : s.tg a = 10) : zwp (zcall d) m Q (.putfield 660 :: r) L (zi x :: .ref a :: st) (s, V) = zwp (zcall d) m Q r L st (s, zput V a 20 (zi x)) := by rw [zw]; exact if_pos_z ⟨ht, rfl⟩
theorem r_gf_661 (ht : s.tg a = 10) : zwp (zcall d) m Q (.getfield 661 :: r) L (.ref a :: st) (s, V) = zwp (zcall d) m Q r L (V a 21 :: st) (s, V) := by rw [zw]; exact if_pos_z ht
theorem r_pf_661 (ht : s.tg a = 10) : zwp (zcall d) m Q (.putfield 661 :: r) L (zi x :: .ref a :: st) (s, V) = zwp (zcall d) m Q r L st (s, zput V a 21 (zi x)) := by rw [zw]; exact if_pos_z ⟨ht, rfl⟩
theorem r_gf_662 (ht : s.tg a = 10) : zwp (zcall d) m Q (.getfield 662 :: r) L (.ref a :: st) (s, V) = zwp (zcall d) m Q r L (V a 22 :: st) (s, V) := by rw [zw]; exact if_pos_z ht
theorem r_pf_662 (ht : s.tg a = 10) : zwp (zcall d) m Q (.putfield 662 :: r) L (zi x :: .ref a :: st) (s, V) = zwp (zcall d) m Q r L st (s, zput V a 22 (zi x)) := by rw [zw]; exact if_pos_z ⟨ht, rfl⟩
theorem r_gf_663 (ht : s.tg a = 10) : zwp (zcall d) m Q (.getfield 663 :: r) L (.ref a :: st) (s, V) = zwp (zcall d) m Q r L (V a 23 :: st) (s, V) := by rw [zw]; exact if_pos_z ht
theorem r_pf_663 (ht : s.tg a = 10) : zwp (zcall d) m Q (.putfield 663 :: r) L (zi x :: .ref a :: st) (s, V) = zwp (zcall d) m Q r L st (s, zput V a 23 (zi x)) := by rw [zw]; exact if_pos_z ⟨ht, rfl⟩
theorem r_gf_664 (ht : s.tg a = 10) : zwp (zcall d) m Q (.getfield 664 :: r) L (.ref a :: st) (s, V) = zwp (zcall d) m Q r L (V a 24 :: st) (s, V) := by rw [zw]; exact if_pos_z ht
theorem r_pf_664 (ht : s.tg a = 10) : zwp (zcall d) m Q (.putfield 664 :: r) L (zi x :: .ref a :: st) (s, V) = zwp (zcall d) m Q r L st (s, zput V a 24 (zi x)) := by rw [zw]; exact if_pos_z ⟨ht, rfl⟩
theorem r_gf_665 (ht : s.tg a = 10) : zwp (zcall d) m Q (.getfield 665 :: r) L (.ref a :: st) (s, V) = zwp (zcall d) m Q r L (V a 25 :: st) (s, V) := by rw [zw]; exact if_pos_z ht
theorem r_pf_665 (ht : s.tg a = 10) : zwp (zcall d) m Q (.putfield 665 :: r) L (zi x :: .ref a :: st) (s, V) = zwp (zcall d) m Q r L st (s, zput V a 25 (zi x)) := by rw [zw]; exact if_pos_z ⟨ht, rfl⟩
theorem r_gf_666 (ht : s.tg a = 10) : zwp (zcall d) m Q (.getfield 666 :: r) L (.ref a :: st) (s, V) = zwp (zcall d) m Q r L (V a 26 :: st) (s, V) := by rw [zw]; exact if_pos_z ht
theorem r_pf_666 (ht : s.tg a = 10) : zwp (zcall d) m Q (.putfield 666 :: r) L (zi x :: .ref a :: st) (s, V) = zwp (zcall d) m Q r L st (s, zput V a 26 (zi x)) := by rw [zw]; exact if_pos_z ⟨ht, rfl⟩
theorem r_gf_667 (ht : s.tg a = 10) : zwp (zcall d) m Q (.getfield 667 :: r) L (.ref a :: st) (s, V) = zwp (zcall d) m Q r L (V a 27 :: st) (s, V) := by rw [zw]; exact if_pos_z ht
theorem r_pf_667 (ht : s.tg a = 10) : zwp (zcall d) m Q (.putfield 667 :: r) L (zi x :: .ref a :: st) (s, V) = zwp (zcall d) m Q r L st (s, zput V a 27 (zi x)) := by rw [zw]; exact if_pos_z ⟨ht, rfl⟩
theorem r_gf_668 (ht : s.tg a = 10) : zwp (zcall d) m Q (.getfield 668 :: r) L (.ref a :: st) (s, V) = zwp (zcall d) m Q r L (V a 28 :: st) (s, V) := by rw [zw]; exact if_pos_z ht
theorem r_pf_668 (ht : s.tg a = 10) : zwp (zcall d) m Q (.putfield 668 :: r) L (.ref b :: .ref a :: st) (s, V) = zwp (zcall d) m Q r L st (s, zput V a 28 (.ref b)) := by rw [zw]; exact if_pos_z ⟨ht, rfl⟩
theorem r_gf_669 (ht : s.tg a = 10) : zwp (zcall d) m Q (.getfield 669 :: r) L (.ref a :: st) (s, V) = zwp (zcall d) m Q r L (V a 29 :: st) (s, V) := by rw [zw]; exact if_pos_z ht
theorem r_pf_669 (ht : s.tg a = 10) : zwp (zcall d) m Q (.putfield 669 :: r) L (.ref b :: .ref a :: st) (s, V) = zwp (zcall d) m Q r L st (s, zput V a 29 (.ref b)) := by rw [zw]; exact if_pos_z ⟨ht, rfl⟩
theorem r_gf_670 (ht : s.tg a = 10) : zwp (zcall d) m Q (.getfield 670 :: r) L (.ref a :: st) (s, V) = zwp (zcall d) m Q r L (V a 30 :: st) (s, V) := by rw [zw]; exact if_pos_z ht
theorem r_pf_670 (ht : s.tg a = 10) : zwp (zcall d) m Q (.putfield 670 :: r) L (.ref b :: .ref a :: st) (s, V) = zwp (zcall d) m Q r L st (s, zput V a 30 (.ref b)) := by rw [zw]; exact if_pos_z ⟨ht, rfl⟩
theorem r_gf_671 (ht : s.tg a = 10) : zwp (zcall d) m Q (.getfield 671 :: r) L (.ref a :: st) (s, V) = zwp (zcall d) m Q r L (V a 31 :: st) (s, V) := by rw [zw]; exact if_pos_z ht
theorem r_pf_671 (ht : s.tg a = 10) : zwp (zcall d) m Q (.putfield 671 :: r) L (.ref b :: .ref a :: st) (s, V) = zwp (zcall d) m Q r L st (s, zput V a 31 (.ref b)) := by rw [zw]; exact if_pos_z ⟨ht, rfl⟩
theorem r_gf_672 (ht : s.tg a = 10) : zwp (zcall d) m Q (.getfield 672 :: r) L (.ref a :: st) (s, V) = zwp (zcall d) m Q r L (V a 32 :: st) (s, V) := by rw [zw]; exact if_pos_z ht
theorem r_pf_672 (ht : s.tg a = 10) : zwp (zcall d) m Q (.putfield 672 :: r) L (.ref b :: .ref a :: st) (s, V) = zwp (zcall d) m Q r L st (s, zput V a 32 (.ref b)) := by rw [zw]; exact if_pos_z ⟨ht, rfl⟩
theorem r_gf_673 (ht : s.tg a = 10) : zwp (zcall d) m Q (.getfield 673 :: r) L (.ref a :: st) (s, V) = zwp (zcall d) m Q r L (V a 33 :: st) (s, V) := by rw [zw]; exact if_pos_z ht
theorem r_pf_673_0 (ht : s.tg a = 10) : zwp (zcall d) m Q (.putfield 673 :: r) L (zi 0 :: .ref a :: st) (s, V) = zwp (zcall d) m Q r L st (s, zput V a 33 (zi 0)) := by rw [zw]; exact if_pos_z ⟨ht, rfl⟩
theorem r_pf_673_1 (ht : s.tg a = 10) : zwp (zcall d) m Q (.putfield 673 :: r) L (zi 1 :: .ref a :: st) (s, V) = zwp (zcall d) m Q r L st (s, zput V a 33 (zi 1)) := by rw [zw]; exact if_pos_z ⟨ht, rfl⟩
theorem r_pf_673 (ht : s.tg a = 10) (hx : x = 0 ∨ x = 1) : zwp (zcall d) m Q (.putfield 673 :: r) L (zi x :: .ref a :: st) (s, V) = zwp (zcall d) m Q r L st (s, zput V a 33 (zi x)) := by rw [zw]; rcases hx with rfl | rfl <;> exact if_pos_z ⟨ht, rfl⟩
theorem r_gf_674 (ht : s.tg a = 10) : zwp (zcall d) m Q (.getfield 674 :: r) L (.ref a :: st) (s, V) = zwp (zcall d) m Q r L (V a 34 :: st) (s, V) := by rw [zw]; exact if_pos_z ht
theorem r_pf_674_0 (ht : s.tg a = 10) : zwp (zcall d) m Q (.putfield 674 :: r) L (zi 0 :: .ref a :: st) (s, V) = zwp (zcall d) m Q r L st (s, zput V a 34 (zi 0)) := by rw [zw]; exact if_pos_z ⟨ht, rfl⟩
theorem r_pf_674_1 (ht : s.tg a = 10) : zwp (zcall d) m Q (.putfield 674 :: r) L (zi 1 :: .ref a :: st) (s, V) = zwp (zcall d) m Q r L st (s, zput V a 34 (zi 1)) := by rw [zw]; exact if_pos_z ⟨ht, rfl⟩
theorem r_pf_674 (ht : s.tg a = 10) (hx : x = 0 ∨ x = 1) : zwp (zcall d) m Q (.putfield 674 :: r) L (zi x :: .ref a :: st) (s, V) = zwp (zcall d) m Q r L st (s, zput V a 34 (zi x)) := by rw [zw]; rcases hx with rfl | rfl <;> exact if_pos_z ⟨ht, rfl⟩
theorem r_gf_675 (ht : s.tg a = 10) : zwp (zcall d) m Q (.getfield 675 :: r) L (.ref a :: st) (s, V) = zwp (zcall d) m Q r L (V a 35 :: st) (s, V) := by rw [zw]; exact if_pos_z ht
theorem r_pf_675 (ht : s.tg a = 10) : zwp (zcall d) m Q (.putfield 675 :: r) L (.ref b :: .ref a :: st) (s, V) = zwp (zcall d) m Q r L st (s, zput V a 35 (.ref b)) := by rw [zw]; exact if_pos_z ⟨ht, rfl⟩
theorem r_gf_676 (ht : s.tg a = 10) : zwp (zcall d) m Q (.getfield 676 :: r) L (.ref a :: st) (s, V) = zwp (zcall d) m Q r L (V a 36 :: st) (s, V) := by rw [zw]; exact if_pos_z ht
theorem r_pf_676 (ht : s.tg a = 10) : zwp (zcall d) m Q (.putfield 676 :: r) L (zi x :: .ref a :: st) (s, V) = zwp (zcall d) m Q r L st (s, zput V a 36 (zi x)) := by rw [zw]; exact if_pos_z ⟨ht, rfl⟩
theorem r_gf_677 (ht : s.tg a = 10) : zwp (zcall d) m Q (.getfield 677 :: r) L (.ref a :: st) (s, V) = zwp (zcall d) m Q r L (V a 37 :: st) (s, V) := by rw [zw]; exact if_pos_z ht
theorem r_pf_677 (ht : s.tg a = 10) : zwp (zcall d) m Q (.putfield 677 :: r) L (.ref b :: .ref a :: st) (s, V) = zwp (zcall d) m Q r L st (s, zput V a 37 (.ref b)) := by rw [zw]; exact if_pos_z ⟨ht, rfl⟩
theorem r_gf_678 (ht : s.tg a = 10) : zwp (zcall d) m Q (.getfield 678 :: r) L (.ref a :: st) (s, V) = zwp (zcall d) m Q r L (V a 38 :: st) (s, V) := by rw [zw]; exact if_pos_z ht
theorem r_pf_678 (ht : s.tg a = 10) : zwp (zcall d) m Q (.putfield 678 :: r) L (.ref b :: .ref a :: st) (s, V) = zwp (zcall d) m Q r L st (s, zput V a 38 (.ref b)) := by rw [zw]; exact if_pos_z ⟨ht, rfl⟩
theorem r_gf_679 (ht : s.tg a = 10) : zwp (zcall d) m Q (.getfield 679 :: r) L (.ref a :: st) (s, V) = zwp (zcall d) m Q r L (V a 39 :: st) (s, V) := by rw [zw]; exact if_pos_z ht
theorem r_pf_679 (ht : s.tg a = 10) : zwp (zcall d) m Q (.putfield 679 :: r) L (.ref b :: .ref a :: st) (s, V) = zwp (zcall d) m Q r L st (s, zput V a 39 (.ref b)) := by rw [zw]; exact if_pos_z ⟨ht, rfl⟩
theorem r_gf_680 (ht : s.tg a = 10) : zwp (zcall d) m Q (.getfield 680 :: r) L (.ref a :: st) (s, V) = zwp (zcall d) m Q r L (V a 40 :: st) (s, V) := by rw [zw]; exact if_pos_z ht
theorem r_pf_680 (ht : s.tg a = 10) : zwp (zcall d) m Q (.putfield 680 :: r) L (zi x :: .ref a :: st) (s, V) = zwp (zcall d) m Q r L st (s, zput V a 40 (zi x)) := by rw [zw]; exact if_pos_z ⟨ht, rfl⟩
theorem r_gf_681 (ht : s.tg a = 10) : zwp (zcall d) m Q (.getfield 681 :: r) L (.ref a :: st) (s, V) = zwp (zcall d) m Q r L (V a 41 :: st) (s, V) := by rw [zw]; exact if_pos_z ht
theorem r_pf_681 (ht : s.tg a = 10) : zwp (zcall d) m Q (.putfield 681 :: r) L (zi x :: .ref a :: st) (s, V) = zwp (zcall d) m Q r L st (s, zput V a 41 (zi x)) := by rw [zw]; exact if_pos_z ⟨ht, rfl⟩
theorem r_gf_682 (ht : s.tg a = 10) : zwp (zcall d) m Q (.getfield 682 :: r) L (.ref a :: st) (s, V) = zwp (zcall d) m Q r L (V a 42 :: st) (s, V) := by rw [zw]; exact if_pos_z ht
theorem r_pf_682 (ht : s.tg a = 10) : zwp (zcall d) m Q (.putfield 682 :: r) L (.ref b :: .ref a :: st) (s, V) = zwp (zcall d) m Q r L st (s, zput V a 42 (.ref b)) := by rw [zw]; exact if_pos_z ⟨ht, rfl⟩
theorem r_gf_683 (ht : s.tg a = 10) : zwp (zcall d) m Q (.getfield 683 :: r) L (.ref a :: st) (s, V) = zwp (zcall d) m Q r L (V a 43 :: st) (s, V) := by rw [zw]; exact if_pos_z ht
theorem r_pf_683 (ht : s.tg a = 10) : zwp (zcall d) m Q (.putfield 683 :: r) L (zl x :: .ref a :: st) (s, V) = zwp (zcall d) m Q r L st (s, zput V a 43 (zl x)) := by rw [zw]; exact if_pos_z ⟨ht, rfl⟩
theorem r_gets : zwp (zcall d) m Q (.getstatic a :: r) L st h = zwp (zcall d) m Q r L (.ref a :: st) h := by rw [zw]; rfl
theorem r_new_0 : zwp (zcall d) m Q (.new 0 :: r) L st (s, V) = zwp (zcall d) m Q r L (.ref s.sz :: st) (s.new 0 0 1, zrow V s.sz (zDf 0)) := by rw [zw]; rfl
theorem r_new_1 : zwp (zcall d) m Q (.new 1 :: r) L st (s, V) = zwp (zcall d) m Q r L (.ref s.sz :: st) (s.new 1 0 3, zrow V s.sz (zDf 1)) := by rw [zw]; rfl
theorem r_new_2 : zwp (zcall d) m Q (.new 2 :: r) L st (s, V) = zwp (zcall d) m Q r L (.ref s.sz :: st) (s.new 2 0 5, zrow V s.sz (zDf 2)) := by rw [zw]; rfl
theorem r_new_3 : zwp (zcall d) m Q (.new 3 :: r) L st (s, V) = zwp (zcall d) m Q r L (.ref s.sz :: st) (s.new 3 0 2, zrow V s.sz (zDf 3)) := by rw [zw]; rfl
theorem r_new_4 : zwp (zcall d) m Q (.new 4 :: r) L st (s, V) = zwp (zcall d) m Q r L (.ref s.sz :: st) (s.new 4 0 4, zrow V s.sz (zDf 4)) := by rw [zw]; rfl
theorem r_new_5 : zwp (zcall d) m Q (.new 5 :: r) L st (s, V) = zwp (zcall d) m Q r L (.ref s.sz :: st) (s.new 5 0 10, zrow V s.sz (zDf 5)) := by rw [zw]; rfl
theorem r_new_7 : zwp (zcall d) m Q (.new 7 :: r) L st (s, V) = zwp (zcall d) m Q r L (.ref s.sz :: st) (s.new 7 0 4, zrow V s.sz (zDf 7)) := by rw [zw]; rfl
theorem r_new_8 : zwp (zcall d) m Q (.new 8 :: r) L st (s, V) = zwp (zcall d) m Q r L (.ref s.sz :: st) (s.new 8 0 4, zrow V s.sz (zDf 8)) := by rw [zw]; rfl
theorem r_new_9 : zwp (zcall d) m Q (.new 9 :: r) L st (s, V) = zwp (zcall d) m Q r L (.ref s.sz :: st) (s.new 9 0 9, zrow V s.sz (zDf 9)) := by rw [zw]; rfl
theorem r_new_10 : zwp (zcall d) m Q (.new 10 :: r) L st (s, V) = zwp (zcall d) m Q r L (.ref s.sz :: st) (s.new 10 0 44, zrow V s.sz (zDf 10)) := by rw [zw]; rfl
theorem r_newa_int (h1 : 0 ≤ n) (h2 : n ≤ 1000000) : zwp (zcall d) m Q (.newarray .int :: r) L (zi n :: st) (s, V) = zwp (zcall d) m Q r L (.ref s.sz :: st) (s.new 20 n n.toNat, zrow V s.sz (fun _ => zi 0)) := by
  have e := z_rng (a := n) (by omega) (by omega)
  rw [zw]
  simp only [zF, zstep, zi, e, h1, h2, true_and, if_true]
  rfl
theorem r_newa_long (h1 : 0 ≤ n) (h2 : n ≤ 1000000) : zwp (zcall d) m Q (.newarray .long :: r) L (zi n :: st) (s, V) = zwp (zcall d) m Q r L (.ref s.sz :: st) (s.new 21 n n.toNat, zrow V s.sz (fun _ => .long 0)) := by
  have e := z_rng (a := n) (by omega) (by omega)
  rw [zw]
  simp only [zF, zstep, zi, e, h1, h2, true_and, if_true]
  rfl
theorem r_newa_double (h1 : 0 ≤ n) (h2 : n ≤ 1000000) : zwp (zcall d) m Q (.newarray .double :: r) L (zi n :: st) (s, V) = zwp (zcall d) m Q r L (.ref s.sz :: st) (s.new 22 n n.toNat, zrow V s.sz (fun _ => .double 0)) := by
  have e := z_rng (a := n) (by omega) (by omega)
  rw [zw]
  simp only [zF, zstep, zi, e, h1, h2, true_and, if_true]
  rfl
theorem r_newa_boolean (h1 : 0 ≤ n) (h2 : n ≤ 1000000) : zwp (zcall d) m Q (.newarray .boolean :: r) L (zi n :: st) (s, V) = zwp (zcall d) m Q r L (.ref s.sz :: st) (s.new 23 n n.toNat, zrow V s.sz (fun _ => zi 0)) := by
  have e := z_rng (a := n) (by omega) (by omega)
  rw [zw]
  simp only [zF, zstep, zi, e, h1, h2, true_and, if_true]
  rfl
theorem r_anew (h1 : 0 ≤ n) (h2 : n ≤ 1000000) : zwp (zcall d) m Q (.anewarray a :: r) L (zi n :: st) (s, V) = zwp (zcall d) m Q r L (.ref s.sz :: st) (s.new 26 n n.toNat, zrow V s.sz (fun _ => .null)) := by
  have e := z_rng (a := n) (by omega) (by omega)
  rw [zw]
  simp only [zF, zstep, zi, e, h1, h2, true_and, if_true]
theorem r_mna_0 (h1 : 0 ≤ n) (h2 : n ≤ 1000000) (h3 : 0 ≤ k) (h4 : k ≤ 1000000) : zwp (zcall d) m Q (.multianewarray 0 2 :: r) L (zi k :: zi n :: st) (s, V) = zwp (zcall d) m Q r L (.ref s.sz :: st) (zHnews (s.new 24 n n.toNat, zrow V s.sz (fun j => .ref (s.sz + 1 + j.toNat))) 20 k (zi 0) n.toNat) := by
  have e := z_rng (a := n) (by omega) (by omega)
  have e2 := z_rng (a := k) (by omega) (by omega)
  rw [zw]
  simp only [zF, zstep, zi, e, e2, h1, h2, h3, h4, true_and, if_true]
  rfl
theorem r_mna_1 (h1 : 0 ≤ n) (h2 : n ≤ 1000000) (h3 : 0 ≤ k) (h4 : k ≤ 1000000) : zwp (zcall d) m Q (.multianewarray 1 2 :: r) L (zi k :: zi n :: st) (s, V) = zwp (zcall d) m Q r L (.ref s.sz :: st) (zHnews (s.new 25 n n.toNat, zrow V s.sz (fun j => .ref (s.sz + 1 + j.toNat))) 21 k (.long 0) n.toNat) := by
  have e := z_rng (a := n) (by omega) (by omega)
  have e2 := z_rng (a := k) (by omega) (by omega)
  rw [zw]
  simp only [zF, zstep, zi, e, e2, h1, h2, h3, h4, true_and, if_true]
  rfl
theorem r_alen (h1 : 20 ≤ s.tg a) (h2 : s.tg a ≤ 26 ∨ s.tg a = 32) (h3 : s.ln a ≤ 1000000) : zwp (zcall d) m Q (.arraylength :: r) L (.ref a :: st) (s, V) = zwp (zcall d) m Q r L (zi (s.ln a) :: st) (s, V) := by rw [zw]; exact if_pos_z ⟨h1, h2, h3⟩
theorem r_iaload (ht : s.tg a = 20 ∨ s.tg a = 30 ∨ s.tg a = 32) (h1 : 0 ≤ j) (h2 : j < s.ln a) (h3 : s.ln a ≤ 1000000) : zwp (zcall d) m Q (.iaload :: r) L (zi j :: .ref a :: st) (s, V) = zwp (zcall d) m Q r L (V a j :: st) (s, V) := by
  have e := z_rng (a := j) (by omega) (by omega)
  rw [zw]
  simp only [zF, zstep, zi, zl, e]
  exact if_pos_z ⟨ht, h1, h2⟩
theorem r_laload (ht : s.tg a = 21 ∨ s.tg a = 31) (h1 : 0 ≤ j) (h2 : j < s.ln a) (h3 : s.ln a ≤ 1000000) : zwp (zcall d) m Q (.laload :: r) L (zi j :: .ref a :: st) (s, V) = zwp (zcall d) m Q r L (V a j :: st) (s, V) := by
  have e := z_rng (a := j) (by omega) (by omega)
  rw [zw]
  simp only [zF, zstep, zi, zl, e]
  exact if_pos_z ⟨ht, h1, h2⟩
theorem r_daload (ht : s.tg a = 22) (h1 : 0 ≤ j) (h2 : j < s.ln a) (h3 : s.ln a ≤ 1000000) : zwp (zcall d) m Q (.daload :: r) L (zi j :: .ref a :: st) (s, V) = zwp (zcall d) m Q r L (V a j :: st) (s, V) := by
  have e := z_rng (a := j) (by omega) (by omega)
  rw [zw]
  simp only [zF, zstep, zi, zl, e]
  exact if_pos_z ⟨ht, h1, h2⟩
theorem r_baload (ht : s.tg a = 23) (h1 : 0 ≤ j) (h2 : j < s.ln a) (h3 : s.ln a ≤ 1000000) : zwp (zcall d) m Q (.baload :: r) L (zi j :: .ref a :: st) (s, V) = zwp (zcall d) m Q r L (V a j :: st) (s, V) := by
  have e := z_rng (a := j) (by omega) (by omega)
  rw [zw]
  simp only [zF, zstep, zi, zl, e]
  exact if_pos_z ⟨ht, h1, h2⟩
theorem r_aaload (ht : s.tg a = 24 ∨ s.tg a = 25 ∨ s.tg a = 26) (h1 : 0 ≤ j) (h2 : j < s.ln a) (h3 : s.ln a ≤ 1000000) : zwp (zcall d) m Q (.aaload :: r) L (zi j :: .ref a :: st) (s, V) = zwp (zcall d) m Q r L (V a j :: st) (s, V) := by
  have e := z_rng (a := j) (by omega) (by omega)
  rw [zw]
  simp only [zF, zstep, zi, zl, e]
  exact if_pos_z ⟨ht, h1, h2⟩
theorem r_iastore (ht : s.tg a = 20) (h1 : 0 ≤ j) (h2 : j < s.ln a) (h3 : s.ln a ≤ 1000000) : zwp (zcall d) m Q (.iastore :: r) L (zi x :: zi j :: .ref a :: st) (s, V) = zwp (zcall d) m Q r L st (s, zput V a j (zi x)) := by
  have e := z_rng (a := j) (by omega) (by omega)
  rw [zw]
  simp only [zF, zstep, zi, zl, e]
  exact if_pos_z ⟨ht, h1, h2⟩
theorem r_lastore (ht : s.tg a = 21) (h1 : 0 ≤ j) (h2 : j < s.ln a) (h3 : s.ln a ≤ 1000000) : zwp (zcall d) m Q (.lastore :: r) L (zl x :: zi j :: .ref a :: st) (s, V) = zwp (zcall d) m Q r L st (s, zput V a j (zl x)) := by
  have e := z_rng (a := j) (by omega) (by omega)
  rw [zw]
  simp only [zF, zstep, zi, zl, e]
  exact if_pos_z ⟨ht, h1, h2⟩
theorem r_bastore (ht : s.tg a = 23) (h1 : 0 ≤ j) (h2 : j < s.ln a) (h3 : s.ln a ≤ 1000000) (hx : x = 0 ∨ x = 1) : zwp (zcall d) m Q (.bastore :: r) L (zi x :: zi j :: .ref a :: st) (s, V) = zwp (zcall d) m Q r L st (s, zput V a j (zi x)) := by
  have e := z_rng (a := j) (by omega) (by omega)
  rw [zw]
  simp only [zF, zstep, zi, zl, e]
  exact if_pos_z ⟨ht, h1, h2, by rcases hx with rfl | rfl; exact Or.inl rfl; exact Or.inr rfl⟩
theorem r_aastore (ht : s.tg a = 26) (h1 : 0 ≤ j) (h2 : j < s.ln a) (h3 : s.ln a ≤ 1000000) (hx : s.tg b = 7) : zwp (zcall d) m Q (.aastore :: r) L (.ref b :: zi j :: .ref a :: st) (s, V) = zwp (zcall d) m Q r L st (s, zput V a j (.ref b)) := by
  have e := z_rng (a := j) (by omega) (by omega)
  rw [zw]
  simp only [zF, zstep, zi, zl, e]
  exact if_pos_z ⟨ht, h1, h2, hx⟩
theorem r_lastoreR {u : Int64} (ht : s.tg a = 21) (h1 : 0 ≤ j) (h2 : j < s.ln a) (h3 : s.ln a ≤ 1000000) : zwp (zcall d) m Q (.lastore :: r) L (.long u :: zi j :: .ref a :: st) (s, V) = zwp (zcall d) m Q r L st (s, zput V a j (.long u)) := by
  have e := z_rng (a := j) (by omega) (by omega)
  rw [zw]
  simp only [zF, zstep, zi, zl, e]
  exact if_pos_z ⟨ht, h1, h2⟩
theorem r_dastore {u : UInt64} (ht : s.tg a = 22) (h1 : 0 ≤ j) (h2 : j < s.ln a) (h3 : s.ln a ≤ 1000000) : zwp (zcall d) m Q (.dastore :: r) L (.double u :: zi j :: .ref a :: st) (s, V) = zwp (zcall d) m Q r L st (s, zput V a j (.double u)) := by
  have e := z_rng (a := j) (by omega) (by omega)
  rw [zw]
  simp only [zF, zstep, zi, zl, e]
  exact if_pos_z ⟨ht, h1, h2⟩
theorem r_copy (ht : s.tg a = 20) (ht2 : s.tg b = 20) (h1 : 0 ≤ n) (h2 : 0 ≤ j) (h3 : 0 ≤ k) (h4 : j + n ≤ s.ln a) (h5 : k + n ≤ s.ln b) (h6 : s.ln a ≤ 1000000) (h7 : s.ln b ≤ 1000000) : zwp (zcall d) m Q (.pop2 :: r) L [zi n, zi k, .ref b, zi j, .ref a] (s, V) = zwp (zcall d) m Q r L [] (s, zrow V b (fun i => if k ≤ i ∧ i < k + n then V a (j + (i - k)) else V b i)) := by
  have e1 := z_rng (a := n) (by omega) (by omega)
  have e2 := z_rng (a := j) (by omega) (by omega)
  have e3 := z_rng (a := k) (by omega) (by omega)
  rw [zw]
  simp only [zF, zstep, zi, e1, e2, e3]
  exact if_pos_z ⟨ht, ht2, h1, h2, h3, h4, h5⟩
theorem r_inv_0_0 : zwp (zcall d) m Q (.invokeinterface a 0 :: r) L [] h = zcall d a [] h (zK (zAl m a) m Q (zwp (zcall d) m Q) r L []) := by rw [zw]; exact z_and2 ⟨Nat.le_of_ble_eq_true rfl, rfl⟩ (Nat.le_of_ble_eq_true rfl)
theorem r_inv_0_1 {w0 : Value} : zwp (zcall d) m Q (.invokeinterface a 0 :: r) L [w0] h = zcall d a [] h (zK (zAl m a) m Q (zwp (zcall d) m Q) r L [w0]) := by rw [zw]; exact z_and2 ⟨Nat.le_of_ble_eq_true rfl, rfl⟩ (Nat.le_of_ble_eq_true rfl)
theorem r_inv_0_2 {w0 w1 : Value} : zwp (zcall d) m Q (.invokeinterface a 0 :: r) L [w0, w1] h = zcall d a [] h (zK (zAl m a) m Q (zwp (zcall d) m Q) r L [w0, w1]) := by rw [zw]; exact z_and2 ⟨Nat.le_of_ble_eq_true rfl, rfl⟩ (Nat.le_of_ble_eq_true rfl)
theorem r_inv_0_3 {w0 w1 w2 : Value} : zwp (zcall d) m Q (.invokeinterface a 0 :: r) L [w0, w1, w2] h = zcall d a [] h (zK (zAl m a) m Q (zwp (zcall d) m Q) r L [w0, w1, w2]) := by rw [zw]; exact z_and2 ⟨Nat.le_of_ble_eq_true rfl, rfl⟩ (Nat.le_of_ble_eq_true rfl)
theorem r_inv_0_4 {w0 w1 w2 w3 : Value} : zwp (zcall d) m Q (.invokeinterface a 0 :: r) L [w0, w1, w2, w3] h = zcall d a [] h (zK (zAl m a) m Q (zwp (zcall d) m Q) r L [w0, w1, w2, w3]) := by rw [zw]; exact z_and2 ⟨Nat.le_of_ble_eq_true rfl, rfl⟩ (Nat.le_of_ble_eq_true rfl)
theorem r_inv_1_0  (hc : zC1 [v0] = true) : zwp (zcall d) m Q (.invokeinterface a 1 :: r) L [v0] h = zcall d a [v0] h (zK (zAl m a) m Q (zwp (zcall d) m Q) r L []) := by rw [zw]; exact z_and2 ⟨Nat.le_of_ble_eq_true rfl, hc⟩ (Nat.le_of_ble_eq_true rfl)
theorem r_inv_1_1 {w0 : Value} (hc : zC1 [v0] = true) : zwp (zcall d) m Q (.invokeinterface a 1 :: r) L [v0, w0] h = zcall d a [v0] h (zK (zAl m a) m Q (zwp (zcall d) m Q) r L [w0]) := by rw [zw]; exact z_and2 ⟨Nat.le_of_ble_eq_true rfl, hc⟩ (Nat.le_of_ble_eq_true rfl)
theorem r_inv_1_2 {w0 w1 : Value} (hc : zC1 [v0] = true) : zwp (zcall d) m Q (.invokeinterface a 1 :: r) L [v0, w0, w1] h = zcall d a [v0] h (zK (zAl m a) m Q (zwp (zcall d) m Q) r L [w0, w1]) := by rw [zw]; exact z_and2 ⟨Nat.le_of_ble_eq_true rfl, hc⟩ (Nat.le_of_ble_eq_true rfl)
theorem r_inv_1_3 {w0 w1 w2 : Value} (hc : zC1 [v0] = true) : zwp (zcall d) m Q (.invokeinterface a 1 :: r) L [v0, w0, w1, w2] h = zcall d a [v0] h (zK (zAl m a) m Q (zwp (zcall d) m Q) r L [w0, w1, w2]) := by rw [zw]; exact z_and2 ⟨Nat.le_of_ble_eq_true rfl, hc⟩ (Nat.le_of_ble_eq_true rfl)
theorem r_inv_1_4 {w0 w1 w2 w3 : Value} (hc : zC1 [v0] = true) : zwp (zcall d) m Q (.invokeinterface a 1 :: r) L [v0, w0, w1, w2, w3] h = zcall d a [v0] h (zK (zAl m a) m Q (zwp (zcall d) m Q) r L [w0, w1, w2, w3]) := by rw [zw]; exact z_and2 ⟨Nat.le_of_ble_eq_true rfl, hc⟩ (Nat.le_of_ble_eq_true rfl)
theorem r_inv_2_0  (hc : zC1 [v1, v0] = true) : zwp (zcall d) m Q (.invokeinterface a 2 :: r) L [v1, v0] h = zcall d a [v0, v1] h (zK (zAl m a) m Q (zwp (zcall d) m Q) r L []) := by rw [zw]; exact z_and2 ⟨Nat.le_of_ble_eq_true rfl, hc⟩ (Nat.le_of_ble_eq_true rfl)
theorem r_inv_2_1 {w0 : Value} (hc : zC1 [v1, v0] = true) : zwp (zcall d) m Q (.invokeinterface a 2 :: r) L [v1, v0, w0] h = zcall d a [v0, v1] h (zK (zAl m a) m Q (zwp (zcall d) m Q) r L [w0]) := by rw [zw]; exact z_and2 ⟨Nat.le_of_ble_eq_true rfl, hc⟩ (Nat.le_of_ble_eq_true rfl)
theorem r_inv_2_2 {w0 w1 : Value} (hc : zC1 [v1, v0] = true) : zwp (zcall d) m Q (.invokeinterface a 2 :: r) L [v1, v0, w0, w1] h = zcall d a [v0, v1] h (zK (zAl m a) m Q (zwp (zcall d) m Q) r L [w0, w1]) := by rw [zw]; exact z_and2 ⟨Nat.le_of_ble_eq_true rfl, hc⟩ (Nat.le_of_ble_eq_true rfl)
theorem r_inv_2_3 {w0 w1 w2 : Value} (hc : zC1 [v1, v0] = true) : zwp (zcall d) m Q (.invokeinterface a 2 :: r) L [v1, v0, w0, w1, w2] h = zcall d a [v0, v1] h (zK (zAl m a) m Q (zwp (zcall d) m Q) r L [w0, w1, w2]) := by rw [zw]; exact z_and2 ⟨Nat.le_of_ble_eq_true rfl, hc⟩ (Nat.le_of_ble_eq_true rfl)
theorem r_inv_2_4 {w0 w1 w2 w3 : Value} (hc : zC1 [v1, v0] = true) : zwp (zcall d) m Q (.invokeinterface a 2 :: r) L [v1, v0, w0, w1, w2, w3] h = zcall d a [v0, v1] h (zK (zAl m a) m Q (zwp (zcall d) m Q) r L [w0, w1, w2, w3]) := by rw [zw]; exact z_and2 ⟨Nat.le_of_ble_eq_true rfl, hc⟩ (Nat.le_of_ble_eq_true rfl)
theorem r_inv_3_0  (hc : zC1 [v2, v1, v0] = true) : zwp (zcall d) m Q (.invokeinterface a 3 :: r) L [v2, v1, v0] h = zcall d a [v0, v1, v2] h (zK (zAl m a) m Q (zwp (zcall d) m Q) r L []) := by rw [zw]; exact z_and2 ⟨Nat.le_of_ble_eq_true rfl, hc⟩ (Nat.le_of_ble_eq_true rfl)
theorem r_inv_3_1 {w0 : Value} (hc : zC1 [v2, v1, v0] = true) : zwp (zcall d) m Q (.invokeinterface a 3 :: r) L [v2, v1, v0, w0] h = zcall d a [v0, v1, v2] h (zK (zAl m a) m Q (zwp (zcall d) m Q) r L [w0]) := by rw [zw]; exact z_and2 ⟨Nat.le_of_ble_eq_true rfl, hc⟩ (Nat.le_of_ble_eq_true rfl)
theorem r_inv_3_2 {w0 w1 : Value} (hc : zC1 [v2, v1, v0] = true) : zwp (zcall d) m Q (.invokeinterface a 3 :: r) L [v2, v1, v0, w0, w1] h = zcall d a [v0, v1, v2] h (zK (zAl m a) m Q (zwp (zcall d) m Q) r L [w0, w1]) := by rw [zw]; exact z_and2 ⟨Nat.le_of_ble_eq_true rfl, hc⟩ (Nat.le_of_ble_eq_true rfl)
theorem r_inv_3_3 {w0 w1 w2 : Value} (hc : zC1 [v2, v1, v0] = true) : zwp (zcall d) m Q (.invokeinterface a 3 :: r) L [v2, v1, v0, w0, w1, w2] h = zcall d a [v0, v1, v2] h (zK (zAl m a) m Q (zwp (zcall d) m Q) r L [w0, w1, w2]) := by rw [zw]; exact z_and2 ⟨Nat.le_of_ble_eq_true rfl, hc⟩ (Nat.le_of_ble_eq_true rfl)
theorem r_inv_3_4 {w0 w1 w2 w3 : Value} (hc : zC1 [v2, v1, v0] = true) : zwp (zcall d) m Q (.invokeinterface a 3 :: r) L [v2, v1, v0, w0, w1, w2, w3] h = zcall d a [v0, v1, v2] h (zK (zAl m a) m Q (zwp (zcall d) m Q) r L [w0, w1, w2, w3]) := by rw [zw]; exact z_and2 ⟨Nat.le_of_ble_eq_true rfl, hc⟩ (Nat.le_of_ble_eq_true rfl)
theorem r_inv_4_0  (hc : zC1 [v3, v2, v1, v0] = true) : zwp (zcall d) m Q (.invokeinterface a 4 :: r) L [v3, v2, v1, v0] h = zcall d a [v0, v1, v2, v3] h (zK (zAl m a) m Q (zwp (zcall d) m Q) r L []) := by rw [zw]; exact z_and2 ⟨Nat.le_of_ble_eq_true rfl, hc⟩ (Nat.le_of_ble_eq_true rfl)
theorem r_inv_4_1 {w0 : Value} (hc : zC1 [v3, v2, v1, v0] = true) : zwp (zcall d) m Q (.invokeinterface a 4 :: r) L [v3, v2, v1, v0, w0] h = zcall d a [v0, v1, v2, v3] h (zK (zAl m a) m Q (zwp (zcall d) m Q) r L [w0]) := by rw [zw]; exact z_and2 ⟨Nat.le_of_ble_eq_true rfl, hc⟩ (Nat.le_of_ble_eq_true rfl)
theorem r_inv_4_2 {w0 w1 : Value} (hc : zC1 [v3, v2, v1, v0] = true) : zwp (zcall d) m Q (.invokeinterface a 4 :: r) L [v3, v2, v1, v0, w0, w1] h = zcall d a [v0, v1, v2, v3] h (zK (zAl m a) m Q (zwp (zcall d) m Q) r L [w0, w1]) := by rw [zw]; exact z_and2 ⟨Nat.le_of_ble_eq_true rfl, hc⟩ (Nat.le_of_ble_eq_true rfl)
theorem r_inv_4_3 {w0 w1 w2 : Value} (hc : zC1 [v3, v2, v1, v0] = true) : zwp (zcall d) m Q (.invokeinterface a 4 :: r) L [v3, v2, v1, v0, w0, w1, w2] h = zcall d a [v0, v1, v2, v3] h (zK (zAl m a) m Q (zwp (zcall d) m Q) r L [w0, w1, w2]) := by rw [zw]; exact z_and2 ⟨Nat.le_of_ble_eq_true rfl, hc⟩ (Nat.le_of_ble_eq_true rfl)
theorem r_inv_4_4 {w0 w1 w2 w3 : Value} (hc : zC1 [v3, v2, v1, v0] = true) : zwp (zcall d) m Q (.invokeinterface a 4 :: r) L [v3, v2, v1, v0, w0, w1, w2, w3] h = zcall d a [v0, v1, v2, v3] h (zK (zAl m a) m Q (zwp (zcall d) m Q) r L [w0, w1, w2, w3]) := by rw [zw]; exact z_and2 ⟨Nat.le_of_ble_eq_true rfl, hc⟩ (Nat.le_of_ble_eq_true rfl)
theorem r_inv_5_0  (hc : zC1 [v4, v3, v2, v1, v0] = true) : zwp (zcall d) m Q (.invokeinterface a 5 :: r) L [v4, v3, v2, v1, v0] h = zcall d a [v0, v1, v2, v3, v4] h (zK (zAl m a) m Q (zwp (zcall d) m Q) r L []) := by rw [zw]; exact z_and2 ⟨Nat.le_of_ble_eq_true rfl, hc⟩ (Nat.le_of_ble_eq_true rfl)
theorem r_inv_5_1 {w0 : Value} (hc : zC1 [v4, v3, v2, v1, v0] = true) : zwp (zcall d) m Q (.invokeinterface a 5 :: r) L [v4, v3, v2, v1, v0, w0] h = zcall d a [v0, v1, v2, v3, v4] h (zK (zAl m a) m Q (zwp (zcall d) m Q) r L [w0]) := by rw [zw]; exact z_and2 ⟨Nat.le_of_ble_eq_true rfl, hc⟩ (Nat.le_of_ble_eq_true rfl)
theorem r_inv_5_2 {w0 w1 : Value} (hc : zC1 [v4, v3, v2, v1, v0] = true) : zwp (zcall d) m Q (.invokeinterface a 5 :: r) L [v4, v3, v2, v1, v0, w0, w1] h = zcall d a [v0, v1, v2, v3, v4] h (zK (zAl m a) m Q (zwp (zcall d) m Q) r L [w0, w1]) := by rw [zw]; exact z_and2 ⟨Nat.le_of_ble_eq_true rfl, hc⟩ (Nat.le_of_ble_eq_true rfl)
theorem r_inv_5_3 {w0 w1 w2 : Value} (hc : zC1 [v4, v3, v2, v1, v0] = true) : zwp (zcall d) m Q (.invokeinterface a 5 :: r) L [v4, v3, v2, v1, v0, w0, w1, w2] h = zcall d a [v0, v1, v2, v3, v4] h (zK (zAl m a) m Q (zwp (zcall d) m Q) r L [w0, w1, w2]) := by rw [zw]; exact z_and2 ⟨Nat.le_of_ble_eq_true rfl, hc⟩ (Nat.le_of_ble_eq_true rfl)
theorem r_inv_5_4 {w0 w1 w2 w3 : Value} (hc : zC1 [v4, v3, v2, v1, v0] = true) : zwp (zcall d) m Q (.invokeinterface a 5 :: r) L [v4, v3, v2, v1, v0, w0, w1, w2, w3] h = zcall d a [v0, v1, v2, v3, v4] h (zK (zAl m a) m Q (zwp (zcall d) m Q) r L [w0, w1, w2, w3]) := by rw [zw]; exact z_and2 ⟨Nat.le_of_ble_eq_true rfl, hc⟩ (Nat.le_of_ble_eq_true rfl)
theorem r_inv_6_0  (hc : zC1 [v5, v4, v3, v2, v1, v0] = true) : zwp (zcall d) m Q (.invokeinterface a 6 :: r) L [v5, v4, v3, v2, v1, v0] h = zcall d a [v0, v1, v2, v3, v4, v5] h (zK (zAl m a) m Q (zwp (zcall d) m Q) r L []) := by rw [zw]; exact z_and2 ⟨Nat.le_of_ble_eq_true rfl, hc⟩ (Nat.le_of_ble_eq_true rfl)
theorem r_inv_6_1 {w0 : Value} (hc : zC1 [v5, v4, v3, v2, v1, v0] = true) : zwp (zcall d) m Q (.invokeinterface a 6 :: r) L [v5, v4, v3, v2, v1, v0, w0] h = zcall d a [v0, v1, v2, v3, v4, v5] h (zK (zAl m a) m Q (zwp (zcall d) m Q) r L [w0]) := by rw [zw]; exact z_and2 ⟨Nat.le_of_ble_eq_true rfl, hc⟩ (Nat.le_of_ble_eq_true rfl)
theorem r_inv_6_2 {w0 w1 : Value} (hc : zC1 [v5, v4, v3, v2, v1, v0] = true) : zwp (zcall d) m Q (.invokeinterface a 6 :: r) L [v5, v4, v3, v2, v1, v0, w0, w1] h = zcall d a [v0, v1, v2, v3, v4, v5] h (zK (zAl m a) m Q (zwp (zcall d) m Q) r L [w0, w1]) := by rw [zw]; exact z_and2 ⟨Nat.le_of_ble_eq_true rfl, hc⟩ (Nat.le_of_ble_eq_true rfl)
theorem r_inv_6_3 {w0 w1 w2 : Value} (hc : zC1 [v5, v4, v3, v2, v1, v0] = true) : zwp (zcall d) m Q (.invokeinterface a 6 :: r) L [v5, v4, v3, v2, v1, v0, w0, w1, w2] h = zcall d a [v0, v1, v2, v3, v4, v5] h (zK (zAl m a) m Q (zwp (zcall d) m Q) r L [w0, w1, w2]) := by rw [zw]; exact z_and2 ⟨Nat.le_of_ble_eq_true rfl, hc⟩ (Nat.le_of_ble_eq_true rfl)
theorem r_inv_6_4 {w0 w1 w2 w3 : Value} (hc : zC1 [v5, v4, v3, v2, v1, v0] = true) : zwp (zcall d) m Q (.invokeinterface a 6 :: r) L [v5, v4, v3, v2, v1, v0, w0, w1, w2, w3] h = zcall d a [v0, v1, v2, v3, v4, v5] h (zK (zAl m a) m Q (zwp (zcall d) m Q) r L [w0, w1, w2, w3]) := by rw [zw]; exact z_and2 ⟨Nat.le_of_ble_eq_true rfl, hc⟩ (Nat.le_of_ble_eq_true rfl)
theorem r_inv_7_0  (hc : zC1 [v6, v5, v4, v3, v2, v1, v0] = true) : zwp (zcall d) m Q (.invokeinterface a 7 :: r) L [v6, v5, v4, v3, v2, v1, v0] h = zcall d a [v0, v1, v2, v3, v4, v5, v6] h (zK (zAl m a) m Q (zwp (zcall d) m Q) r L []) := by rw [zw]; exact z_and2 ⟨Nat.le_of_ble_eq_true rfl, hc⟩ (Nat.le_of_ble_eq_true rfl)
theorem r_inv_7_1 {w0 : Value} (hc : zC1 [v6, v5, v4, v3, v2, v1, v0] = true) : zwp (zcall d) m Q (.invokeinterface a 7 :: r) L [v6, v5, v4, v3, v2, v1, v0, w0] h = zcall d a [v0, v1, v2, v3, v4, v5, v6] h (zK (zAl m a) m Q (zwp (zcall d) m Q) r L [w0]) := by rw [zw]; exact z_and2 ⟨Nat.le_of_ble_eq_true rfl, hc⟩ (Nat.le_of_ble_eq_true rfl)
theorem r_inv_7_2 {w0 w1 : Value} (hc : zC1 [v6, v5, v4, v3, v2, v1, v0] = true) : zwp (zcall d) m Q (.invokeinterface a 7 :: r) L [v6, v5, v4, v3, v2, v1, v0, w0, w1] h = zcall d a [v0, v1, v2, v3, v4, v5, v6] h (zK (zAl m a) m Q (zwp (zcall d) m Q) r L [w0, w1]) := by rw [zw]; exact z_and2 ⟨Nat.le_of_ble_eq_true rfl, hc⟩ (Nat.le_of_ble_eq_true rfl)
theorem r_inv_7_3 {w0 w1 w2 : Value} (hc : zC1 [v6, v5, v4, v3, v2, v1, v0] = true) : zwp (zcall d) m Q (.invokeinterface a 7 :: r) L [v6, v5, v4, v3, v2, v1, v0, w0, w1, w2] h = zcall d a [v0, v1, v2, v3, v4, v5, v6] h (zK (zAl m a) m Q (zwp (zcall d) m Q) r L [w0, w1, w2]) := by rw [zw]; exact z_and2 ⟨Nat.le_of_ble_eq_true rfl, hc⟩ (Nat.le_of_ble_eq_true rfl)
theorem r_inv_7_4 {w0 w1 w2 w3 : Value} (hc : zC1 [v6, v5, v4, v3, v2, v1, v0] = true) : zwp (zcall d) m Q (.invokeinterface a 7 :: r) L [v6, v5, v4, v3, v2, v1, v0, w0, w1, w2, w3] h = zcall d a [v0, v1, v2, v3, v4, v5, v6] h (zK (zAl m a) m Q (zwp (zcall d) m Q) r L [w0, w1, w2, w3]) := by rw [zw]; exact z_and2 ⟨Nat.le_of_ble_eq_true rfl, hc⟩ (Nat.le_of_ble_eq_true rfl)
theorem r_disp_0_0_0 (hc : zC1 [v5, v4, v3, v2, v1, .ref a] = true) (ht : s.tg a = 0) : zwp (zcall d) m Q (.invokevirtual 0 :: r) L [v5, v4, v3, v2, v1, .ref a] (s, V) = zcall d 3 [.ref a, v1, v2, v3, v4, v5] (s, V) (zK false m Q (zwp (zcall d) m Q) r L []) := by
  rw [zw]
  refine propext ⟨fun q => ?_, fun q => ⟨⟨Nat.le_of_ble_eq_true rfl, hc⟩, Nat.le_of_ble_eq_true rfl, a, 3, rfl, by show zDisp 0 (s.tg a) = _; rw [ht]; rfl, q⟩⟩
  obtain ⟨-, -, b, y, e1, e2, q⟩ := q
  cases e1
  have e2 : zDisp 0 (s.tg a) = some y := e2
  rw [ht] at e2
  cases e2
  exact q
theorem r_disp_0_0_1 {w0 : Value} (hc : zC1 [v5, v4, v3, v2, v1, .ref a] = true) (ht : s.tg a = 0) : zwp (zcall d) m Q (.invokevirtual 0 :: r) L [v5, v4, v3, v2, v1, .ref a, w0] (s, V) = zcall d 3 [.ref a, v1, v2, v3, v4, v5] (s, V) (zK false m Q (zwp (zcall d) m Q) r L [w0]) := by
  rw [zw]
  refine propext ⟨fun q => ?_, fun q => ⟨⟨Nat.le_of_ble_eq_true rfl, hc⟩, Nat.le_of_ble_eq_true rfl, a, 3, rfl, by show zDisp 0 (s.tg a) = _; rw [ht]; rfl, q⟩⟩
  obtain ⟨-, -, b, y, e1, e2, q⟩ := q
  cases e1
  have e2 : zDisp 0 (s.tg a) = some y := e2
  rw [ht] at e2
  cases e2
  exact q
theorem r_disp_0_0_2 {w0 w1 : Value} (hc : zC1 [v5, v4, v3, v2, v1, .ref a] = true) (ht : s.tg a = 0) : zwp (zcall d) m Q (.invokevirtual 0 :: r) L [v5, v4, v3, v2, v1, .ref a, w0, w1] (s, V) = zcall d 3 [.ref a, v1, v2, v3, v4, v5] (s, V) (zK false m Q (zwp (zcall d) m Q) r L [w0, w1]) := by
  rw [zw]
  refine propext ⟨fun q => ?_, fun q => ⟨⟨Nat.le_of_ble_eq_true rfl, hc⟩, Nat.le_of_ble_eq_true rfl, a, 3, rfl, by show zDisp 0 (s.tg a) = _; rw [ht]; rfl, q⟩⟩
  obtain ⟨-, -, b, y, e1, e2, q⟩ := q
  cases e1
  have e2 : zDisp 0 (s.tg a) = some y := e2
  rw [ht] at e2
  cases e2
  exact q
theorem r_disp_0_5_0 (hc : zC1 [v5, v4, v3, v2, v1, .ref a] = true) (ht : s.tg a = 5) : zwp (zcall d) m Q (.invokevirtual 0 :: r) L [v5, v4, v3, v2, v1, .ref a] (s, V) = zcall d 48 [.ref a, v1, v2, v3, v4, v5] (s, V) (zK false m Q (zwp (zcall d) m Q) r L []) := by
  rw [zw]
  refine propext ⟨fun q => ?_, fun q => ⟨⟨Nat.le_of_ble_eq_true rfl, hc⟩, Nat.le_of_ble_eq_true rfl, a, 48, rfl, by show zDisp 0 (s.tg a) = _; rw [ht]; rfl, q⟩⟩
  obtain ⟨-, -, b, y, e1, e2, q⟩ := q
  cases e1
  have e2 : zDisp 0 (s.tg a) = some y := e2
  rw [ht] at e2
  cases e2
  exact q
theorem r_disp_0_5_1 {w0 : Value} (hc : zC1 [v5, v4, v3, v2, v1, .ref a] = true) (ht : s.tg a = 5) : zwp (zcall d) m Q (.invokevirtual 0 :: r) L [v5, v4, v3, v2, v1, .ref a, w0] (s, V) = zcall d 48 [.ref a, v1, v2, v3, v4, v5] (s, V) (zK false m Q (zwp (zcall d) m Q) r L [w0]) := by
  rw [zw]
  refine propext ⟨fun q => ?_, fun q => ⟨⟨Nat.le_of_ble_eq_true rfl, hc⟩, Nat.le_of_ble_eq_true rfl, a, 48, rfl, by show zDisp 0 (s.tg a) = _; rw [ht]; rfl, q⟩⟩
  obtain ⟨-, -, b, y, e1, e2, q⟩ := q
  cases e1
  have e2 : zDisp 0 (s.tg a) = some y := e2
  rw [ht] at e2
  cases e2
  exact q
theorem r_disp_0_5_2 {w0 w1 : Value} (hc : zC1 [v5, v4, v3, v2, v1, .ref a] = true) (ht : s.tg a = 5) : zwp (zcall d) m Q (.invokevirtual 0 :: r) L [v5, v4, v3, v2, v1, .ref a, w0, w1] (s, V) = zcall d 48 [.ref a, v1, v2, v3, v4, v5] (s, V) (zK false m Q (zwp (zcall d) m Q) r L [w0, w1]) := by
  rw [zw]
  refine propext ⟨fun q => ?_, fun q => ⟨⟨Nat.le_of_ble_eq_true rfl, hc⟩, Nat.le_of_ble_eq_true rfl, a, 48, rfl, by show zDisp 0 (s.tg a) = _; rw [ht]; rfl, q⟩⟩
  obtain ⟨-, -, b, y, e1, e2, q⟩ := q
  cases e1
  have e2 : zDisp 0 (s.tg a) = some y := e2
  rw [ht] at e2
  cases e2
  exact q
theorem r_disp_1_0_0 (hc : zC1 [v4, v3, v2, v1, .ref a] = true) (ht : s.tg a = 0) : zwp (zcall d) m Q (.invokevirtual 1 :: r) L [v4, v3, v2, v1, .ref a] (s, V) = zcall d 4 [.ref a, v1, v2, v3, v4] (s, V) (zK false m Q (zwp (zcall d) m Q) r L []) := by
  rw [zw]
  refine propext ⟨fun q => ?_, fun q => ⟨⟨Nat.le_of_ble_eq_true rfl, hc⟩, Nat.le_of_ble_eq_true rfl, a, 4, rfl, by show zDisp 1 (s.tg a) = _; rw [ht]; rfl, q⟩⟩
  obtain ⟨-, -, b, y, e1, e2, q⟩ := q
  cases e1
  have e2 : zDisp 1 (s.tg a) = some y := e2
  rw [ht] at e2
  cases e2
  exact q
theorem r_disp_1_0_1 {w0 : Value} (hc : zC1 [v4, v3, v2, v1, .ref a] = true) (ht : s.tg a = 0) : zwp (zcall d) m Q (.invokevirtual 1 :: r) L [v4, v3, v2, v1, .ref a, w0] (s, V) = zcall d 4 [.ref a, v1, v2, v3, v4] (s, V) (zK false m Q (zwp (zcall d) m Q) r L [w0]) := by
  rw [zw]
  refine propext ⟨fun q => ?_, fun q => ⟨⟨Nat.le_of_ble_eq_true rfl, hc⟩, Nat.le_of_ble_eq_true rfl, a, 4, rfl, by show zDisp 1 (s.tg a) = _; rw [ht]; rfl, q⟩⟩
  obtain ⟨-, -, b, y, e1, e2, q⟩ := q
  cases e1
  have e2 : zDisp 1 (s.tg a) = some y := e2
  rw [ht] at e2
  cases e2
  exact q
theorem r_disp_1_0_2 {w0 w1 : Value} (hc : zC1 [v4, v3, v2, v1, .ref a] = true) (ht : s.tg a = 0) : zwp (zcall d) m Q (.invokevirtual 1 :: r) L [v4, v3, v2, v1, .ref a, w0, w1] (s, V) = zcall d 4 [.ref a, v1, v2, v3, v4] (s, V) (zK false m Q (zwp (zcall d) m Q) r L [w0, w1]) := by
  rw [zw]
  refine propext ⟨fun q => ?_, fun q => ⟨⟨Nat.le_of_ble_eq_true rfl, hc⟩, Nat.le_of_ble_eq_true rfl, a, 4, rfl, by show zDisp 1 (s.tg a) = _; rw [ht]; rfl, q⟩⟩
  obtain ⟨-, -, b, y, e1, e2, q⟩ := q
  cases e1
  have e2 : zDisp 1 (s.tg a) = some y := e2
  rw [ht] at e2
  cases e2
  exact q
theorem r_disp_1_5_0 (hc : zC1 [v4, v3, v2, v1, .ref a] = true) (ht : s.tg a = 5) : zwp (zcall d) m Q (.invokevirtual 1 :: r) L [v4, v3, v2, v1, .ref a] (s, V) = zcall d 50 [.ref a, v1, v2, v3, v4] (s, V) (zK false m Q (zwp (zcall d) m Q) r L []) := by
  rw [zw]
  refine propext ⟨fun q => ?_, fun q => ⟨⟨Nat.le_of_ble_eq_true rfl, hc⟩, Nat.le_of_ble_eq_true rfl, a, 50, rfl, by show zDisp 1 (s.tg a) = _; rw [ht]; rfl, q⟩⟩
  obtain ⟨-, -, b, y, e1, e2, q⟩ := q
  cases e1
  have e2 : zDisp 1 (s.tg a) = some y := e2
  rw [ht] at e2
  cases e2
  exact q
theorem r_disp_1_5_1 {w0 : Value} (hc : zC1 [v4, v3, v2, v1, .ref a] = true) (ht : s.tg a = 5) : zwp (zcall d) m Q (.invokevirtual 1 :: r) L [v4, v3, v2, v1, .ref a, w0] (s, V) = zcall d 50 [.ref a, v1, v2, v3, v4] (s, V) (zK false m Q (zwp (zcall d) m Q) r L [w0]) := by
  rw [zw]
  refine propext ⟨fun q => ?_, fun q => ⟨⟨Nat.le_of_ble_eq_true rfl, hc⟩, Nat.le_of_ble_eq_true rfl, a, 50, rfl, by show zDisp 1 (s.tg a) = _; rw [ht]; rfl, q⟩⟩
  obtain ⟨-, -, b, y, e1, e2, q⟩ := q
  cases e1
  have e2 : zDisp 1 (s.tg a) = some y := e2
  rw [ht] at e2
  cases e2
  exact q
theorem r_disp_1_5_2 {w0 w1 : Value} (hc : zC1 [v4, v3, v2, v1, .ref a] = true) (ht : s.tg a = 5) : zwp (zcall d) m Q (.invokevirtual 1 :: r) L [v4, v3, v2, v1, .ref a, w0, w1] (s, V) = zcall d 50 [.ref a, v1, v2, v3, v4] (s, V) (zK false m Q (zwp (zcall d) m Q) r L [w0, w1]) := by
  rw [zw]
  refine propext ⟨fun q => ?_, fun q => ⟨⟨Nat.le_of_ble_eq_true rfl, hc⟩, Nat.le_of_ble_eq_true rfl, a, 50, rfl, by show zDisp 1 (s.tg a) = _; rw [ht]; rfl, q⟩⟩
  obtain ⟨-, -, b, y, e1, e2, q⟩ := q
  cases e1
  have e2 : zDisp 1 (s.tg a) = some y := e2
  rw [ht] at e2
  cases e2
  exact q
theorem r_disp_2_0_0 (hc : zC1 [.ref a] = true) (ht : s.tg a = 0) : zwp (zcall d) m Q (.invokevirtual 2 :: r) L [.ref a] (s, V) = zcall d 5 [.ref a] (s, V) (zK false m Q (zwp (zcall d) m Q) r L []) := by
  rw [zw]
  refine propext ⟨fun q => ?_, fun q => ⟨⟨Nat.le_of_ble_eq_true rfl, hc⟩, Nat.le_of_ble_eq_true rfl, a, 5, rfl, by show zDisp 2 (s.tg a) = _; rw [ht]; rfl, q⟩⟩
  obtain ⟨-, -, b, y, e1, e2, q⟩ := q
  cases e1
  have e2 : zDisp 2 (s.tg a) = some y := e2
  rw [ht] at e2
  cases e2
  exact q
theorem r_disp_2_0_1 {w0 : Value} (hc : zC1 [.ref a] = true) (ht : s.tg a = 0) : zwp (zcall d) m Q (.invokevirtual 2 :: r) L [.ref a, w0] (s, V) = zcall d 5 [.ref a] (s, V) (zK false m Q (zwp (zcall d) m Q) r L [w0]) := by
  rw [zw]
  refine propext ⟨fun q => ?_, fun q => ⟨⟨Nat.le_of_ble_eq_true rfl, hc⟩, Nat.le_of_ble_eq_true rfl, a, 5, rfl, by show zDisp 2 (s.tg a) = _; rw [ht]; rfl, q⟩⟩
  obtain ⟨-, -, b, y, e1, e2, q⟩ := q
  cases e1
  have e2 : zDisp 2 (s.tg a) = some y := e2
  rw [ht] at e2
  cases e2
  exact q
theorem r_disp_2_0_2 {w0 w1 : Value} (hc : zC1 [.ref a] = true) (ht : s.tg a = 0) : zwp (zcall d) m Q (.invokevirtual 2 :: r) L [.ref a, w0, w1] (s, V) = zcall d 5 [.ref a] (s, V) (zK false m Q (zwp (zcall d) m Q) r L [w0, w1]) := by
  rw [zw]
  refine propext ⟨fun q => ?_, fun q => ⟨⟨Nat.le_of_ble_eq_true rfl, hc⟩, Nat.le_of_ble_eq_true rfl, a, 5, rfl, by show zDisp 2 (s.tg a) = _; rw [ht]; rfl, q⟩⟩
  obtain ⟨-, -, b, y, e1, e2, q⟩ := q
  cases e1
  have e2 : zDisp 2 (s.tg a) = some y := e2
  rw [ht] at e2
  cases e2
  exact q
theorem r_disp_2_5_0 (hc : zC1 [.ref a] = true) (ht : s.tg a = 5) : zwp (zcall d) m Q (.invokevirtual 2 :: r) L [.ref a] (s, V) = zcall d 51 [.ref a] (s, V) (zK false m Q (zwp (zcall d) m Q) r L []) := by
  rw [zw]
  refine propext ⟨fun q => ?_, fun q => ⟨⟨Nat.le_of_ble_eq_true rfl, hc⟩, Nat.le_of_ble_eq_true rfl, a, 51, rfl, by show zDisp 2 (s.tg a) = _; rw [ht]; rfl, q⟩⟩
  obtain ⟨-, -, b, y, e1, e2, q⟩ := q
  cases e1
  have e2 : zDisp 2 (s.tg a) = some y := e2
  rw [ht] at e2
  cases e2
  exact q
theorem r_disp_2_5_1 {w0 : Value} (hc : zC1 [.ref a] = true) (ht : s.tg a = 5) : zwp (zcall d) m Q (.invokevirtual 2 :: r) L [.ref a, w0] (s, V) = zcall d 51 [.ref a] (s, V) (zK false m Q (zwp (zcall d) m Q) r L [w0]) := by
  rw [zw]
  refine propext ⟨fun q => ?_, fun q => ⟨⟨Nat.le_of_ble_eq_true rfl, hc⟩, Nat.le_of_ble_eq_true rfl, a, 51, rfl, by show zDisp 2 (s.tg a) = _; rw [ht]; rfl, q⟩⟩
  obtain ⟨-, -, b, y, e1, e2, q⟩ := q
  cases e1
  have e2 : zDisp 2 (s.tg a) = some y := e2
  rw [ht] at e2
  cases e2
  exact q
theorem r_disp_2_5_2 {w0 w1 : Value} (hc : zC1 [.ref a] = true) (ht : s.tg a = 5) : zwp (zcall d) m Q (.invokevirtual 2 :: r) L [.ref a, w0, w1] (s, V) = zcall d 51 [.ref a] (s, V) (zK false m Q (zwp (zcall d) m Q) r L [w0, w1]) := by
  rw [zw]
  refine propext ⟨fun q => ?_, fun q => ⟨⟨Nat.le_of_ble_eq_true rfl, hc⟩, Nat.le_of_ble_eq_true rfl, a, 51, rfl, by show zDisp 2 (s.tg a) = _; rw [ht]; rfl, q⟩⟩
  obtain ⟨-, -, b, y, e1, e2, q⟩ := q
  cases e1
  have e2 : zDisp 2 (s.tg a) = some y := e2
  rw [ht] at e2
  cases e2
  exact q
theorem r_K0 {al : Bool} {X : List Instr → List Value → List Value → zH → Prop} : zK al m Q X r L st (.inl none) h = X r L st h := rfl
theorem r_K1 {al : Bool} {X : List Instr → List Value → List Value → zH → Prop} {v : Value} : zK al m Q X r L st (.inl (some v)) h = X r L (v :: st) h := rfl
theorem r_KX {X : List Instr → List Value → List Value → zH → Prop} {al : Bool} {k : Nat} (hA : al = true) (hE : zE m k = none) (hH : zHh m = []) : zK al m Q X r L st (.inr k) h = Q (.inr k) h := by unfold zK; simp only [hE, hA, hH, true_and]
theorem r_ret (hr : zRk m = 0) : zwp (zcall d) m Q (.return_ :: r) L [] h = Q (.inl none) h := by rw [zw]; exact z_and2 hr rfl
theorem r_iret (hr : zRk m = 1) : zwp (zcall d) m Q (.ireturn :: r) L [zi x] h = Q (.inl (some (zi x))) h := by
  rw [zw]
  refine propext ⟨fun q => ?_, fun q => ⟨_, rfl, Or.inl hr, q⟩⟩
  obtain ⟨y, e1, -, q⟩ := q
  rw [show zi x = .int y from (List.cons.inj e1).1]
  exact q
theorem r_iretR {u : Int32} (hr : zRk m = 1) : zwp (zcall d) m Q (.ireturn :: r) L [.int u] h = Q (.inl (some (.int u))) h := by
  rw [zw]
  refine propext ⟨fun q => ?_, fun q => ⟨_, rfl, Or.inl hr, q⟩⟩
  obtain ⟨y, e1, -, q⟩ := q
  cases e1
  exact q
theorem r_bret_0 (hr : zRk m = 2) : zwp (zcall d) m Q (.ireturn :: r) L [zi 0] h = Q (.inl (some (zi 0))) h := by
  rw [zw]
  refine propext ⟨fun q => ?_, fun q => ⟨_, rfl, Or.inr ⟨hr, by first | exact Or.inl rfl | exact Or.inr rfl⟩, q⟩⟩
  obtain ⟨y, e1, -, q⟩ := q
  rw [show zi 0 = .int y from (List.cons.inj e1).1]
  exact q
theorem r_bret_1 (hr : zRk m = 2) : zwp (zcall d) m Q (.ireturn :: r) L [zi 1] h = Q (.inl (some (zi 1))) h := by
  rw [zw]
  refine propext ⟨fun q => ?_, fun q => ⟨_, rfl, Or.inr ⟨hr, by first | exact Or.inl rfl | exact Or.inr rfl⟩, q⟩⟩
  obtain ⟨y, e1, -, q⟩ := q
  rw [show zi 1 = .int y from (List.cons.inj e1).1]
  exact q
theorem r_bret (hr : zRk m = 2) (hx : x = 0 ∨ x = 1) : zwp (zcall d) m Q (.ireturn :: r) L [zi x] h = Q (.inl (some (zi x))) h := by rcases hx with rfl | rfl; exact r_bret_0 hr; exact r_bret_1 hr
theorem r_lreturn {u : Int64} (hr : zRk m = 3) : zwp (zcall d) m Q (.lreturn :: r) L [.long u] h = Q (.inl (some (.long u))) h := by
  rw [zw]
  refine propext ⟨fun q => ?_, fun q => ⟨hr, _, rfl, q⟩⟩
  obtain ⟨-, y, e1, q⟩ := q
  cases e1
  exact q
theorem r_dreturn {u : UInt64} (hr : zRk m = 4) : zwp (zcall d) m Q (.dreturn :: r) L [.double u] h = Q (.inl (some (.double u))) h := by
  rw [zw]
  refine propext ⟨fun q => ?_, fun q => ⟨hr, _, rfl, q⟩⟩
  obtain ⟨-, y, e1, q⟩ := q
  cases e1
  exact q
theorem r_lretI (hr : zRk m = 3) : zwp (zcall d) m Q (.lreturn :: r) L [zl x] h = Q (.inl (some (zl x))) h := r_lreturn hr
end
