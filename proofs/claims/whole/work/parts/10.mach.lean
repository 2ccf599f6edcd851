/-! THE ABSTRACT MACHINE: heap, one step, the least predicate that is closed under steps, calls by depth -/
/-- an abstract heap: its shape (how many cells, how many slots were used, tags, lengths), its contents -/
def zS : Type := Nat × Nat × (Nat → Nat) × (Nat → Int)
abbrev zV : Type := Nat → Int → Value
abbrev zH : Type := zS × zV
def zS.sz (h : zS) : Nat := h.1
def zS.sl (h : zS) : Nat := h.2.1
def zS.tg (h : zS) (r : Nat) : Nat := h.2.2.1 r
def zS.ln (h : zS) (r : Nat) : Int := h.2.2.2 r
def zput (V : zV) (r : Nat) (k : Int) (v : Value) : zV := fun r' k' => if r' = r ∧ k' = k then v else V r' k'
/-- another row of contents at r -/
def zrow (V : zV) (r : Nat) (f : Int → Value) : zV := fun r' => if r' = r then f else V r'
def zS.new (s : zS) (t : Nat) (n : Int) (k : Nat) : zS := (s.1 + 1, s.2.1 + k, fun r => if r = s.1 then t else s.2.2.1 r, fun r => if r = s.1 then n else s.2.2.2 r)
abbrev zHnew (h : zH) (t : Nat) (n : Int) (k : Nat) (f : Int → Value) : zH := (h.1.new t n k, zrow h.2 h.1.sz f)
/-- n rows of length k of tag t, one behind the other -/
def zHnews (h : zH) (t : Nat) (k : Int) (v : Value) : Nat → zH
  | 0 => h
  | n + 1 => zHnew (zHnews h t k v n) t k k.toNat (fun _ => v)
abbrev zO : Type := Option Value ⊕ Nat
def zJ : Value := .retAddr 0
def zi (z : Int) : Value := .int (Int32.ofInt z)
def zl (z : Int) : Value := .long (Int64.ofInt z)
def zsw : List (Int × Int) → Int → Int → Int
  | [], d, _ => d
  | (k, l) :: ps, d, x => if x = k then l else zsw ps d x
def zSrt (ps : List (Int × Int)) : Bool := (ps.zip (ps.drop 1)).all (fun q => decide (q.1.1 < q.2.1))
/-! tags: objects 0 to 10 (11, 12, 13 exceptions); 20 int[], 21 long[], 22 double[], 23 boolean[], 24 int[][], 25 long[][], 26 State[]; 30, 31, 32: arrays that were there before (int, long, the script) -/
/-- may this value be put into a field of this type -/
def zFit (ty : Nat) (v : Value) : Bool := match v with
  | .int x => ty == 1 || (ty == 2 && (x == 0 || x == 1))
  | .long _ => ty == 3
  | .ref _ => ty == 5
  | _ => false
def zAd : ArrayType → Value
  | .long => .long 0 | .double => .double 0 | _ => .int 0
def zPrev (L : List Value) : Nat → Bool
  | 0 => true
  | j + 1 => (L.getD j zJ).category == 1
def zSetL (L : List Value) (k : Nat) (v : Value) : Option (List Value) :=
  if k < L.length ∧ v.category = 1 ∧ zPrev L k = true then some (L.set k v) else none
def zSetL2 (L : List Value) (k : Nat) (v : Value) : Option (List Value) :=
  if k + 1 < L.length ∧ v.category = 2 ∧ zPrev L k = true then some ((L.set k v).set (k + 1) zJ) else none

def zstep (m : Nat) (i : Instr) (r : List Instr) (L st : List Value) (h : zH) : Option (List Instr × List Value × List Value × zH) := match i with
  | .iload k => match L[k]? with
    | some (.int x) => some (r, L, .int x :: st, h)
    | _ => none
  | .lload k => match L[k]? with
    | some (.long x) => some (r, L, .long x :: st, h)
    | _ => none
  | .dload k => match L[k]? with
    | some (.double x) => some (r, L, .double x :: st, h)
    | _ => none
  | .fload k => match L[k]? with
    | some (.float x) => some (r, L, .float x :: st, h)
    | _ => none
  | .aload k => match L[k]? with
    | some (.ref x) => some (r, L, .ref x :: st, h)
    | _ => none
  | .istore k => match st with
    | .int x :: st => (zSetL L k (.int x)).map (fun L2 => (r, L2, st, h))
    | _ => none
  | .astore k => match st with
    | .ref x :: st => (zSetL L k (.ref x)).map (fun L2 => (r, L2, st, h))
    | _ => none
  | .lstore k => match st with
    | .long x :: st => (zSetL2 L k (.long x)).map (fun L2 => (r, L2, st, h))
    | _ => none
  | .dstore k => match st with
    | .double x :: st => (zSetL2 L k (.double x)).map (fun L2 => (r, L2, st, h))
    | _ => none
  | .iinc k n => match L[k]? with
    | some (.int x) => (zSetL L k (.int (x + Int32.ofInt n))).map (fun L2 => (r, L2, st, h))
    | _ => none
  | .iconst n => some (r, L, .int (Int32.ofInt n) :: st, h)
  | .jsr_w n => some (r, L, .long (Int64.ofInt n) :: st, h)
  | .jsr n => some (r, L, .double (UInt64.ofNat n.toNat) :: st, h)
  | .iadd => match st with
    | .int y :: .int x :: st => some (r, L, .int (x + y) :: st, h)
    | _ => none
  | .isub => match st with
    | .int y :: .int x :: st => some (r, L, .int (x - y) :: st, h)
    | _ => none
  | .imul => match st with
    | .int y :: .int x :: st => some (r, L, .int (x * y) :: st, h)
    | _ => none
  | .iand => match st with
    | .int y :: .int x :: st => some (r, L, .int (x &&& y) :: st, h)
    | _ => none
  | .ior => match st with
    | .int y :: .int x :: st => some (r, L, .int (x ||| y) :: st, h)
    | _ => none
  | .ixor => match st with
    | .int y :: .int x :: st => some (r, L, .int (x ^^^ y) :: st, h)
    | _ => none
  | .ishl => match st with
    | .int y :: .int x :: st => some (r, L, .int (x <<< (y &&& 31)) :: st, h)
    | _ => none
  | .ishr => match st with
    | .int y :: .int x :: st => some (r, L, .int (x >>> (y &&& 31)) :: st, h)
    | _ => none
  | .iushr => match st with
    | .int y :: .int x :: st => some (r, L, .int ((x.toUInt32 >>> (y.toUInt32 &&& Int32.toUInt32 31)).toInt32) :: st, h)
    | _ => none
  | .idiv => match st with
    | .int y :: .int x :: st => if y ≠ 0 then some (r, L, .int (x / y) :: st, h) else none
    | _ => none
  | .ladd => match st with
    | .long y :: .long x :: st => some (r, L, .long (x + y) :: st, h)
    | _ => none
  | .lmul => match st with
    | .long y :: .long x :: st => some (r, L, .long (x * y) :: st, h)
    | _ => none
  | .land => match st with
    | .long y :: .long x :: st => some (r, L, .long (x &&& y) :: st, h)
    | _ => none
  | .lor => match st with
    | .long y :: .long x :: st => some (r, L, .long (x ||| y) :: st, h)
    | _ => none
  | .lushr => match st with
    | .int y :: .long x :: st => some (r, L, .long ((x.toUInt64 >>> (y.toInt64.toUInt64 &&& Int64.toUInt64 63)).toInt64) :: st, h)
    | _ => none
  | .lcmp => match st with
    | .long y :: .long x :: st => some (r, L, .int (lg_cmp x y) :: st, h)
    | _ => none
  | .dadd => match st with
    | .double y :: .double x :: st => if (FP.dadd x y) &&& 0x7fffffffffffffff ≤ 0x7ff0000000000000 then some (r, L, .double (FP.dadd x y) :: st, h) else none
    | _ => none
  | .dsub => match st with
    | .double y :: .double x :: st => if (FP.dsub x y) &&& 0x7fffffffffffffff ≤ 0x7ff0000000000000 then some (r, L, .double (FP.dsub x y) :: st, h) else none
    | _ => none
  | .dmul => match st with
    | .double y :: .double x :: st => if (FP.dmul x y) &&& 0x7fffffffffffffff ≤ 0x7ff0000000000000 then some (r, L, .double (FP.dmul x y) :: st, h) else none
    | _ => none
  | .ddiv => match st with
    | .double y :: .double x :: st => if (FP.ddiv x y) &&& 0x7fffffffffffffff ≤ 0x7ff0000000000000 then some (r, L, .double (FP.ddiv x y) :: st, h) else none
    | _ => none
  | .dcmp op => match st with
    | .double y :: .double x :: st => some (r, L, .int (Op.cmpValue (FP.dcmp x y) op) :: st, h)
    | _ => none
  | .fcmp op => match st with
    | .float y :: .float x :: st => some (r, L, .int (Op.cmpValue (FP.fcmp x y) op) :: st, h)
    | _ => none
  | .i2l => match st with
    | .int x :: st => some (r, L, .long (x.toInt64) :: st, h)
    | _ => none
  | .i2d => match st with
    | .int x :: st => some (r, L, .double (FP.i2d x) :: st, h)
    | _ => none
  | .d2i => match st with
    | .double x :: st => some (r, L, .int (FP.d2i x) :: st, h)
    | _ => none
  | .d2f => match st with
    | .double x :: st => if (FP.d2f x) &&& 0x7fffffff ≤ 0x7f800000 then some (r, L, .float (FP.d2f x) :: st, h) else none
    | _ => none
  | .f2d => match st with
    | .float x :: st => if (FP.f2d x) &&& 0x7fffffffffffffff ≤ 0x7ff0000000000000 then some (r, L, .double (FP.f2d x) :: st, h) else none
    | _ => none
  | .f2i => match st with
    | [.float x] => some (r, L, [.int x.toInt32], h)
    | _ => none
  | .dup => match st with
    | v :: st => if v.category = 1 then some (r, L, v :: v :: st, h) else none
    | _ => none
  | .dup2 => match st with
    | v :: w :: st => if v.category = 1 ∧ w.category = 1 then some (r, L, v :: w :: v :: w :: st, h) else none
    | _ => none
  | .pop => match st with
    | v :: st => if v.category = 1 then some (r, L, st, h) else none
    | _ => none
  | .monitorexit => match st with
    | [.ref _] => some (r, L, [], h)
    | _ => none
  | .goto l => some (zB m l, L, st, h)
  | .goto_w l => some (zB m l, L, st, h)
  | .ifCond .eq l => match st with
    | .int x :: st => if x = 0 then some (zB m l, L, st, h) else some (r, L, st, h)
    | _ => none
  | .ifCond .ne l => match st with
    | .int x :: st => if ¬ x = 0 then some (zB m l, L, st, h) else some (r, L, st, h)
    | _ => none
  | .ifCond .lt l => match st with
    | .int x :: st => if x < 0 then some (zB m l, L, st, h) else some (r, L, st, h)
    | _ => none
  | .ifCond .ge l => match st with
    | .int x :: st => if 0 ≤ x then some (zB m l, L, st, h) else some (r, L, st, h)
    | _ => none
  | .ifCond .gt l => match st with
    | .int x :: st => if 0 < x then some (zB m l, L, st, h) else some (r, L, st, h)
    | _ => none
  | .ifCond .le l => match st with
    | .int x :: st => if x ≤ 0 then some (zB m l, L, st, h) else some (r, L, st, h)
    | _ => none
  | .if_icmp .eq l => match st with
    | .int y :: .int x :: st => if x = y then some (zB m l, L, st, h) else some (r, L, st, h)
    | _ => none
  | .if_icmp .ne l => match st with
    | .int y :: .int x :: st => if ¬ x = y then some (zB m l, L, st, h) else some (r, L, st, h)
    | _ => none
  | .if_icmp .lt l => match st with
    | .int y :: .int x :: st => if x < y then some (zB m l, L, st, h) else some (r, L, st, h)
    | _ => none
  | .if_icmp .ge l => match st with
    | .int y :: .int x :: st => if y ≤ x then some (zB m l, L, st, h) else some (r, L, st, h)
    | _ => none
  | .if_icmp .gt l => match st with
    | .int y :: .int x :: st => if y < x then some (zB m l, L, st, h) else some (r, L, st, h)
    | _ => none
  | .if_icmp .le l => match st with
    | .int y :: .int x :: st => if x ≤ y then some (zB m l, L, st, h) else some (r, L, st, h)
    | _ => none
  | .lookupswitch d ps => match st with
    | .int x :: st => if zSrt ps.toList = true then some (zB m (zsw ps.toList d x.toInt), L, st, h) else none
    | _ => none
  | .getfield n => match st with
    | .ref a :: st => if h.1.tg a = n / 64 then some (r, L, h.2 a (n % 64 : Nat) :: st, h) else none
    | _ => none
  | .putfield n => match st with
    | v :: .ref a :: st => if h.1.tg a = n / 64 ∧ zFit (zTy n) v = true then some (r, L, st, (h.1, zput h.2 a (n % 64 : Nat) v)) else none
    | _ => none
  | .getstatic n => some (r, L, .ref n :: st, h)
  | .new t => some (r, L, .ref h.1.sz :: st, zHnew h t 0 (zNf t) (zDf t))
  | .newarray t => match st with
    | .int n :: st => if 0 ≤ n.toInt ∧ n.toInt ≤ 1000000 then some (r, L, .ref h.1.sz :: st, zHnew h (zAt t) n.toInt n.toInt.toNat (fun _ => zAd t)) else none
    | _ => none
  | .anewarray _ => match st with
    | .int n :: st => if 0 ≤ n.toInt ∧ n.toInt ≤ 1000000 then some (r, L, .ref h.1.sz :: st, zHnew h 26 n.toInt n.toInt.toNat (fun _ => .null)) else none
    | _ => none
  | .multianewarray t _ => match st with
    | .int k :: .int n :: st => if 0 ≤ n.toInt ∧ n.toInt ≤ 1000000 ∧ 0 ≤ k.toInt ∧ k.toInt ≤ 1000000 then
        some (r, L, .ref h.1.sz :: st, zHnews (zHnew h (24 + t) n.toInt n.toInt.toNat (fun j => .ref (h.1.sz + 1 + j.toNat))) (20 + t) k.toInt (if t = 0 then .int 0 else .long 0) n.toInt.toNat) else none
    | _ => none
  | .arraylength => match st with
    | .ref a :: st => if 20 ≤ h.1.tg a ∧ (h.1.tg a ≤ 26 ∨ h.1.tg a = 32) ∧ h.1.ln a ≤ 1000000 then some (r, L, .int (Int32.ofInt (h.1.ln a)) :: st, h) else none
    | _ => none
  | .iaload => match st with
    | .int j :: .ref a :: st => if (h.1.tg a = 20 ∨ h.1.tg a = 30 ∨ h.1.tg a = 32) ∧ 0 ≤ j.toInt ∧ j.toInt < h.1.ln a then some (r, L, h.2 a j.toInt :: st, h) else none
    | _ => none
  | .laload => match st with
    | .int j :: .ref a :: st => if (h.1.tg a = 21 ∨ h.1.tg a = 31) ∧ 0 ≤ j.toInt ∧ j.toInt < h.1.ln a then some (r, L, h.2 a j.toInt :: st, h) else none
    | _ => none
  | .daload => match st with
    | .int j :: .ref a :: st => if h.1.tg a = 22 ∧ 0 ≤ j.toInt ∧ j.toInt < h.1.ln a then some (r, L, h.2 a j.toInt :: st, h) else none
    | _ => none
  | .baload => match st with
    | .int j :: .ref a :: st => if h.1.tg a = 23 ∧ 0 ≤ j.toInt ∧ j.toInt < h.1.ln a then some (r, L, h.2 a j.toInt :: st, h) else none
    | _ => none
  | .aaload => match st with
    | .int j :: .ref a :: st => if (h.1.tg a = 24 ∨ h.1.tg a = 25 ∨ h.1.tg a = 26) ∧ 0 ≤ j.toInt ∧ j.toInt < h.1.ln a then some (r, L, h.2 a j.toInt :: st, h) else none
    | _ => none
  | .iastore => match st with
    | .int x :: .int j :: .ref a :: st => if h.1.tg a = 20 ∧ 0 ≤ j.toInt ∧ j.toInt < h.1.ln a then some (r, L, st, (h.1, zput h.2 a j.toInt (.int x))) else none
    | _ => none
  | .lastore => match st with
    | .long x :: .int j :: .ref a :: st => if h.1.tg a = 21 ∧ 0 ≤ j.toInt ∧ j.toInt < h.1.ln a then some (r, L, st, (h.1, zput h.2 a j.toInt (.long x))) else none
    | _ => none
  | .dastore => match st with
    | .double x :: .int j :: .ref a :: st => if h.1.tg a = 22 ∧ 0 ≤ j.toInt ∧ j.toInt < h.1.ln a then some (r, L, st, (h.1, zput h.2 a j.toInt (.double x))) else none
    | _ => none
  | .bastore => match st with
    | .int x :: .int j :: .ref a :: st => if h.1.tg a = 23 ∧ 0 ≤ j.toInt ∧ j.toInt < h.1.ln a ∧ (x = 0 ∨ x = 1) then some (r, L, st, (h.1, zput h.2 a j.toInt (.int x))) else none
    | _ => none
  | .aastore => match st with
    | .ref x :: .int j :: .ref a :: st => if h.1.tg a = 26 ∧ 0 ≤ j.toInt ∧ j.toInt < h.1.ln a ∧ h.1.tg x = 7 then some (r, L, st, (h.1, zput h.2 a j.toInt (.ref x))) else none
    | _ => none
  | .pop2 => match st with
    | [.int n, .int dp, .ref d, .int sp, .ref q] =>
      if h.1.tg q = 20 ∧ h.1.tg d = 20 ∧ 0 ≤ n.toInt ∧ 0 ≤ sp.toInt ∧ 0 ≤ dp.toInt ∧ sp.toInt + n.toInt ≤ h.1.ln q ∧ dp.toInt + n.toInt ≤ h.1.ln d then
        some (r, L, [], (h.1, zrow h.2 d (fun j => if dp.toInt ≤ j ∧ j < dp.toInt + n.toInt then h.2 q (sp.toInt + (j - dp.toInt)) else h.2 d j))) else none
    | _ => none
  | _ => none

/-- behind a call: it goes on with the answer, or at the handler, or is left -/
def zK (al : Bool) (m : Nat) (Q : zO → zH → Prop) (X : List Instr → List Value → List Value → zH → Prop) (r : List Instr) (L st : List Value) (o : zO) (h : zH) : Prop := match o with
  | .inl none => X r L st h
  | .inl (some v) => X r L (v :: st) h
  | .inr k => al = true ∧ match zE m k with
    | none => zHh m = [] ∧ Q (.inr k) h
    | some l => match zB m l with
      | .astore j :: r2 => j < L.length ∧ zPrev L j = true ∧ X r2 (L.set j zJ) [] h
      | _ => False
/-- methods that are chosen by the receiver: 0 ask, 1 noteFailure, 2 noteMissing -/
def zDisp (k t : Nat) : Option Nat := (zDispT.find? (fun q => q.1 == k && q.2.1 == t)).map (fun q => q.2.2)
def zDn (k : Nat) : Nat := [6, 5, 1].getD k 0
def zC1 (as : List Value) : Bool := as.all (fun v => v.category == 1)
def zF (C : Nat → List Value → zH → (zO → zH → Prop) → Prop) (m : Nat) (Q : zO → zH → Prop) (X : List Instr → List Value → List Value → zH → Prop) (c : List Instr) (L st : List Value) (h : zH) : Prop := match c with
  | [] => False
  | i :: r => match i with
    | .invokeinterface y n => (n ≤ st.length ∧ zC1 (st.take n) = true) ∧ st.length ≤ n + 4 ∧ C y (st.take n).reverse h (zK (zAl m y) m Q X r L (st.drop n))
    | .invokevirtual k => (zDn k ≤ st.length ∧ zC1 (st.take (zDn k)) = true) ∧ st.length ≤ zDn k + 4 ∧ ∃ a y, (st.take (zDn k)).reverse.head? = some (.ref a) ∧ zDisp k (h.1.tg a) = some y ∧ C y (st.take (zDn k)).reverse h (zK false m Q X r L (st.drop (zDn k)))
    | .return_ => zRk m = 0 ∧ st = [] ∧ Q (.inl none) h
    | .ireturn => ∃ x, st = [.int x] ∧ (zRk m = 1 ∨ (zRk m = 2 ∧ (x = 0 ∨ x = 1))) ∧ Q (.inl (some (.int x))) h
    | .lreturn => zRk m = 3 ∧ ∃ x, st = [.long x] ∧ Q (.inl (some (.long x))) h
    | .dreturn => zRk m = 4 ∧ ∃ x, st = [.double x] ∧ Q (.inl (some (.double x))) h
    | i => match zstep m i r L st h with
      | some q => X q.1 q.2.1 q.2.2.1 q.2.2.2
      | none => False
def zMono (C : Nat → List Value → zH → (zO → zH → Prop) → Prop) : Prop := ∀ (y : Nat) (as : List Value) (h : zH) (K K' : zO → zH → Prop), (∀ o h', K o h' → K' o h') → C y as h K → C y as h K'
def zwp (C : Nat → List Value → zH → (zO → zH → Prop) → Prop) (m : Nat) (Q : zO → zH → Prop) (c : List Instr) (L st : List Value) (h : zH) : Prop :=
  ∀ X : List Instr → List Value → List Value → zH → Prop, (∀ c L st h, zF C m Q X c L st h → X c L st h) → X c L st h
theorem zK_mono {al : Bool} {m : Nat} {Q Q' : zO → zH → Prop} {X Y : List Instr → List Value → List Value → zH → Prop} {r : List Instr} {L st : List Value} (hQ : ∀ o h, Q o h → Q' o h) (hX : ∀ c L st h, X c L st h → Y c L st h) (o : zO) (h : zH) (hk : zK al m Q X r L st o h) : zK al m Q' Y r L st o h := by
  match o with
  | .inl none => exact hX _ _ _ _ hk
  | .inl (some v) => exact hX _ _ _ _ hk
  | .inr k =>
    unfold zK at hk ⊢
    dsimp only at hk ⊢
    refine ⟨hk.1, ?_⟩
    replace hk := hk.2
    split at hk
    · exact ⟨hk.1, hQ _ _ hk.2⟩
    · split at hk
      · exact ⟨hk.1, hk.2.1, hX _ _ _ _ hk.2.2⟩
      · exact hk
theorem zF_mono {C : Nat → List Value → zH → (zO → zH → Prop) → Prop} (hC : zMono C) {m : Nat} {Q Q' : zO → zH → Prop} {X Y : List Instr → List Value → List Value → zH → Prop} (hQ : ∀ o h, Q o h → Q' o h) (hX : ∀ c L st h, X c L st h → Y c L st h) (c : List Instr) (L st : List Value) (h : zH) (hf : zF C m Q X c L st h) : zF C m Q' Y c L st h := by
  unfold zF at hf ⊢
  split at hf
  · exact hf
  · split at hf
    · exact ⟨hf.1, hf.2.1, hC _ _ _ _ _ (zK_mono hQ hX) hf.2.2⟩
    · obtain ⟨h1, h2, a, y, h3, h4, h5⟩ := hf
      exact ⟨h1, h2, a, y, h3, h4, hC _ _ _ _ _ (zK_mono hQ hX) h5⟩
    · exact ⟨hf.1, hf.2.1, hQ _ _ hf.2.2⟩
    · obtain ⟨x, h1, h2, h3⟩ := hf
      exact ⟨x, h1, h2, hQ _ _ h3⟩
    · obtain ⟨h1, x, h2, h3⟩ := hf
      exact ⟨h1, x, h2, hQ _ _ h3⟩
    · obtain ⟨h1, x, h2, h3⟩ := hf
      exact ⟨h1, x, h2, hQ _ _ h3⟩
    · split at hf
      · exact hX _ _ _ _ hf
      · exact hf
theorem zwp_in {C : Nat → List Value → zH → (zO → zH → Prop) → Prop} (hC : zMono C) {m : Nat} {Q : zO → zH → Prop} {c : List Instr} {L st : List Value} {h : zH} (hf : zF C m Q (zwp C m Q) c L st h) : zwp C m Q c L st h := by
  intro X hX
  exact hX _ _ _ _ (zF_mono hC (fun _ _ q => q) (fun c L st h q => q X hX) c L st h hf)
theorem zwp_out {C : Nat → List Value → zH → (zO → zH → Prop) → Prop} (hC : zMono C) {m : Nat} {Q : zO → zH → Prop} {c : List Instr} {L st : List Value} {h : zH} (hw : zwp C m Q c L st h) : zF C m Q (zwp C m Q) c L st h :=
  hw (zF C m Q (zwp C m Q)) (fun c L st h hf => zF_mono hC (fun _ _ q => q) (fun _ _ _ _ q => zwp_in hC q) c L st h hf)
theorem zwp_eq {C : Nat → List Value → zH → (zO → zH → Prop) → Prop} (hC : zMono C) {m : Nat} {Q : zO → zH → Prop} {c : List Instr} {L st : List Value} {h : zH} : zwp C m Q c L st h = zF C m Q (zwp C m Q) c L st h := propext ⟨zwp_out hC, zwp_in hC⟩
theorem zwp_mono {C : Nat → List Value → zH → (zO → zH → Prop) → Prop} (hC : zMono C) {m : Nat} {Q Q' : zO → zH → Prop} (hQ : ∀ o h, Q o h → Q' o h) {c : List Instr} {L st : List Value} {h : zH} (hw : zwp C m Q c L st h) : zwp C m Q' c L st h :=
  hw (zwp C m Q') (fun c L st h hf => zwp_in hC (zF_mono hC hQ (fun _ _ _ _ q => q) c L st h hf))
/-- refuse(why) -/
def zRefuse (as : List Value) (h : zH) (Q : zO → zH → Prop) : Prop := match as with
  | [.int x] => if x = 1 then Q (.inr 1) (zHnew h 11 0 6 (fun _ => .null)) else if x = 2 then Q (.inr 2) (zHnew h 12 0 6 (fun _ => .null)) else if x = 3 then Q (.inr 3) (zHnew h 13 0 6 (fun _ => .null)) else Q (.inl none) h
  | _ => False
abbrev zLaw : Nat := 299
def zOk (m : Nat) : Bool := decide (m < 307) && !(m == zLaw)
def zRc0 (m : Nat) (as : List Value) (s : zS) : Bool := match as with
  | .ref a :: _ => if zRcT.getD m 99 = 99 then true else if zRcT.getD m 99 = 6 then s.tg a == 0 || s.tg a == 5 else s.tg a == zRcT.getD m 99
  | _ => zRcT.getD m 99 == 99 && zKd m != 1
def zRc (m : Nat) (as : List Value) (s : zS) : Bool := zOk m && zRc0 m as s
theorem zRc_c {m : Nat} {as : List Value} {s : zS} (h0 : zOk m = true) (h : zRc0 m as s = true) : zRc m as s = true := by unfold zRc; rw [h0, h]; rfl
def zcall : Nat → Nat → List Value → zH → (zO → zH → Prop) → Prop
  | 0 => fun _ _ _ _ => False
  | d + 1 => fun m as h Q => if m = zRef then 5 ≤ d ∧ zRefuse as h Q else if as.length = zNa m ∧ zRc m as h.1 = true then zwp (zcall d) m Q (zB m 0) (as ++ List.replicate (zMl m - as.length) zJ) [] h else False
theorem zcall_mono : ∀ d, zMono (zcall d)
  | 0 => fun _ _ _ _ _ _ h => h.elim
  | d + 1 => by
    intro y as h K K' hK hc
    unfold zcall at hc ⊢
    split at hc
    · rename_i e
      rw [if_pos e]
      refine ⟨hc.1, ?_⟩
      replace hc := hc.2
      unfold zRefuse at hc ⊢
      split at hc
      · split at hc
        · rename_i e1
          rw [if_pos e1]
          exact hK _ _ hc
        · rename_i e1
          rw [if_neg e1]
          split at hc
          · rename_i e2
            rw [if_pos e2]
            exact hK _ _ hc
          · rename_i e2
            rw [if_neg e2]
            split at hc
            · rename_i e3
              rw [if_pos e3]
              exact hK _ _ hc
            · rename_i e3
              rw [if_neg e3]
              exact hK _ _ hc
      · exact hc
    · rename_i e
      rw [if_neg e]
      split at hc
      · rename_i e1
        rw [if_pos e1]
        exact zwp_mono (zcall_mono d) hK hc
      · exact hc.elim
theorem zw {d m : Nat} {Q : zO → zH → Prop} {c : List Instr} {L st : List Value} {h : zH} : zwp (zcall d) m Q c L st h = zF (zcall d) m Q (zwp (zcall d) m Q) c L st h := zwp_eq (zcall_mono d)
theorem zcall_in {d m : Nat} {as : List Value} {h : zH} {Q : zO → zH → Prop} (h1 : m ≠ zRef) (h2 : as.length = zNa m) (h3 : zRc m as h.1 = true) : zcall (d + 1) m as h Q = zwp (zcall d) m Q (zB m 0) (as ++ List.replicate (zMl m - as.length) zJ) [] h := by
  show (if m = zRef then 5 ≤ d ∧ zRefuse as h Q else if as.length = zNa m ∧ zRc m as h.1 = true then zwp (zcall d) m Q (zB m 0) (as ++ List.replicate (zMl m - as.length) zJ) [] h else False) = _
  rw [if_neg h1, if_pos ⟨h2, h3⟩]
theorem zRc_t {m a t : Nat} {as : List Value} {s : zS} (h0 : zOk m = true) (h : zRcT.getD m 99 = t) (ht : s.tg a = t) (h6 : t ≠ 6) (h9 : t ≠ 99) : zRc m (.ref a :: as) s = true := by
  refine zRc_c h0 ?_
  unfold zRc0
  dsimp only
  rw [h, if_neg h9, if_neg h6, ht]
  exact beq_self_eq_true t
theorem zRc_9 {m : Nat} {as : List Value} {s : zS} (h0 : zOk m = true) (h : zRcT.getD m 99 = 99) (h1 : zKd m ≠ 1) : zRc m as s = true := by
  refine zRc_c h0 ?_
  unfold zRc0
  split
  · rw [if_pos h]
  · rw [h]
    simpa using h1
theorem zRc_8 {m a : Nat} {as : List Value} {s : zS} (h0 : zOk m = true) (h : zRcT.getD m 99 = 99) : zRc m (.ref a :: as) s = true := by
  refine zRc_c h0 ?_
  unfold zRc0
  dsimp only
  rw [if_pos h]
theorem zRc_6 {m a : Nat} {as : List Value} {s : zS} (h0 : zOk m = true) (h : zRcT.getD m 99 = 6) (ht : s.tg a = 0 ∨ s.tg a = 5) : zRc m (.ref a :: as) s = true := by
  refine zRc_c h0 ?_
  unfold zRc0
  dsimp only
  rw [h, if_neg (by decide), if_pos rfl]
  rcases ht with ht | ht <;> rw [ht] <;> rfl
/-- refuse(0) goes on; 1, 2, 3 throw -/
theorem zc_ref {d : Nat} {z : Int} {s : zS} {V : zV} {Q : zO → zH → Prop} (hz : 0 ≤ z) (hz2 : z ≤ 3) : zcall (d + 6) zRef [zi z] (s, V) Q = if z = 0 then Q (.inl none) (s, V) else Q (.inr z.toNat) (s.new (10 + z.toNat) 0 6, zrow V s.sz (fun _ => .null)) := by
  unfold zcall
  rw [if_pos rfl]
  rcases (by omega : z = 0 ∨ z = 1 ∨ z = 2 ∨ z = 3) with rfl | rfl | rfl | rfl <;> (refine propext ⟨fun q => q.2, fun q => ⟨by omega, q⟩⟩)
