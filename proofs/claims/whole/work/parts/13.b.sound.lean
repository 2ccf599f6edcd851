/-! SOUNDNESS, 2: the answer of a call is one; instructions one by one; written by wip/whole/gen_sound.py -/
def zRes (C : Nat → List Value → zH → (zO → zH → Prop) → Prop) : Prop := ∀ (y : Nat) (as : List Value) (h : zH) (K : zO → zH → Prop), C y as h K → ∃ o h', C y as h (fun o2 h2 => o2 = o ∧ h2 = h') ∧ K o h'
theorem zK_res {al : Bool} {m : Nat} {Q : zO → zH → Prop} {X : List Instr → List Value → List Value → zH → Prop} {Y : zO → zH → List Instr → List Value → List Value → zH → Prop} (hX : ∀ c L st h, X c L st h → ∃ o h', Y o h' c L st h ∧ Q o h') {r : List Instr} {L st : List Value} {o1 : zO} {h1 : zH} (hk : zK al m Q X r L st o1 h1) : ∃ o h', zK al m (fun o2 h2 => o2 = o ∧ h2 = h') (Y o h') r L st o1 h1 ∧ Q o h' := by
  match o1 with
  | .inl none => exact hX _ _ _ _ hk
  | .inl (some v) => exact hX _ _ _ _ hk
  | .inr k =>
    unfold zK at hk
    dsimp only at hk
    obtain ⟨ha, hk⟩ := hk
    split at hk
    · rename_i e
      refine ⟨.inr k, h1, ?_, hk.2⟩
      unfold zK
      dsimp only
      rw [e]
      exact ⟨ha, hk.1, rfl, rfl⟩
    · rename_i lb e
      split at hk
      · rename_i j r2 e2
        obtain ⟨o, h', a, b⟩ := hX _ _ _ _ hk.2.2
        refine ⟨o, h', ?_, b⟩
        unfold zK
        dsimp only
        rw [e]
        dsimp only
        rw [e2]
        exact ⟨ha, hk.1, hk.2.1, a⟩
      · exact hk.elim
theorem zwp_res {C : Nat → List Value → zH → (zO → zH → Prop) → Prop} (hC : zMono C) (hS : zRes C) {m : Nat} {Q : zO → zH → Prop} {c : List Instr} {L st : List Value} {h : zH} (hw : zwp C m Q c L st h) : ∃ o h', zwp C m (fun o2 h2 => o2 = o ∧ h2 = h') c L st h ∧ Q o h' := by
  refine hw (fun c L st h => ∃ o h', zwp C m (fun o2 h2 => o2 = o ∧ h2 = h') c L st h ∧ Q o h') ?_
  intro c L st h hf
  unfold zF at hf
  split at hf
  · exact hf.elim
  · rename_i i r
    split at hf
    · obtain ⟨a1, a2, a3⟩ := hf
      obtain ⟨o1, h1, b1, b2⟩ := hS _ _ _ _ a3
      obtain ⟨o, h', c1, c2⟩ := zK_res (Y := fun o h' => zwp C m (fun o2 h2 => o2 = o ∧ h2 = h')) (fun _ _ _ _ q => q) b2
      refine ⟨o, h', zwp_in hC ?_, c2⟩
      exact ⟨a1, a2, hC _ _ _ _ _ (fun o2 h2 q => by rw [q.1, q.2]; exact c1) b1⟩
    · obtain ⟨a1, a2, a, y, a3, a4, a5⟩ := hf
      obtain ⟨o1, h1, b1, b2⟩ := hS _ _ _ _ a5
      obtain ⟨o, h', c1, c2⟩ := zK_res (Y := fun o h' => zwp C m (fun o2 h2 => o2 = o ∧ h2 = h')) (fun _ _ _ _ q => q) b2
      refine ⟨o, h', zwp_in hC ?_, c2⟩
      exact ⟨a1, a2, a, y, a3, a4, hC _ _ _ _ _ (fun o2 h2 q => by rw [q.1, q.2]; exact c1) b1⟩
    · exact ⟨_, h, zwp_in hC ⟨hf.1, hf.2.1, rfl, rfl⟩, hf.2.2⟩
    · obtain ⟨x, h1, h2, h3⟩ := hf
      exact ⟨_, h, zwp_in hC ⟨x, h1, h2, rfl, rfl⟩, h3⟩
    · obtain ⟨h1, x, h2, h3⟩ := hf
      exact ⟨_, h, zwp_in hC ⟨h1, x, h2, rfl, rfl⟩, h3⟩
    · obtain ⟨h1, x, h2, h3⟩ := hf
      exact ⟨_, h, zwp_in hC ⟨h1, x, h2, rfl, rfl⟩, h3⟩
    · rename_i n1 n2 n3 n4 n5 n6
      split at hf
      · rename_i q e
        obtain ⟨o, h', a, b⟩ := hf
        refine ⟨o, h', zwp_in hC ?_, b⟩
        unfold zF
        dsimp only
        split
        · exact absurd rfl (n1 _ _)
        · exact absurd rfl (n2 _)
        · exact absurd rfl n3
        · exact absurd rfl n4
        · exact absurd rfl n5
        · exact absurd rfl n6
        · rw [e]
          exact a
      · exact hf.elim
theorem zcall_res : ∀ d, zRes (zcall d)
  | 0 => fun _ _ _ _ h => h.elim
  | d + 1 => by
    intro y as h K hc
    have hc : (if y = zRef then 5 ≤ d ∧ zRefuse as h K else if as.length = zNa y ∧ zRc y as h.1 = true then zwp (zcall d) y K (zB y 0) (as ++ List.replicate (zMl y - as.length) zJ) [] h else False) := hc
    show ∃ o h', (if y = zRef then 5 ≤ d ∧ zRefuse as h (fun o2 h2 => o2 = o ∧ h2 = h') else if as.length = zNa y ∧ zRc y as h.1 = true then zwp (zcall d) y (fun o2 h2 => o2 = o ∧ h2 = h') (zB y 0) (as ++ List.replicate (zMl y - as.length) zJ) [] h else False) ∧ K o h'
    by_cases e : y = zRef
    · rw [if_pos e] at hc
      obtain ⟨hd, hc⟩ := hc
      unfold zRefuse at hc
      split at hc
      · rename_i x _
        by_cases e1 : x = 1
        · rw [if_pos e1] at hc
          exact ⟨_, _, by rw [if_pos e]; exact ⟨hd, by unfold zRefuse; dsimp only; rw [if_pos e1]; exact ⟨rfl, rfl⟩⟩, hc⟩
        · rw [if_neg e1] at hc
          by_cases e2 : x = 2
          · rw [if_pos e2] at hc
            exact ⟨_, _, by rw [if_pos e]; exact ⟨hd, by unfold zRefuse; dsimp only; rw [if_neg e1, if_pos e2]; exact ⟨rfl, rfl⟩⟩, hc⟩
          · rw [if_neg e2] at hc
            by_cases e3 : x = 3
            · rw [if_pos e3] at hc
              exact ⟨_, _, by rw [if_pos e]; exact ⟨hd, by unfold zRefuse; dsimp only; rw [if_neg e1, if_neg e2, if_pos e3]; exact ⟨rfl, rfl⟩⟩, hc⟩
            · rw [if_neg e3] at hc
              exact ⟨_, _, by rw [if_pos e]; exact ⟨hd, by unfold zRefuse; dsimp only; rw [if_neg e1, if_neg e2, if_neg e3]; exact ⟨rfl, rfl⟩⟩, hc⟩
      · exact hc.elim
    · rw [if_neg e] at hc
      by_cases e1 : as.length = zNa y ∧ zRc y as h.1 = true
      · rw [if_pos e1] at hc
        obtain ⟨o, h', a, b⟩ := zwp_res (zcall_mono d) (zcall_res d) hc
        exact ⟨o, h', by rw [if_neg e, if_pos e1]; exact a, b⟩
      · rw [if_neg e1] at hc
        exact hc.elim
/-! the check, read -/
theorem zChk_c {m pc : Nat} {i : Instr} {r : List Instr} (hi : ∀ l, i ≠ .goto_w l) (h : zChk m pc (i :: r) = true) : ∃ q ∈ zAlt m pc i, decode (zCd m) pc = .ok q ∧ zChk m (pc + q.2) r = true := by
  unfold zChk at h
  split at h
  · rename_i e
    cases e
  · rename_i l r2 e
    cases e
    exact absurd rfl (hi _)
  · rename_i i2 r2 n e
    cases e
    rw [Bool.and_eq_true] at h
    obtain ⟨q, hq, h2⟩ := List.any_eq_true.mp h.2
    rw [Bool.and_eq_true, decide_eq_true_eq] at h2
    exact ⟨q, hq, h2.1, h2.2⟩
theorem zChk_cov {m pc : Nat} {i : Instr} {r : List Instr} (hi : ∀ l, i ≠ .goto_w l) (h : zChk m pc (i :: r) = true) : zCovI m pc i = true := by
  unfold zChk at h
  split at h
  · rename_i e
    cases e
  · rename_i l r2 e
    cases e
    exact absurd rfl (hi _)
  · rename_i i2 r2 n e
    cases e
    rw [Bool.and_eq_true] at h
    exact h.1
theorem zChk_1 {m pc n : Nat} {i j : Instr} {r : List Instr} (hi : ∀ l, i ≠ .goto_w l) (ha : zAlt m pc i = [(j, n)]) (h : zChk m pc (i :: r) = true) : decode (zCd m) pc = .ok (j, n) ∧ zChk m (pc + n) r = true := by
  obtain ⟨q, hq, h1, h2⟩ := zChk_c hi h
  rw [ha] at hq
  have e := List.mem_singleton.mp hq
  subst e
  exact ⟨h1, h2⟩
theorem zPk_m {α : Type} {T : List α} {p : α → Bool} {f : α → Instr × Nat} {q : Instr × Nat} (h : q ∈ zPk T p f) : ∃ a ∈ T, p a = true ∧ f a = q := by
  obtain ⟨a, ha, e⟩ := List.mem_map.mp h
  exact ⟨a, (List.mem_filter.mp ha).1, (List.mem_filter.mp ha).2, e⟩
theorem zn4_m {f : Fin 4 → Instr} {k : Nat} {q : Instr × Nat} (h : q ∈ zn4 f k) : ∃ n : Fin 4, (n : Nat) = k ∧ q = (f n, 1) := by
  unfold zn4 at h
  split at h
  · rename_i hk
    exact ⟨⟨k, hk⟩, rfl, List.mem_singleton.mp h⟩
  · cases h
theorem zif_m {c : Prop} {hc : Decidable c} {a : List (Instr × Nat)} {q : Instr × Nat} (h : q ∈ (if c then a else [])) : c ∧ q ∈ a := by
  split at h
  · exact ⟨‹_›, h⟩
  · cases h
/-- what holds in a method's body all the way -/
def zCtx (G : zG) (m0 : Nat) (p : Program) (s : State) (mm : MethodId) (args : Array Value) (meth : Method) (cd : Code) : Prop :=
  p.tables.exec = Jvm.exec ∧ cd.code = zCd m0 ∧ meth.sig.returnType = zRt m0 ∧ cd.maxLocals = zMl m0 ∧ s.vm.findClass (zCn (zOw m0)) = some mm.cls ∧ (∀ w ∈ zGood, w.before args s = true) ∧ meth.locks = false ∧ (zKd m0 = 1 → meth.name = "<init>") ∧ zKn G s ∧ cd.exceptionTable.toList = tableOf (zHh m0)
section
variable {G : zG} {m0 : Nat} {p : Program} {l : Launch} {e : Env} {R : Room} {s : State} {mm : MethodId} {args : Array Value} {below : List Frame} {meth : Method} {cd : Code} {FQ : State → Prop} {h0 : zH} {r : List Instr} {L st : List Value} {h : zH}
theorem zCtx.x (C : zCtx G m0 p s mm args meth cd) : p.tables.exec = Jvm.exec := C.1
theorem zCtx.b (C : zCtx G m0 p s mm args meth cd) : cd.code = zCd m0 := C.2.1
theorem zCtx.rt (C : zCtx G m0 p s mm args meth cd) : meth.sig.returnType = zRt m0 := C.2.2.1
theorem zCtx.ml (C : zCtx G m0 p s mm args meth cd) : cd.maxLocals = zMl m0 := C.2.2.2.1
theorem zCtx.own (C : zCtx G m0 p s mm args meth cd) : s.vm.findClass (zCn (zOw m0)) = some mm.cls := C.2.2.2.2.1
theorem zCtx.ts (C : zCtx G m0 p s mm args meth cd) : ∀ w ∈ zGood, w.before args s = true := C.2.2.2.2.2.1
theorem zCtx.lk (C : zCtx G m0 p s mm args meth cd) : meth.locks = false := C.2.2.2.2.2.2.1
theorem zCtx.ini (C : zCtx G m0 p s mm args meth cd) : zKd m0 = 1 → meth.name = "<init>" := C.2.2.2.2.2.2.2.1
theorem zCtx.kn (C : zCtx G m0 p s mm args meth cd) : zKn G s := C.2.2.2.2.2.2.2.2.1
theorem zCtx.tb (C : zCtx G m0 p s mm args meth cd) : cd.exceptionTable.toList = tableOf (zHh m0) := C.2.2.2.2.2.2.2.2.2
/-- from this point of the body on, the machine comes to FQ -/
def zXW (G : zG) (m0 : Nat) (p : Program) (l : Launch) (e : Env) (R : Room) (s : State) (mm : MethodId) (args : Array Value) (below : List Frame) (meth : Method) (cd : Code) (FQ : State → Prop) (h0 : zH) (c : List Instr) (L st : List Value) (h : zH) : Prop :=
  ∀ pc, zChk m0 pc c = true → ∀ (H : Heap) (locs : List Loc) (ls : Array Slot), zRel G h H → zLR G ls (zMl m0) L → (∀ q ∈ locs, G.base ≤ q.base) → h0.1.sz ≤ h.1.sz → h0.1.sl ≤ h.1.sl → W p l e R s mm args below meth cd H locs (h.1.sz - h0.1.sz) (h.1.sl - h0.1.sl) FQ (F0 mm pc ls (st.map (zCv G)))
theorem zs_iadd (C : zCtx G m0 p s mm args meth cd) {x y : Int32}  (k : zXW G m0 p l e R s mm args below meth cd FQ h0 r L (.int (x + y) :: st) h) : zXW G m0 p l e R s mm args below meth cd FQ h0 (.iadd :: r) L (.int y :: .int x :: st) h := by
  intro pc hc H locs ls hR hL hlo q1 q2
  obtain ⟨hd, hc⟩ := zChk_1 (fun _ h => by cases h) rfl hc
  exact lv_iadd C.x C.b hd (k _ hc H locs ls hR hL hlo q1 q2)
theorem zs_isub (C : zCtx G m0 p s mm args meth cd) {x y : Int32}  (k : zXW G m0 p l e R s mm args below meth cd FQ h0 r L (.int (x - y) :: st) h) : zXW G m0 p l e R s mm args below meth cd FQ h0 (.isub :: r) L (.int y :: .int x :: st) h := by
  intro pc hc H locs ls hR hL hlo q1 q2
  obtain ⟨hd, hc⟩ := zChk_1 (fun _ h => by cases h) rfl hc
  exact lv_isub C.x C.b hd (k _ hc H locs ls hR hL hlo q1 q2)
theorem zs_imul (C : zCtx G m0 p s mm args meth cd) {x y : Int32}  (k : zXW G m0 p l e R s mm args below meth cd FQ h0 r L (.int (x * y) :: st) h) : zXW G m0 p l e R s mm args below meth cd FQ h0 (.imul :: r) L (.int y :: .int x :: st) h := by
  intro pc hc H locs ls hR hL hlo q1 q2
  obtain ⟨hd, hc⟩ := zChk_1 (fun _ h => by cases h) rfl hc
  exact lv_imul C.x C.b hd (k _ hc H locs ls hR hL hlo q1 q2)
theorem zs_iand (C : zCtx G m0 p s mm args meth cd) {x y : Int32}  (k : zXW G m0 p l e R s mm args below meth cd FQ h0 r L (.int (x &&& y) :: st) h) : zXW G m0 p l e R s mm args below meth cd FQ h0 (.iand :: r) L (.int y :: .int x :: st) h := by
  intro pc hc H locs ls hR hL hlo q1 q2
  obtain ⟨hd, hc⟩ := zChk_1 (fun _ h => by cases h) rfl hc
  exact lv_iand C.x C.b hd (k _ hc H locs ls hR hL hlo q1 q2)
theorem zs_ior (C : zCtx G m0 p s mm args meth cd) {x y : Int32}  (k : zXW G m0 p l e R s mm args below meth cd FQ h0 r L (.int (x ||| y) :: st) h) : zXW G m0 p l e R s mm args below meth cd FQ h0 (.ior :: r) L (.int y :: .int x :: st) h := by
  intro pc hc H locs ls hR hL hlo q1 q2
  obtain ⟨hd, hc⟩ := zChk_1 (fun _ h => by cases h) rfl hc
  exact lv_ior C.x C.b hd (k _ hc H locs ls hR hL hlo q1 q2)
theorem zs_ixor (C : zCtx G m0 p s mm args meth cd) {x y : Int32}  (k : zXW G m0 p l e R s mm args below meth cd FQ h0 r L (.int (x ^^^ y) :: st) h) : zXW G m0 p l e R s mm args below meth cd FQ h0 (.ixor :: r) L (.int y :: .int x :: st) h := by
  intro pc hc H locs ls hR hL hlo q1 q2
  obtain ⟨hd, hc⟩ := zChk_1 (fun _ h => by cases h) rfl hc
  exact lv_ixor C.x C.b hd (k _ hc H locs ls hR hL hlo q1 q2)
theorem zs_ishl (C : zCtx G m0 p s mm args meth cd) {x y : Int32}  (k : zXW G m0 p l e R s mm args below meth cd FQ h0 r L (.int (x <<< (y &&& 31)) :: st) h) : zXW G m0 p l e R s mm args below meth cd FQ h0 (.ishl :: r) L (.int y :: .int x :: st) h := by
  intro pc hc H locs ls hR hL hlo q1 q2
  obtain ⟨hd, hc⟩ := zChk_1 (fun _ h => by cases h) rfl hc
  exact lv_ishl C.x C.b hd (k _ hc H locs ls hR hL hlo q1 q2)
theorem zs_ishr (C : zCtx G m0 p s mm args meth cd) {x y : Int32}  (k : zXW G m0 p l e R s mm args below meth cd FQ h0 r L (.int (x >>> (y &&& 31)) :: st) h) : zXW G m0 p l e R s mm args below meth cd FQ h0 (.ishr :: r) L (.int y :: .int x :: st) h := by
  intro pc hc H locs ls hR hL hlo q1 q2
  obtain ⟨hd, hc⟩ := zChk_1 (fun _ h => by cases h) rfl hc
  exact lv_ishr C.x C.b hd (k _ hc H locs ls hR hL hlo q1 q2)
theorem zs_iushr (C : zCtx G m0 p s mm args meth cd) {x y : Int32}  (k : zXW G m0 p l e R s mm args below meth cd FQ h0 r L (.int ((x.toUInt32 >>> (y.toUInt32 &&& Int32.toUInt32 31)).toInt32) :: st) h) : zXW G m0 p l e R s mm args below meth cd FQ h0 (.iushr :: r) L (.int y :: .int x :: st) h := by
  intro pc hc H locs ls hR hL hlo q1 q2
  obtain ⟨hd, hc⟩ := zChk_1 (fun _ h => by cases h) rfl hc
  exact lv_iushr C.x C.b hd rfl (k _ hc H locs ls hR hL hlo q1 q2)
theorem zs_idiv (C : zCtx G m0 p s mm args meth cd) {x y : Int32} (hy : y ≠ 0) (k : zXW G m0 p l e R s mm args below meth cd FQ h0 r L (.int (x / y) :: st) h) : zXW G m0 p l e R s mm args below meth cd FQ h0 (.idiv :: r) L (.int y :: .int x :: st) h := by
  intro pc hc H locs ls hR hL hlo q1 q2
  obtain ⟨hd, hc⟩ := zChk_1 (fun _ h => by cases h) rfl hc
  exact lv_idiv C.x C.b hd hy (k _ hc H locs ls hR hL hlo q1 q2)
theorem zs_ladd (C : zCtx G m0 p s mm args meth cd) {x y : Int64}  (k : zXW G m0 p l e R s mm args below meth cd FQ h0 r L (.long (x + y) :: st) h) : zXW G m0 p l e R s mm args below meth cd FQ h0 (.ladd :: r) L (.long y :: .long x :: st) h := by
  intro pc hc H locs ls hR hL hlo q1 q2
  obtain ⟨hd, hc⟩ := zChk_1 (fun _ h => by cases h) rfl hc
  exact lv_ladd C.x C.b hd (k _ hc H locs ls hR hL hlo q1 q2)
theorem zs_lmul (C : zCtx G m0 p s mm args meth cd) {x y : Int64}  (k : zXW G m0 p l e R s mm args below meth cd FQ h0 r L (.long (x * y) :: st) h) : zXW G m0 p l e R s mm args below meth cd FQ h0 (.lmul :: r) L (.long y :: .long x :: st) h := by
  intro pc hc H locs ls hR hL hlo q1 q2
  obtain ⟨hd, hc⟩ := zChk_1 (fun _ h => by cases h) rfl hc
  exact lv_lmul C.x C.b hd (k _ hc H locs ls hR hL hlo q1 q2)
theorem zs_land (C : zCtx G m0 p s mm args meth cd) {x y : Int64}  (k : zXW G m0 p l e R s mm args below meth cd FQ h0 r L (.long (x &&& y) :: st) h) : zXW G m0 p l e R s mm args below meth cd FQ h0 (.land :: r) L (.long y :: .long x :: st) h := by
  intro pc hc H locs ls hR hL hlo q1 q2
  obtain ⟨hd, hc⟩ := zChk_1 (fun _ h => by cases h) rfl hc
  exact lv_land C.x C.b hd (k _ hc H locs ls hR hL hlo q1 q2)
theorem zs_lor (C : zCtx G m0 p s mm args meth cd) {x y : Int64}  (k : zXW G m0 p l e R s mm args below meth cd FQ h0 r L (.long (x ||| y) :: st) h) : zXW G m0 p l e R s mm args below meth cd FQ h0 (.lor :: r) L (.long y :: .long x :: st) h := by
  intro pc hc H locs ls hR hL hlo q1 q2
  obtain ⟨hd, hc⟩ := zChk_1 (fun _ h => by cases h) rfl hc
  exact lv_lor C.x C.b hd (k _ hc H locs ls hR hL hlo q1 q2)
theorem zs_lushr (C : zCtx G m0 p s mm args meth cd) {x : Int64} {y : Int32}  (k : zXW G m0 p l e R s mm args below meth cd FQ h0 r L (.long ((x.toUInt64 >>> (y.toInt64.toUInt64 &&& Int64.toUInt64 63)).toInt64) :: st) h) : zXW G m0 p l e R s mm args below meth cd FQ h0 (.lushr :: r) L (.int y :: .long x :: st) h := by
  intro pc hc H locs ls hR hL hlo q1 q2
  obtain ⟨hd, hc⟩ := zChk_1 (fun _ h => by cases h) rfl hc
  exact lv_lushr C.x C.b hd rfl (k _ hc H locs ls hR hL hlo q1 q2)
theorem zs_lcmp (C : zCtx G m0 p s mm args meth cd) {x y : Int64}  (k : zXW G m0 p l e R s mm args below meth cd FQ h0 r L (.int (lg_cmp x y) :: st) h) : zXW G m0 p l e R s mm args below meth cd FQ h0 (.lcmp :: r) L (.long y :: .long x :: st) h := by
  intro pc hc H locs ls hR hL hlo q1 q2
  obtain ⟨hd, hc⟩ := zChk_1 (fun _ h => by cases h) rfl hc
  exact W.lcmp C.x C.b hd (k _ hc H locs ls hR hL hlo q1 q2)
theorem zs_dadd (C : zCtx G m0 p s mm args meth cd) {x y : UInt64} (hn : vf_n64 (FP.dadd x y)) (k : zXW G m0 p l e R s mm args below meth cd FQ h0 r L (.double (FP.dadd x y) :: st) h) : zXW G m0 p l e R s mm args below meth cd FQ h0 (.dadd :: r) L (.double y :: .double x :: st) h := by
  intro pc hc H locs ls hR hL hlo q1 q2
  obtain ⟨hd, hc⟩ := zChk_1 (fun _ h => by cases h) rfl hc
  exact lv_dadd C.x C.b hd hn (k _ hc H locs ls hR hL hlo q1 q2)
theorem zs_dsub (C : zCtx G m0 p s mm args meth cd) {x y : UInt64} (hn : vf_n64 (FP.dsub x y)) (k : zXW G m0 p l e R s mm args below meth cd FQ h0 r L (.double (FP.dsub x y) :: st) h) : zXW G m0 p l e R s mm args below meth cd FQ h0 (.dsub :: r) L (.double y :: .double x :: st) h := by
  intro pc hc H locs ls hR hL hlo q1 q2
  obtain ⟨hd, hc⟩ := zChk_1 (fun _ h => by cases h) rfl hc
  exact lv_dsub C.x C.b hd hn (k _ hc H locs ls hR hL hlo q1 q2)
theorem zs_dmul (C : zCtx G m0 p s mm args meth cd) {x y : UInt64} (hn : vf_n64 (FP.dmul x y)) (k : zXW G m0 p l e R s mm args below meth cd FQ h0 r L (.double (FP.dmul x y) :: st) h) : zXW G m0 p l e R s mm args below meth cd FQ h0 (.dmul :: r) L (.double y :: .double x :: st) h := by
  intro pc hc H locs ls hR hL hlo q1 q2
  obtain ⟨hd, hc⟩ := zChk_1 (fun _ h => by cases h) rfl hc
  exact lv_dmul C.x C.b hd hn (k _ hc H locs ls hR hL hlo q1 q2)
theorem zs_ddiv (C : zCtx G m0 p s mm args meth cd) {x y : UInt64} (hn : vf_n64 (FP.ddiv x y)) (k : zXW G m0 p l e R s mm args below meth cd FQ h0 r L (.double (FP.ddiv x y) :: st) h) : zXW G m0 p l e R s mm args below meth cd FQ h0 (.ddiv :: r) L (.double y :: .double x :: st) h := by
  intro pc hc H locs ls hR hL hlo q1 q2
  obtain ⟨hd, hc⟩ := zChk_1 (fun _ h => by cases h) rfl hc
  exact lv_ddiv C.x C.b hd hn (k _ hc H locs ls hR hL hlo q1 q2)
theorem zs_dcmp (C : zCtx G m0 p s mm args meth cd) {x y : UInt64} {op : CmpOp}  (k : zXW G m0 p l e R s mm args below meth cd FQ h0 r L (.int (Op.cmpValue (FP.dcmp x y) op) :: st) h) : zXW G m0 p l e R s mm args below meth cd FQ h0 (.dcmp op :: r) L (.double y :: .double x :: st) h := by
  intro pc hc H locs ls hR hL hlo q1 q2
  obtain ⟨hd, hc⟩ := zChk_1 (fun _ h => by cases h) rfl hc
  exact lv_dcmp C.x C.b hd (k _ hc H locs ls hR hL hlo q1 q2)
theorem zs_fcmp (C : zCtx G m0 p s mm args meth cd) {x y : UInt32} {op : CmpOp}  (k : zXW G m0 p l e R s mm args below meth cd FQ h0 r L (.int (Op.cmpValue (FP.fcmp x y) op) :: st) h) : zXW G m0 p l e R s mm args below meth cd FQ h0 (.fcmp op :: r) L (.float y :: .float x :: st) h := by
  intro pc hc H locs ls hR hL hlo q1 q2
  obtain ⟨hd, hc⟩ := zChk_1 (fun _ h => by cases h) rfl hc
  exact lv_fcmp C.x C.b hd (k _ hc H locs ls hR hL hlo q1 q2)
theorem zs_i2l (C : zCtx G m0 p s mm args meth cd) {x : Int32}  (k : zXW G m0 p l e R s mm args below meth cd FQ h0 r L (.long x.toInt64 :: st) h) : zXW G m0 p l e R s mm args below meth cd FQ h0 (.i2l :: r) L (.int x :: st) h := by
  intro pc hc H locs ls hR hL hlo q1 q2
  obtain ⟨hd, hc⟩ := zChk_1 (fun _ h => by cases h) rfl hc
  exact lv_i2l C.x C.b hd rfl (k _ hc H locs ls hR hL hlo q1 q2)
theorem zs_i2d (C : zCtx G m0 p s mm args meth cd) {x : Int32}  (k : zXW G m0 p l e R s mm args below meth cd FQ h0 r L (.double (FP.i2d x) :: st) h) : zXW G m0 p l e R s mm args below meth cd FQ h0 (.i2d :: r) L (.int x :: st) h := by
  intro pc hc H locs ls hR hL hlo q1 q2
  obtain ⟨hd, hc⟩ := zChk_1 (fun _ h => by cases h) rfl hc
  exact lv_i2d C.x C.b hd (k _ hc H locs ls hR hL hlo q1 q2)
theorem zs_d2i (C : zCtx G m0 p s mm args meth cd) {x : UInt64}  (k : zXW G m0 p l e R s mm args below meth cd FQ h0 r L (.int (FP.d2i x) :: st) h) : zXW G m0 p l e R s mm args below meth cd FQ h0 (.d2i :: r) L (.double x :: st) h := by
  intro pc hc H locs ls hR hL hlo q1 q2
  obtain ⟨hd, hc⟩ := zChk_1 (fun _ h => by cases h) rfl hc
  exact lv_d2i C.x C.b hd (k _ hc H locs ls hR hL hlo q1 q2)
theorem zs_d2f (C : zCtx G m0 p s mm args meth cd) {x : UInt64} (hn : vf_n32 (FP.d2f x)) (k : zXW G m0 p l e R s mm args below meth cd FQ h0 r L (.float (FP.d2f x) :: st) h) : zXW G m0 p l e R s mm args below meth cd FQ h0 (.d2f :: r) L (.double x :: st) h := by
  intro pc hc H locs ls hR hL hlo q1 q2
  obtain ⟨hd, hc⟩ := zChk_1 (fun _ h => by cases h) rfl hc
  exact lv_d2f C.x C.b hd hn (k _ hc H locs ls hR hL hlo q1 q2)
theorem zs_f2d (C : zCtx G m0 p s mm args meth cd) {x : UInt32} (hn : vf_n64 (FP.f2d x)) (k : zXW G m0 p l e R s mm args below meth cd FQ h0 r L (.double (FP.f2d x) :: st) h) : zXW G m0 p l e R s mm args below meth cd FQ h0 (.f2d :: r) L (.float x :: st) h := by
  intro pc hc H locs ls hR hL hlo q1 q2
  obtain ⟨hd, hc⟩ := zChk_1 (fun _ h => by cases h) rfl hc
  exact lv_f2d C.x C.b hd hn (k _ hc H locs ls hR hL hlo q1 q2)
theorem zs_dup (C : zCtx G m0 p s mm args meth cd) {v : Value} (hv : v.category = 1) (k : zXW G m0 p l e R s mm args below meth cd FQ h0 r L (v :: v :: st) h) : zXW G m0 p l e R s mm args below meth cd FQ h0 (.dup :: r) L (v :: st) h := by
  intro pc hc H locs ls hR hL hlo q1 q2
  obtain ⟨hd, hc⟩ := zChk_1 (fun _ h => by cases h) rfl hc
  exact lv_dup C.x C.b hd ((zCv_cat G v).trans hv) (k _ hc H locs ls hR hL hlo q1 q2)
theorem zs_dup2 (C : zCtx G m0 p s mm args meth cd) {v w : Value} (hv : v.category = 1) (hw : w.category = 1) (k : zXW G m0 p l e R s mm args below meth cd FQ h0 r L (v :: w :: v :: w :: st) h) : zXW G m0 p l e R s mm args below meth cd FQ h0 (.dup2 :: r) L (v :: w :: st) h := by
  intro pc hc H locs ls hR hL hlo q1 q2
  obtain ⟨hd, hc⟩ := zChk_1 (fun _ h => by cases h) rfl hc
  exact lv_dup2_11 C.x C.b hd ((zCv_cat G v).trans hv) ((zCv_cat G w).trans hw) (k _ hc H locs ls hR hL hlo q1 q2)
theorem zs_iload (C : zCtx G m0 p s mm args meth cd) {k : Nat} {x : Int32} (hk : L[k]? = some (.int x)) (kk : zXW G m0 p l e R s mm args below meth cd FQ h0 r L (.int x :: st) h) : zXW G m0 p l e R s mm args below meth cd FQ h0 (.iload k :: r) L st h := by
  intro pc hc H locs ls hR hL hlo q1 q2
  have hc9 := zChk_c (fun _ h => by cases h) hc
  clear hc
  obtain ⟨q, hq, hd, hc⟩ := hc9
  have hl := hL.at hk (by intro e; cases e)
  rcases List.mem_cons.mp hq with rfl | hq
  · exact lv_iload C.x C.b hd hl (kk _ hc H locs ls hR hL hlo q1 q2)
  · obtain ⟨n, hn, rfl⟩ := zn4_m hq
    exact lv_iload_n C.x C.b hd hn hl (kk _ hc H locs ls hR hL hlo q1 q2)
theorem zs_lload (C : zCtx G m0 p s mm args meth cd) {k : Nat} {x : Int64} (hk : L[k]? = some (.long x)) (kk : zXW G m0 p l e R s mm args below meth cd FQ h0 r L (.long x :: st) h) : zXW G m0 p l e R s mm args below meth cd FQ h0 (.lload k :: r) L st h := by
  intro pc hc H locs ls hR hL hlo q1 q2
  have hc9 := zChk_c (fun _ h => by cases h) hc
  clear hc
  obtain ⟨q, hq, hd, hc⟩ := hc9
  have hl := hL.at hk (by intro e; cases e)
  rcases List.mem_cons.mp hq with rfl | hq
  · exact lv_lload C.x C.b hd hl (kk _ hc H locs ls hR hL hlo q1 q2)
  · obtain ⟨n, hn, rfl⟩ := zn4_m hq
    exact lv_lload_n C.x C.b hd hn hl (kk _ hc H locs ls hR hL hlo q1 q2)
theorem zs_dload (C : zCtx G m0 p s mm args meth cd) {k : Nat} {x : UInt64} (hk : L[k]? = some (.double x)) (kk : zXW G m0 p l e R s mm args below meth cd FQ h0 r L (.double x :: st) h) : zXW G m0 p l e R s mm args below meth cd FQ h0 (.dload k :: r) L st h := by
  intro pc hc H locs ls hR hL hlo q1 q2
  have hc9 := zChk_c (fun _ h => by cases h) hc
  clear hc
  obtain ⟨q, hq, hd, hc⟩ := hc9
  have hl := hL.at hk (by intro e; cases e)
  rcases List.mem_cons.mp hq with rfl | hq
  · exact lv_dload C.x C.b hd hl (kk _ hc H locs ls hR hL hlo q1 q2)
  · obtain ⟨n, hn, rfl⟩ := zn4_m hq
    exact lv_dload_n C.x C.b hd hn hl (kk _ hc H locs ls hR hL hlo q1 q2)
theorem zs_fload (C : zCtx G m0 p s mm args meth cd) {k : Nat} {x : UInt32} (hk : L[k]? = some (.float x)) (kk : zXW G m0 p l e R s mm args below meth cd FQ h0 r L (.float x :: st) h) : zXW G m0 p l e R s mm args below meth cd FQ h0 (.fload k :: r) L st h := by
  intro pc hc H locs ls hR hL hlo q1 q2
  have hc9 := zChk_c (fun _ h => by cases h) hc
  clear hc
  obtain ⟨q, hq, hd, hc⟩ := hc9
  have hl := hL.at hk (by intro e; cases e)
  rcases List.mem_cons.mp hq with rfl | hq
  · exact lv_fload C.x C.b hd hl (kk _ hc H locs ls hR hL hlo q1 q2)
  · obtain ⟨n, hn, rfl⟩ := zn4_m hq
    exact lv_fload_n C.x C.b hd hn hl (kk _ hc H locs ls hR hL hlo q1 q2)
theorem zs_aload (C : zCtx G m0 p s mm args meth cd) {k : Nat} {x : Nat} (hk : L[k]? = some (.ref x)) (kk : zXW G m0 p l e R s mm args below meth cd FQ h0 r L (.ref x :: st) h) : zXW G m0 p l e R s mm args below meth cd FQ h0 (.aload k :: r) L st h := by
  intro pc hc H locs ls hR hL hlo q1 q2
  have hc9 := zChk_c (fun _ h => by cases h) hc
  clear hc
  obtain ⟨q, hq, hd, hc⟩ := hc9
  have hl := hL.at hk (by intro e; cases e)
  rcases List.mem_cons.mp hq with rfl | hq
  · exact lv_aload C.x C.b hd hl (kk _ hc H locs ls hR hL hlo q1 q2)
  · obtain ⟨n, hn, rfl⟩ := zn4_m hq
    exact lv_aload_n C.x C.b hd hn hl (kk _ hc H locs ls hR hL hlo q1 q2)
theorem zs_istore (C : zCtx G m0 p s mm args meth cd) {k : Nat} {x : Int32} (hk : k < L.length) (hp : zPrev L k = true) (kk : zXW G m0 p l e R s mm args below meth cd FQ h0 r (L.set k (.int x)) st h) : zXW G m0 p l e R s mm args below meth cd FQ h0 (.istore k :: r) L (.int x :: st) h := by
  intro pc hc H locs ls hR hL hlo q1 q2
  have hc9 := zChk_c (fun _ h => by cases h) hc
  clear hc
  obtain ⟨q, hq, hd, hc⟩ := hc9
  rcases List.mem_cons.mp hq with rfl | hq
  · exact lv_istore C.x C.b hd hL.2 (by rw [← hL.1]; exact hk) rfl (fun ls' h' => kk _ hc H locs ls' hR (hL.set1 (u := .int x) hk hp h') hlo q1 q2)
  · obtain ⟨n, hn, rfl⟩ := zn4_m hq
    exact lv_istore_n C.x C.b hd hn hL.2 (by rw [← hL.1]; exact hk) rfl (fun ls' h' => kk _ hc H locs ls' hR (hL.set1 (u := .int x) hk hp h') hlo q1 q2)
theorem zs_astore (C : zCtx G m0 p s mm args meth cd) {k : Nat} {x : Nat} (hk : k < L.length) (hp : zPrev L k = true) (kk : zXW G m0 p l e R s mm args below meth cd FQ h0 r (L.set k (.ref x)) st h) : zXW G m0 p l e R s mm args below meth cd FQ h0 (.astore k :: r) L (.ref x :: st) h := by
  intro pc hc H locs ls hR hL hlo q1 q2
  have hc9 := zChk_c (fun _ h => by cases h) hc
  clear hc
  obtain ⟨q, hq, hd, hc⟩ := hc9
  rcases List.mem_cons.mp hq with rfl | hq
  · exact lv_astore C.x C.b hd hL.2 (by rw [← hL.1]; exact hk) rfl (fun ls' h' => kk _ hc H locs ls' hR (hL.set1 (u := .ref x) hk hp h') hlo q1 q2)
  · obtain ⟨n, hn, rfl⟩ := zn4_m hq
    exact lv_astore_n C.x C.b hd hn hL.2 (by rw [← hL.1]; exact hk) rfl (fun ls' h' => kk _ hc H locs ls' hR (hL.set1 (u := .ref x) hk hp h') hlo q1 q2)
theorem zs_lstore (C : zCtx G m0 p s mm args meth cd) {k : Nat} {x : Int64} (hk : k + 1 < L.length) (hp : zPrev L k = true) (kk : zXW G m0 p l e R s mm args below meth cd FQ h0 r ((L.set k (.long x)).set (k + 1) zJ) st h) : zXW G m0 p l e R s mm args below meth cd FQ h0 (.lstore k :: r) L (.long x :: st) h := by
  intro pc hc H locs ls hR hL hlo q1 q2
  have hc9 := zChk_c (fun _ h => by cases h) hc
  clear hc
  obtain ⟨q, hq, hd, hc⟩ := hc9
  rcases List.mem_cons.mp hq with rfl | hq
  · exact lv_lstore C.x C.b hd hL.2 (by rw [← hL.1]; exact hk) rfl (fun ls' h' => kk _ hc H locs ls' hR (hL.set2 (u := .long x) hk hp h') hlo q1 q2)
  · obtain ⟨n, hn, rfl⟩ := zn4_m hq
    exact lv_lstore_n C.x C.b hd hn hL.2 (by rw [← hL.1]; exact hk) rfl (fun ls' h' => kk _ hc H locs ls' hR (hL.set2 (u := .long x) hk hp h') hlo q1 q2)
theorem zs_dstore (C : zCtx G m0 p s mm args meth cd) {k : Nat} {x : UInt64} (hk : k + 1 < L.length) (hp : zPrev L k = true) (kk : zXW G m0 p l e R s mm args below meth cd FQ h0 r ((L.set k (.double x)).set (k + 1) zJ) st h) : zXW G m0 p l e R s mm args below meth cd FQ h0 (.dstore k :: r) L (.double x :: st) h := by
  intro pc hc H locs ls hR hL hlo q1 q2
  have hc9 := zChk_c (fun _ h => by cases h) hc
  clear hc
  obtain ⟨q, hq, hd, hc⟩ := hc9
  rcases List.mem_cons.mp hq with rfl | hq
  · exact lv_dstore C.x C.b hd hL.2 (by rw [← hL.1]; exact hk) rfl (fun ls' h' => kk _ hc H locs ls' hR (hL.set2 (u := .double x) hk hp h') hlo q1 q2)
  · obtain ⟨n, hn, rfl⟩ := zn4_m hq
    exact lv_dstore_n C.x C.b hd hn hL.2 (by rw [← hL.1]; exact hk) rfl (fun ls' h' => kk _ hc H locs ls' hR (hL.set2 (u := .double x) hk hp h') hlo q1 q2)
theorem zs_iinc (C : zCtx G m0 p s mm args meth cd) {k : Nat} {n : Int} {x : Int32} (hx : L[k]? = some (.int x)) (hp : zPrev L k = true) (kk : zXW G m0 p l e R s mm args below meth cd FQ h0 r (L.set k (.int (x + Int32.ofInt n))) st h) : zXW G m0 p l e R s mm args below meth cd FQ h0 (.iinc k n :: r) L st h := by
  intro pc hc H locs ls hR hL hlo q1 q2
  obtain ⟨hd, hc⟩ := zChk_1 (fun _ h => by cases h) rfl hc
  have hk : k < L.length := (List.getElem?_eq_some_iff.mp hx).1
  obtain ⟨i, hi⟩ := List.getElem?_of_mem (zLv_mem (G := G) (q := (k, .int x)).mpr ⟨_, hx, (by intro e; cases e), rfl⟩)
  exact lv_iinc C.x C.b hd hL.2 hi rfl (by rw [← hL.1]; exact hk) rfl (fun ls' h' => kk _ hc H locs ls' hR (hL.set1 (u := .int (x + Int32.ofInt n)) hk hp h') hlo q1 q2)
theorem z_i8 {n : Int} (h1 : -128 ≤ n) (h2 : n < 128) : (Int8.ofInt n).toInt32 = Int32.ofInt n := by
  apply Int32.toInt_inj.mp
  rw [Int8.toInt_toInt32, Int8.toInt_ofInt_of_le (by omega) (by omega), Int32.toInt_ofInt_of_le (by omega) (by omega)]
theorem z_i16 {n : Int} (h1 : -32768 ≤ n) (h2 : n < 32768) : (Int16.ofInt n).toInt32 = Int32.ofInt n := by
  apply Int32.toInt_inj.mp
  rw [Int16.toInt_toInt32, Int16.toInt_ofInt_of_le (by omega) (by omega), Int32.toInt_ofInt_of_le (by omega) (by omega)]
theorem zs_iconst (C : zCtx G m0 p s mm args meth cd) {n : Int} (kk : zXW G m0 p l e R s mm args below meth cd FQ h0 r L (.int (Int32.ofInt n) :: st) h) : zXW G m0 p l e R s mm args below meth cd FQ h0 (.iconst n :: r) L st h := by
  intro pc hc H locs ls hR hL hlo q1 q2
  have hc9 := zChk_c (fun _ h => by cases h) hc
  clear hc
  obtain ⟨q, hq, hd, hc⟩ := hc9
  rcases List.mem_append.mp hq with hq | hq
  · obtain ⟨-, hq⟩ := zif_m hq
    rw [List.mem_singleton.mp hq] at hd hc
    exact lv_iconst C.x C.b hd rfl (kk _ hc H locs ls hR hL hlo q1 q2)
  rcases List.mem_append.mp hq with hq | hq
  · obtain ⟨hn, hq⟩ := zif_m hq
    rw [List.mem_singleton.mp hq] at hd hc
    exact lv_bipush C.x C.b hd (z_i8 hn.1 hn.2) (kk _ hc H locs ls hR hL hlo q1 q2)
  rcases List.mem_append.mp hq with hq | hq
  · obtain ⟨hn, hq⟩ := zif_m hq
    rw [List.mem_singleton.mp hq] at hd hc
    exact lv_sipush C.x C.b hd (z_i16 hn.1 hn.2) (kk _ hc H locs ls hR hL hlo q1 q2)
  rcases List.mem_append.mp hq with hq | hq
  · obtain ⟨a, ha, hp, rfl⟩ := zPk_m hq
    simp only [Bool.and_eq_true, beq_iff_eq] at hp
    have hw := C.ts _ (zKI_ok a ha)
    dsimp only at hw
    rw [hp.1, hp.2] at hw
    exact lv_ldc C.x C.b C.own hw hd (kk _ hc H locs ls hR hL hlo q1 q2)
  · obtain ⟨a, ha, hp, rfl⟩ := zPk_m hq
    simp only [Bool.and_eq_true, beq_iff_eq] at hp
    have hw := C.ts _ (zKI_ok a ha)
    dsimp only at hw
    rw [hp.1, hp.2] at hw
    exact lv_ldcw C.x C.b C.own hw hd (kk _ hc H locs ls hR hL hlo q1 q2)
theorem zs_lconst (C : zCtx G m0 p s mm args meth cd) {n : Int} (kk : zXW G m0 p l e R s mm args below meth cd FQ h0 r L (.long (Int64.ofInt n) :: st) h) : zXW G m0 p l e R s mm args below meth cd FQ h0 (.jsr_w n :: r) L st h := by
  intro pc hc H locs ls hR hL hlo q1 q2
  have hc9 := zChk_c (fun _ h => by cases h) hc
  clear hc
  obtain ⟨q, hq, hd, hc⟩ := hc9
  rcases List.mem_append.mp hq with hq | hq
  · obtain ⟨rfl, hq⟩ := zif_m hq
    rw [List.mem_singleton.mp hq] at hd hc
    exact lv_lconst C.x C.b hd rfl (kk _ hc H locs ls hR hL hlo q1 q2)
  rcases List.mem_append.mp hq with hq | hq
  · obtain ⟨rfl, hq⟩ := zif_m hq
    rw [List.mem_singleton.mp hq] at hd hc
    exact lv_lconst C.x C.b hd rfl (kk _ hc H locs ls hR hL hlo q1 q2)
  · obtain ⟨a, ha, hp, rfl⟩ := zPk_m hq
    simp only [Bool.and_eq_true, beq_iff_eq] at hp
    have hw := C.ts _ (zKL_ok a ha)
    dsimp only at hw
    rw [hp.1, hp.2] at hw
    exact lv_ldc2 C.x C.b C.own hw hd (kk _ hc H locs ls hR hL hlo q1 q2)
theorem zs_dconst (C : zCtx G m0 p s mm args meth cd) {n : Int} (kk : zXW G m0 p l e R s mm args below meth cd FQ h0 r L (.double (UInt64.ofNat n.toNat) :: st) h) : zXW G m0 p l e R s mm args below meth cd FQ h0 (.jsr n :: r) L st h := by
  intro pc hc H locs ls hR hL hlo q1 q2
  have hc9 := zChk_c (fun _ h => by cases h) hc
  clear hc
  obtain ⟨q, hq, hd, hc⟩ := hc9
  rcases List.mem_append.mp hq with hq | hq
  · obtain ⟨rfl, hq⟩ := zif_m hq
    rw [List.mem_singleton.mp hq] at hd hc
    exact lv_dconst0 C.x C.b hd (kk _ hc H locs ls hR hL hlo q1 q2)
  rcases List.mem_append.mp hq with hq | hq
  · obtain ⟨rfl, hq⟩ := zif_m hq
    rw [List.mem_singleton.mp hq] at hd hc
    exact lv_dconst1 C.x C.b hd (kk _ hc H locs ls hR hL hlo q1 q2)
  · obtain ⟨a, ha, hp, rfl⟩ := zPk_m hq
    simp only [Bool.and_eq_true, beq_iff_eq] at hp
    have hw := C.ts _ (zKD_ok a ha)
    dsimp only at hw
    rw [hp.1, hp.2] at hw
    exact lv_ldc2d C.x C.b C.own hw hd (kk _ hc H locs ls hR hL hlo q1 q2)
theorem zOff_at {m pc : Nat} {l : Int} : (pc : Int) + zOff m pc l = (zPc m l : Int) := by
  unfold zOff
  omega
theorem zs_goto (C : zCtx G m0 p s mm args meth cd) (hm : m0 < 307) (hr : m0 ≠ zRef) {l2 : Int} (kk : zXW G m0 p l e R s mm args below meth cd FQ h0 (zB m0 l2) L st h) : zXW G m0 p l e R s mm args below meth cd FQ h0 (.goto l2 :: r) L st h := by
  intro pc hc H locs ls hR hL hlo q1 q2
  obtain ⟨hd, hc⟩ := zChk_1 (fun _ h => by cases h) rfl hc
  exact lv_goto C.x C.b hd zOff_at (kk _ (zChk_ok hm hr l2) H locs ls hR hL hlo q1 q2)
theorem zs_goto_w (hm : m0 < 307) (hr : m0 ≠ zRef) {l2 : Int} (kk : zXW G m0 p l e R s mm args below meth cd FQ h0 (zB m0 l2) L st h) : zXW G m0 p l e R s mm args below meth cd FQ h0 (.goto_w l2 :: r) L st h := by
  intro pc hc H locs ls hR hL hlo q1 q2
  have e1 : zPc m0 l2 = pc := by simpa [zChk] using hc
  subst e1
  exact kk _ (zChk_ok hm hr l2) H locs ls hR hL hlo q1 q2
theorem zs_if_eq (C : zCtx G m0 p s mm args meth cd) (hm : m0 < 307) (hr : m0 ≠ zRef) {l2 : Int} {x : Int32} (kt : x = 0 → zXW G m0 p l e R s mm args below meth cd FQ h0 (zB m0 l2) L st h) (kf : ¬ (x = 0) → zXW G m0 p l e R s mm args below meth cd FQ h0 r L st h) : zXW G m0 p l e R s mm args below meth cd FQ h0 (.ifCond .eq l2 :: r) L (.int x :: st) h := by
  intro pc hc H locs ls hR hL hlo q1 q2
  obtain ⟨hd, hc⟩ := zChk_1 (fun _ h => by cases h) rfl hc
  exact lv_if_eq C.x C.b hd zOff_at (fun q => kt q _ (zChk_ok hm hr l2) H locs ls hR hL hlo q1 q2) (fun q => kf q _ hc H locs ls hR hL hlo q1 q2)
theorem zs_icmp_eq (C : zCtx G m0 p s mm args meth cd) (hm : m0 < 307) (hr : m0 ≠ zRef) {l2 : Int} {x y : Int32} (kt : x = y → zXW G m0 p l e R s mm args below meth cd FQ h0 (zB m0 l2) L st h) (kf : ¬ (x = y) → zXW G m0 p l e R s mm args below meth cd FQ h0 r L st h) : zXW G m0 p l e R s mm args below meth cd FQ h0 (.if_icmp .eq l2 :: r) L (.int y :: .int x :: st) h := by
  intro pc hc H locs ls hR hL hlo q1 q2
  obtain ⟨hd, hc⟩ := zChk_1 (fun _ h => by cases h) rfl hc
  exact lv_icmp_eq C.x C.b hd zOff_at (fun q => kt q _ (zChk_ok hm hr l2) H locs ls hR hL hlo q1 q2) (fun q => kf q _ hc H locs ls hR hL hlo q1 q2)
theorem zs_if_ne (C : zCtx G m0 p s mm args meth cd) (hm : m0 < 307) (hr : m0 ≠ zRef) {l2 : Int} {x : Int32} (kt : ¬ x = 0 → zXW G m0 p l e R s mm args below meth cd FQ h0 (zB m0 l2) L st h) (kf : ¬ (¬ x = 0) → zXW G m0 p l e R s mm args below meth cd FQ h0 r L st h) : zXW G m0 p l e R s mm args below meth cd FQ h0 (.ifCond .ne l2 :: r) L (.int x :: st) h := by
  intro pc hc H locs ls hR hL hlo q1 q2
  obtain ⟨hd, hc⟩ := zChk_1 (fun _ h => by cases h) rfl hc
  exact lv_if_ne C.x C.b hd zOff_at (fun q => kt q _ (zChk_ok hm hr l2) H locs ls hR hL hlo q1 q2) (fun q => kf (fun g => g q) _ hc H locs ls hR hL hlo q1 q2)
theorem zs_icmp_ne (C : zCtx G m0 p s mm args meth cd) (hm : m0 < 307) (hr : m0 ≠ zRef) {l2 : Int} {x y : Int32} (kt : ¬ x = y → zXW G m0 p l e R s mm args below meth cd FQ h0 (zB m0 l2) L st h) (kf : ¬ (¬ x = y) → zXW G m0 p l e R s mm args below meth cd FQ h0 r L st h) : zXW G m0 p l e R s mm args below meth cd FQ h0 (.if_icmp .ne l2 :: r) L (.int y :: .int x :: st) h := by
  intro pc hc H locs ls hR hL hlo q1 q2
  obtain ⟨hd, hc⟩ := zChk_1 (fun _ h => by cases h) rfl hc
  exact lv_icmp_ne C.x C.b hd zOff_at (fun q => kt q _ (zChk_ok hm hr l2) H locs ls hR hL hlo q1 q2) (fun q => kf (fun g => g q) _ hc H locs ls hR hL hlo q1 q2)
theorem zs_if_lt (C : zCtx G m0 p s mm args meth cd) (hm : m0 < 307) (hr : m0 ≠ zRef) {l2 : Int} {x : Int32} (kt : x < 0 → zXW G m0 p l e R s mm args below meth cd FQ h0 (zB m0 l2) L st h) (kf : ¬ (x < 0) → zXW G m0 p l e R s mm args below meth cd FQ h0 r L st h) : zXW G m0 p l e R s mm args below meth cd FQ h0 (.ifCond .lt l2 :: r) L (.int x :: st) h := by
  intro pc hc H locs ls hR hL hlo q1 q2
  obtain ⟨hd, hc⟩ := zChk_1 (fun _ h => by cases h) rfl hc
  exact lv_if_lt C.x C.b hd zOff_at (fun q => kt q _ (zChk_ok hm hr l2) H locs ls hR hL hlo q1 q2) (fun q => kf q _ hc H locs ls hR hL hlo q1 q2)
theorem zs_icmp_lt (C : zCtx G m0 p s mm args meth cd) (hm : m0 < 307) (hr : m0 ≠ zRef) {l2 : Int} {x y : Int32} (kt : x < y → zXW G m0 p l e R s mm args below meth cd FQ h0 (zB m0 l2) L st h) (kf : ¬ (x < y) → zXW G m0 p l e R s mm args below meth cd FQ h0 r L st h) : zXW G m0 p l e R s mm args below meth cd FQ h0 (.if_icmp .lt l2 :: r) L (.int y :: .int x :: st) h := by
  intro pc hc H locs ls hR hL hlo q1 q2
  obtain ⟨hd, hc⟩ := zChk_1 (fun _ h => by cases h) rfl hc
  exact lv_icmp_lt C.x C.b hd zOff_at (fun q => kt q _ (zChk_ok hm hr l2) H locs ls hR hL hlo q1 q2) (fun q => kf q _ hc H locs ls hR hL hlo q1 q2)
theorem zs_if_ge (C : zCtx G m0 p s mm args meth cd) (hm : m0 < 307) (hr : m0 ≠ zRef) {l2 : Int} {x : Int32} (kt : 0 ≤ x → zXW G m0 p l e R s mm args below meth cd FQ h0 (zB m0 l2) L st h) (kf : ¬ (0 ≤ x) → zXW G m0 p l e R s mm args below meth cd FQ h0 r L st h) : zXW G m0 p l e R s mm args below meth cd FQ h0 (.ifCond .ge l2 :: r) L (.int x :: st) h := by
  intro pc hc H locs ls hR hL hlo q1 q2
  obtain ⟨hd, hc⟩ := zChk_1 (fun _ h => by cases h) rfl hc
  exact lv_if_ge C.x C.b hd zOff_at (fun q => kt q _ (zChk_ok hm hr l2) H locs ls hR hL hlo q1 q2) (fun q => kf q _ hc H locs ls hR hL hlo q1 q2)
theorem zs_icmp_ge (C : zCtx G m0 p s mm args meth cd) (hm : m0 < 307) (hr : m0 ≠ zRef) {l2 : Int} {x y : Int32} (kt : y ≤ x → zXW G m0 p l e R s mm args below meth cd FQ h0 (zB m0 l2) L st h) (kf : ¬ (y ≤ x) → zXW G m0 p l e R s mm args below meth cd FQ h0 r L st h) : zXW G m0 p l e R s mm args below meth cd FQ h0 (.if_icmp .ge l2 :: r) L (.int y :: .int x :: st) h := by
  intro pc hc H locs ls hR hL hlo q1 q2
  obtain ⟨hd, hc⟩ := zChk_1 (fun _ h => by cases h) rfl hc
  exact lv_icmp_ge C.x C.b hd zOff_at (fun q => kt q _ (zChk_ok hm hr l2) H locs ls hR hL hlo q1 q2) (fun q => kf q _ hc H locs ls hR hL hlo q1 q2)
theorem zs_if_gt (C : zCtx G m0 p s mm args meth cd) (hm : m0 < 307) (hr : m0 ≠ zRef) {l2 : Int} {x : Int32} (kt : 0 < x → zXW G m0 p l e R s mm args below meth cd FQ h0 (zB m0 l2) L st h) (kf : ¬ (0 < x) → zXW G m0 p l e R s mm args below meth cd FQ h0 r L st h) : zXW G m0 p l e R s mm args below meth cd FQ h0 (.ifCond .gt l2 :: r) L (.int x :: st) h := by
  intro pc hc H locs ls hR hL hlo q1 q2
  obtain ⟨hd, hc⟩ := zChk_1 (fun _ h => by cases h) rfl hc
  exact lv_if_gt C.x C.b hd zOff_at (fun q => kt q _ (zChk_ok hm hr l2) H locs ls hR hL hlo q1 q2) (fun q => kf q _ hc H locs ls hR hL hlo q1 q2)
theorem zs_icmp_gt (C : zCtx G m0 p s mm args meth cd) (hm : m0 < 307) (hr : m0 ≠ zRef) {l2 : Int} {x y : Int32} (kt : y < x → zXW G m0 p l e R s mm args below meth cd FQ h0 (zB m0 l2) L st h) (kf : ¬ (y < x) → zXW G m0 p l e R s mm args below meth cd FQ h0 r L st h) : zXW G m0 p l e R s mm args below meth cd FQ h0 (.if_icmp .gt l2 :: r) L (.int y :: .int x :: st) h := by
  intro pc hc H locs ls hR hL hlo q1 q2
  obtain ⟨hd, hc⟩ := zChk_1 (fun _ h => by cases h) rfl hc
  exact lv_icmp_gt C.x C.b hd zOff_at (fun q => kt q _ (zChk_ok hm hr l2) H locs ls hR hL hlo q1 q2) (fun q => kf q _ hc H locs ls hR hL hlo q1 q2)
theorem zs_if_le (C : zCtx G m0 p s mm args meth cd) (hm : m0 < 307) (hr : m0 ≠ zRef) {l2 : Int} {x : Int32} (kt : x ≤ 0 → zXW G m0 p l e R s mm args below meth cd FQ h0 (zB m0 l2) L st h) (kf : ¬ (x ≤ 0) → zXW G m0 p l e R s mm args below meth cd FQ h0 r L st h) : zXW G m0 p l e R s mm args below meth cd FQ h0 (.ifCond .le l2 :: r) L (.int x :: st) h := by
  intro pc hc H locs ls hR hL hlo q1 q2
  obtain ⟨hd, hc⟩ := zChk_1 (fun _ h => by cases h) rfl hc
  exact lv_if_le C.x C.b hd zOff_at (fun q => kt q _ (zChk_ok hm hr l2) H locs ls hR hL hlo q1 q2) (fun q => kf q _ hc H locs ls hR hL hlo q1 q2)
theorem zs_icmp_le (C : zCtx G m0 p s mm args meth cd) (hm : m0 < 307) (hr : m0 ≠ zRef) {l2 : Int} {x y : Int32} (kt : x ≤ y → zXW G m0 p l e R s mm args below meth cd FQ h0 (zB m0 l2) L st h) (kf : ¬ (x ≤ y) → zXW G m0 p l e R s mm args below meth cd FQ h0 r L st h) : zXW G m0 p l e R s mm args below meth cd FQ h0 (.if_icmp .le l2 :: r) L (.int y :: .int x :: st) h := by
  intro pc hc H locs ls hR hL hlo q1 q2
  obtain ⟨hd, hc⟩ := zChk_1 (fun _ h => by cases h) rfl hc
  exact lv_icmp_le C.x C.b hd zOff_at (fun q => kt q _ (zChk_ok hm hr l2) H locs ls hR hL hlo q1 q2) (fun q => kf q _ hc H locs ls hR hL hlo q1 q2)
end
