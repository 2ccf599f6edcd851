/-! SOUNDNESS, 11: the law's own body; what the Statement gives of the start -/
theorem zSelPriv {C : String} {y x z : MethodName} {s : State} {args : Array Value} {n : Nat} (hy : y.cls ≠ "java/lang/invoke/MethodHandle" ∧ y.cls ≠ "java/lang/invoke/VarHandle") (hins : (Cond.instantiable C n).before args s = true) (hpriv : (Cond.privateMethod y).before args s = true) (hinst : (Cond.instanceMethod y).before args s = true) (hz : (Cond.selects C x z).before args s = true) (hzc : z.cls = y.cls) : (Cond.selects C y y).before args s = true := by
  obtain ⟨c, k, hc, hk, -, -, -, -⟩ := Cond.instantiable_spec hins
  obtain ⟨mk, methM, hnamed, hmethM, -, -⟩ := Cond.instanceMethod_spec hinst
  have hfound : s.methodFound? y.cls y.name y.desc = some mk := State.methodFound?_of_named hnamed hy
  have hsel : selectMethod {} s.vm c mk = .method mk := selectMethod_private hmethM (Cond.privateMethod_at hpriv mk methM hnamed hmethM)
  have hni : (s.vm.classes[mk.cls]?).any (fun k => !k.isInterface) = true := by
    simp only [Cond.before, Cond.holds, Cond.value, hc] at hz
    cases h1 : s.methodFound? x.cls x.name x.desc with
    | none => simp [h1] at hz
    | some r =>
      cases h2 : s.methodNamed? z with
      | none => simp [h1, h2] at hz
      | some m' =>
        have e : m'.cls = mk.cls := by
          have a1 := findClass_of_methodNamed h2
          rw [hzc] at a1
          exact Option.some.inj (a1.symm.trans (findClass_of_methodNamed hnamed))
        rw [h1, h2] at hz
        dsimp only at hz
        cases h3 : selectMethod {} s.vm c r with
        | method m9 =>
          rw [h3] at hz
          have hz2 := Option.some.inj (eq_of_beq hz)
          rw [Bool.and_eq_true] at hz2
          rw [← e]
          exact hz2.2
        | _ => rw [h3] at hz; simp at hz
  simp only [Cond.before, Cond.holds, Cond.value, hc, hfound, hnamed, hsel, hni]
  simp
/-- what the static arrays hold -/
def zStI : List (List Int32) := [[1, 50, 1, 1, 1, 0], [100, 400, 9, 20, 9, 1000], [1, 100, 2, 3, 1, 990]]
def zStL : List Int64 := [-6148914691236517206, -3689348814741910324, -1085102592571150096, -71777214294589696, -281470681808896, -4294967296]
def zStV (r j : Nat) : Value := if r < 3 then .int ((zStI.getD r []).getD j 0) else .long (zStL.getD j 0)
abbrev zGv : Cond := Jvm.Cond.and given_1 narrow_1
theorem zGv_a : ∀ r, r < 4 → Cond.arrayOf (.static (zSn r).1 (zSn r).2.1 (zSn r).2.2) (zSty r) ∈ flatC zGv ∧ Cond.eq (.length (.static (zSn r).1 (zSn r).2.1 (zSn r).2.2)) (.int 6) ∈ flatC zGv := by decide +kernel
theorem zGv_i : ∀ r, r < 3 → ∀ j, j < 6 → Cond.eq (.elem (.static (zSn r).1 (zSn r).2.1 (zSn r).2.2) (.int (Int32.ofNat j))) (.int ((zStI.getD r []).getD j 0)) ∈ flatC zGv := by decide +kernel
theorem zGv_l : ∀ j, j < 6 → Cond.eq (.elem (.static (zSn 3).1 (zSn 3).2.1 (zSn 3).2.2) (.int (Int32.ofNat j))) (.long (zStL.getD j 0)) ∈ flatC zGv := by decide +kernel
theorem zGv_nc : ∀ a, a < 4 → ∀ b, b < 4 → (1 ≤ a ∧ 1 ≤ b ∧ a ≠ b) → Cond.not (.castable (zEn a) (zEn b)) ∈ flatC zGv := by decide +kernel
theorem zGv_s : ∀ k, k < 4 → 1 ≤ k → Cond.exactly (.string (zCn 9) (zEtx k).1) "java/lang/String" ∈ flatC zGv := by decide +kernel
theorem zGv_t : Cond.isRef (.static Bundle.tN "UNASSIGNED_STACK" Bundle.steD) ∈ flatC zGv ∧ Cond.isRef (.static Bundle.tN "SUPPRESSED_SENTINEL" Bundle.listD) ∈ flatC zGv := by decide +kernel
def zWt : List Cond := [.laysStatic (zSn 0).1 (zSn 0).2.1 (zSn 0).2.2, .laysStatic (zSn 1).1 (zSn 1).2.1 (zSn 1).2.2, .laysStatic (zSn 2).1 (zSn 2).2.1 (zSn 2).2.2, .laysStatic (zSn 3).1 (zSn 3).2.1 (zSn 3).2.2, .initialized (zSn 0).1, .initialized (zSn 3).1, .stringRef (zCn 9) 296 "there is no such service or call", .stringRef (zCn 9) 303 "an argument is out of range", .stringRef (zCn 9) 308 "this is not possible now",
  .laysStatic Bundle.tN "UNASSIGNED_STACK" Bundle.steD, .laysStatic Bundle.tN "SUPPRESSED_SENTINEL" Bundle.listD, .initialized Bundle.tN, .declares (Bundle.initS "java/lang/RuntimeException"), .declares (Bundle.initS "java/lang/Exception"), .declares (Bundle.initS Bundle.tN), .castable (zEn 1) (zEn 1), .castable (zEn 2) (zEn 2), .castable (zEn 3) (zEn 3),
  .arrayClass .int, .arrayClass .long, .arrayClass .double, .arrayClass .boolean, .arrayOver (.array .int), .arrayOver (.array .long), .arrayOver (.object (zCn 7)),
  .privateMethod (zYn 63), .instanceMethod (zYn 63), .privateMethod (zYn 64), .instanceMethod (zYn 64), .instantiable (zCn 0) 1, .instantiable (zCn 5) 10,
  .selects (zCn 0) ⟨zCn 0, "serve", "(LServiceBudgets$State;IIII)I"⟩ ⟨zCn 6, "serve", "(LServiceBudgets$State;IIII)I"⟩, .selects (zCn 5) ⟨zCn 5, "serve", "(LServiceBudgets$State;IIII)I"⟩ ⟨zCn 6, "serve", "(LServiceBudgets$State;IIII)I"⟩]
theorem zWt_in : zWt.all (fun w => decide (w ∈ tables_1)) = true := by decide +kernel
theorem zWt_at {w : Cond} (h : w ∈ zWt) : w ∈ tables_1 := by simpa using List.all_eq_true.mp zWt_in w h
theorem zT63 : (zYn 63).cls = zCn 6 ∧ (zYn 64).cls = zCn 6 ∧ zCn 6 ≠ "java/lang/invoke/MethodHandle" ∧ zCn 6 ≠ "java/lang/invoke/VarHandle" := by decide +kernel
/-- all words that the walk uses -/
theorem zT_ok {args : Array Value} {s : State} (h : ∀ w ∈ lw_tbl, w.before args s = true) : ∀ w ∈ zT, w.before args s = true := by
  have ht : ∀ w ∈ zWt, w.before args s = true := fun w hw => h w (List.mem_append_right _ (zWt_at hw))
  have hn : ∀ y, (zYn y).cls = zCn 6 → (zYn y).cls ≠ "java/lang/invoke/MethodHandle" ∧ (zYn y).cls ≠ "java/lang/invoke/VarHandle" := fun y e => by rw [e]; exact ⟨zT63.2.2.1, zT63.2.2.2⟩
  intro w hw
  rcases List.mem_append.mp hw with hw | hw
  · unfold zSelX at hw
    simp only [List.mem_cons, List.not_mem_nil, or_false] at hw
    have a0 := ht (.instantiable (zCn 0) 1) (by simp [zWt])
    have a5 := ht (.instantiable (zCn 5) 10) (by simp [zWt])
    have b0 := ht (.selects (zCn 0) ⟨zCn 0, "serve", "(LServiceBudgets$State;IIII)I"⟩ ⟨zCn 6, "serve", "(LServiceBudgets$State;IIII)I"⟩) (by simp [zWt])
    have b5 := ht (.selects (zCn 5) ⟨zCn 5, "serve", "(LServiceBudgets$State;IIII)I"⟩ ⟨zCn 6, "serve", "(LServiceBudgets$State;IIII)I"⟩) (by simp [zWt])
    have c1 := ht (.privateMethod (zYn 63)) (by simp [zWt])
    have c2 := ht (.instanceMethod (zYn 63)) (by simp [zWt])
    have c3 := ht (.privateMethod (zYn 64)) (by simp [zWt])
    have c4 := ht (.instanceMethod (zYn 64)) (by simp [zWt])
    rcases hw with rfl | rfl | rfl | rfl
    · exact zSelPriv (hn 63 zT63.1) a0 c1 c2 b0 zT63.1.symm
    · exact zSelPriv (hn 63 zT63.1) a5 c1 c2 b5 zT63.1.symm
    · exact zSelPriv (hn 64 zT63.2.1) a0 c3 c4 b0 zT63.2.1.symm
    · exact zSelPriv (hn 64 zT63.2.1) a5 c3 c4 b5 zT63.2.1.symm
  · exact h w hw
/-- the static arrays -/
theorem zStat {args : Array Value} {s : State} (hg : zGv.before args s = true) (r : Nat) (hr : r < 4) : ∃ q : Nat × Cell, (Term.static (zSn r).1 (zSn r).2.1 (zSn r).2.2).eval args s none [] s = some (.ref q.1) ∧ s.heap[q.1]? = some q.2 ∧ s.isArrayOf q.2 (zSty r) ∧ q.2.vm ≠ .unknown ∧ 6 ≤ q.2.slots.size ∧ ∀ j : Nat, j < 6 → q.2.slots[j]? = some (zStV r j) := by
  have hf := flat_of_before _ hg
  obtain ⟨h1, h2⟩ := zGv_a r hr
  have hel : ∀ j : Nat, j < 6 → (Term.elem (.static (zSn r).1 (zSn r).2.1 (zSn r).2.2) (.int (Int32.ofNat j))).eval args s none [] s = some (zStV r j) := by
    intro j hj
    by_cases h3 : r < 3
    · unfold zStV
      rw [if_pos h3]
      exact va_eqt (hf _ (zGv_i r h3 j hj))
    · have e : r = 3 := by omega
      subst e
      unfold zStV
      rw [if_neg (by omega)]
      exact va_eqtl (hf _ (zGv_l j hj))
  obtain ⟨t, ht, cell, c1, c2, c3, c4, -, c6, -⟩ := va_Tof (N := 6) (f := zStV r) (A := fun q => s.heap.size ≤ q) (by decide) (hf _ h1) (va_eqt (hf _ h2)) hel (fun a ha q => absurd q (by omega))
  exact ⟨(t, cell), ht, c1, c2, c3, c4, c6⟩
theorem zArr {args : Array Value} {s : State} (ht : ∀ w ∈ zWt, w.before args s = true) (t : Nat) (h1 : 20 ≤ t) (h2 : t ≤ 26) : ∃ c : ClassId, ArrOfT s c (zEt t) ∧ va_RA s c (zEt t) := by
  have hA : ∀ ty : FieldType, (Cond.arrayClass ty).before args s = true → ∃ c : ClassId, ArrOfT s c ty ∧ s.vm.findClass ("[" ++ ty.toString) = some c := by
    intro ty h
    obtain ⟨c, k, comp, g1, g2, g3⟩ := Cond.arrayClass_spec h
    exact ⟨c, fun N z => ⟨(fun k h => by cases h), k, g2, comp, g3⟩, g1⟩
  have hO : ∀ ty : FieldType, (Cond.arrayOver (.array ty)).before args s = true → ∃ c : ClassId, ArrOfT s c (.array ty) ∧ s.vm.findClass ("[" ++ (FieldType.array ty).toString) = some c := by
    intro ty h
    obtain ⟨comp, c, k, g0, g1, g2, g3⟩ := Cond.arrayOver_specA h
    exact ⟨c, fun N z => ⟨(fun k h => by cases h), k, g1, comp, g2⟩, g3⟩
  rcases (by omega : t = 20 ∨ t = 21 ∨ t = 22 ∨ t = 23 ∨ t = 24 ∨ t = 25 ∨ t = 26) with rfl | rfl | rfl | rfl | rfl | rfl | rfl
  · exact hA .int (ht _ (by simp [zWt]))
  · exact hA .long (ht _ (by simp [zWt]))
  · exact hA .double (ht _ (by simp [zWt]))
  · exact hA .boolean (ht _ (by simp [zWt]))
  · exact hO .int (ht _ (by simp [zWt]))
  · exact hO .long (ht _ (by simp [zWt]))
  · obtain ⟨comp, c, k, g1, g2, g3, g4, g5⟩ := Cond.arrayOver_spec (ht (.arrayOver (.object (zCn 7))) (by simp [zWt]))
    exact ⟨c, fun N z => ⟨(fun k h => by cases h), k, g3, comp, g4⟩, k, comp, g3, g4, g1, g5⟩
/-- the heap of the beginning, as the abstract machine sees it -/
def zH0 (L : Nat) (xs : Nat → Int32) : zH := ((5, 0, fun r => [30, 30, 30, 31, 32].getD r 99, fun r => [6, 6, 6, 6, (L : Int)].getD r 0), fun r j => if r = 4 then .int (xs j.toNat) else zStV r j.toNat)
theorem zStart {args : Array Value} {s : State} {b L : Nat} {xs : Nat → Int32} (ht : ∀ w ∈ lw_tbl, w.before args s = true) (hg : zGv.before args s = true) (hX : va_X b L xs s s.heap) : ∃ G : zG, G.H0 = s.heap ∧ G.sa 4 = b ∧ zKn G s ∧ zRel G (zH0 L xs) s.heap := by
  have hw : ∀ w ∈ zWt, w.before args s = true := fun w hw => ht w (List.mem_append_right _ (zWt_at hw))
  have hz : ∀ w ∈ zGood, w.before args s = true := fun w hw => zT_ok ht w (List.mem_filter.mp hw).1
  have hf := flat_of_before _ hg
  obtain ⟨scr, x1, x2, x3, x4, x5⟩ := hX
  have hS : ∀ r, ∃ q : Nat × Cell, r < 5 → (r < 4 → (Term.static (zSn r).1 (zSn r).2.1 (zSn r).2.2).eval args s none [] s = some (.ref q.1) ∧ 6 ≤ q.2.slots.size ∧ ∀ j : Nat, j < 6 → q.2.slots[j]? = some (zStV r j)) ∧ s.heap[q.1]? = some q.2 ∧ s.isArrayOf q.2 (zSty r) ∧ q.2.vm ≠ .unknown ∧ (r = 4 → q = (b, scr)) := by
    intro r
    by_cases h4 : r < 4
    · obtain ⟨q, g1, g2, g3, g4, g5, g6⟩ := zStat hg r h4
      exact ⟨q, fun _ => ⟨fun _ => ⟨g1, g5, g6⟩, g2, g3, g4, fun e => absurd e (by omega)⟩⟩
    · refine ⟨(b, scr), fun h5 => ?_⟩
      have e : r = 4 := by omega
      subst e
      exact ⟨fun h => absurd h (by omega), x1, x2, x3, fun _ => rfl⟩
  obtain ⟨f, hS⟩ := Classical.skolem.mp hS
  have hC : ∀ t, ∃ q : ClassId × (Nat → Nat), t < 11 → t ≠ 6 → u_Kn s (zCn t) (zTx t) (zNf t) q.1 q.2 := by
    intro t
    by_cases h : t < 11 ∧ t ≠ 6
    · have hi : t ∈ zIs := by
        rcases (by omega : t = 0 ∨ t = 1 ∨ t = 2 ∨ t = 3 ∨ t = 4 ∨ t = 5 ∨ t = 7 ∨ t = 8 ∨ t = 9 ∨ t = 10) with rfl | rfl | rfl | rfl | rfl | rfl | rfl | rfl | rfl | rfl <;> decide
      obtain ⟨cC, iS, hk⟩ := u_known (n := zNf t) hz (zLay_in h.1) (hz _ (zIs_ok t hi))
      exact ⟨(cC, iS), fun _ _ => hk⟩
    · exact ⟨(default, fun _ => 0), fun a b => absurd ⟨a, b⟩ h⟩
  obtain ⟨g, hC⟩ := Classical.skolem.mp hC
  have hA : ∀ t, ∃ c : ClassId, 20 ≤ t → t ≤ 26 → ArrOfT s c (zEt t) ∧ va_RA s c (zEt t) := by
    intro t
    by_cases h : 20 ≤ t ∧ t ≤ 26
    · obtain ⟨c, hc⟩ := zArr hw t h.1 h.2
      exact ⟨c, fun _ _ => hc⟩
    · exact ⟨default, fun a b => absurd ⟨a, b⟩ h⟩
  obtain ⟨cA, hA⟩ := Classical.skolem.mp hA
  have hlt : ∀ r, r < 5 → (f r).1 < s.heap.size := fun r hr => (Array.getElem?_eq_some_iff.mp (hS r hr).2.1).1
  have hold : ∀ a : Nat, a < s.heap.size → ¬ (s.heap.size ≤ a) := fun a h q => absurd q (by omega)
  refine ⟨(s.heap, fun r => (f r).1, fun r => (f r).2, fun t => (g t).1, fun t => (g t).2, cA), rfl, by show (f 4).1 = b; rw [(hS 4 (by omega)).2.2.2.2 rfl], ⟨?_, hC, hA, ?_, ?_, ?_, ?_, ?_, ?_, ?_, ?_, ?_⟩, ?_⟩
  · exact fun r hr => ⟨hlt r hr, (hS r hr).2.1, (hS r hr).2.2.1, (hS r hr).2.2.2.1⟩
  · exact fun e he => va_Nw.of rfl (ht _ (List.mem_append_right _ (zPq_ok zISN_c e he)))
  · exact fun e he => va_Nw.of rfl (ht _ (List.mem_append_right _ (zPq_ok zIIN_c e he)))
  · exact fun e he => va_Nw.of rfl (ht _ (List.mem_append_right _ (zPq_ok zIDd_c e he)))
  · exact ⟨va_AOA.of (hw _ (by simp [zWt])), va_AOA.of (hw _ (by simp [zWt])), va_AO.of (hw _ (by simp [zWt]))⟩
  · intro n hn
    have h1 := ((hS n (by omega)).1 hn).1
    have h2 : (Cond.laysStatic (zSn n).1 (zSn n).2.1 (zSn n).2.2).before args s = true ∧ (Cond.initialized (zSn n).1).before args s = true := by
      rcases (by omega : n = 0 ∨ n = 1 ∨ n = 2 ∨ n = 3) with rfl | rfl | rfl | rfl
      · exact ⟨hw _ (by simp [zWt]), hw _ (by simp [zWt])⟩
      · exact ⟨hw _ (by simp [zWt]), hw (.initialized (zSn 0).1) (by simp [zWt])⟩
      · exact ⟨hw _ (by simp [zWt]), hw (.initialized (zSn 0).1) (by simp [zWt])⟩
      · exact ⟨hw _ (by simp [zWt]), hw _ (by simp [zWt])⟩
    exact va_Zof h2.1 h2.2 h1 hold
  · intro k hk hk2
    obtain ⟨a, -, -, -, h1, -⟩ := Cond.exactly_spec (hf _ (zGv_s k (by omega) hk))
    refine ⟨a, vk_R.of (A := args) ?_ h1⟩
    rcases (by omega : k = 1 ∨ k = 2 ∨ k = 3) with rfl | rfl | rfl
    · exact hw _ (by simp [zWt, zEtx])
    · exact hw _ (by simp [zWt, zEtx])
    · exact hw _ (by simp [zWt, zEtx])
  · refine ⟨vx_Zqof (hw _ (by simp [zWt])) (hw _ (by simp [zWt])) (hf _ zGv_t.1) hold, vx_Zqof (hw _ (by simp [zWt])) (hw _ (by simp [zWt])) (hf _ zGv_t.2) hold, fun n hn => ?_⟩
    unfold zXs at hn
    simp only [List.cons_append, List.nil_append, List.mem_cons, List.not_mem_nil, or_false] at hn
    rcases hn with rfl | rfl | rfl
    · exact va_Nw.of rfl (hw _ (by simp [zWt]))
    · exact va_Nw.of rfl (hw _ (by simp [zWt]))
    · exact va_Nw.of rfl (hw _ (by simp [zWt]))
  · exact fun a b a1 a2 b1 b2 hab => va_Nc.of (hf _ (zGv_nc a (by omega) b (by omega) ⟨a1, b1, hab⟩))
  · intro k hk hk2
    rcases (by omega : k = 1 ∨ k = 2 ∨ k = 3) with rfl | rfl | rfl
    · exact va_Nw.of rfl (hw _ (by simp [zWt]))
    · exact va_Nw.of rfl (hw _ (by simp [zWt]))
    · exact va_Nw.of rfl (hw _ (by simp [zWt]))
  · refine ⟨⟨Nat.le_refl _, rfl⟩, fun q _ => rfl, fun r hr => ?_, fun r h5 h6 => ?_, fun r hr => ?_⟩
    · have e := hS r hr
      by_cases h4 : r < 4
      · obtain ⟨-, e2, e3⟩ := e.1 h4
        have hl : (zH0 L xs).1.ln r = 6 := by
          rcases (by omega : r = 0 ∨ r = 1 ∨ r = 2 ∨ r = 3) with rfl | rfl | rfl | rfl <;> rfl
        refine ⟨?_, fun j j1 j2 => ?_, ?_, fun q => absurd q (by omega)⟩
        · rcases (by omega : r = 0 ∨ r = 1 ∨ r = 2 ∨ r = 3) with rfl | rfl | rfl | rfl <;> rfl
        · rw [hl] at j2
          show (f r).2.slots[j.toNat]? = some (zCv _ (if r = 4 then .int (xs j.toNat) else zStV r j.toNat))
          rw [if_neg (by omega), e3 j.toNat (by omega)]
          unfold zStV
          split <;> rfl
        · rw [hl]
          show (6 : Int) ≤ ((f r).2.slots.size : Int)
          omega
      · have e4 : r = 4 := by omega
        subst e4
        have e5 := e.2.2.2.2 rfl
        have hl : (zH0 L xs).1.ln 4 = (L : Int) := rfl
        refine ⟨rfl, fun j j1 j2 => ?_, ?_, fun _ => ?_⟩
        · rw [hl] at j2
          show (f 4).2.slots[j.toNat]? = some (zCv _ (if (4 : Nat) = 4 then .int (xs j.toNat) else zStV 4 j.toNat))
          rw [e5, if_pos rfl]
          exact x5 j.toNat (by omega)
        · rw [hl]
          show (L : Int) ≤ ((f 4).2.slots.size : Int)
          rw [e5]
          show (L : Int) ≤ (scr.slots.size : Int)
          omega
        · rw [hl]
          show (L : Int) = ((f 4).2.slots.size : Int)
          rw [e5]
          show (L : Int) = (scr.slots.size : Int)
          omega
    · have h6 : r < 5 := h6
      omega
    · have hr : 5 ≤ r := hr
      show [30, 30, 30, 31, 32].getD r 99 = 99
      rw [List.getD_eq_getElem?_getD, List.getElem?_eq_none (by simpa using hr)]
      rfl
