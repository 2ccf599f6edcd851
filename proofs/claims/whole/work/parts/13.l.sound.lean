/-! THE CLAIM OUT OF ONE WALK OF THE LAW'S BODY. Your part is whole_start (and what it stands on); all else here is the same for every law, but numbers. -/
def R_law : String := "ServiceBudgetsLaw"
def lw_P (b : Addr) (xs : List Int32) (args : Array Value) (s : State) : Prop := args = #[.ref b] ∧ s.IntsAt b xs ∧ xs.length ≤ 3072 ∧ (Jvm.Cond.and given_1 narrow_1).before args s = true
/-- what a walk over the start with the record d0 says of its end, said of the start itself -/
theorem lw_closed {s t : State} {o : Outcome} {d0 : Drawn} {L : List Loc} {k n : Nat} (hd0 : s.drawn.sameBut d0 lw_cs) (hv : ∃ v, o = .returned v) (hW : (s.setDrawn d0).WarmedH t.vm) (hs : (s.setDrawn d0).sameButNew ({ t with vm := s.vm } : State) L k n) : State.butDraws s t lw_cs (fun t1 => Framed s o t1 L k n) := by
  have h2 : t.drawn = d0 := congrArg State.drawn hs.1
  refine ⟨⟨hv, hW, State.sameButNew.setDrawn hs s.drawn⟩, ?_, by decide⟩
  rw [h2]
  exact hd0
def lw_Q (_ : Array Value) (s : State) (o : Outcome) (t : State) : Prop := o = .returned (some (.int 1)) ∧ State.butDraws s t lw_cs (fun t1 => Framed s o t1 [] 97994 8802124)
def lw_Z (below : List Frame) (a : Array Value) (s : State) : State → Prop := fun t => ∃ o, t.status = .running ∧ Ended t below o ∧ lw_Q a s o t
/-- the law's own end, with 1 on the stack, nothing written that was there before, its room as the claim has it; d0: the record of draws at this point (at the entry s.drawn: begin with 'refine W.base ?_' and 'have hd0 := Drawn.sameBut.refl s.drawn lw_cs') -/
theorem lw_ret {p : Program} {l : Launch} {e : Env} {s : State} {m : MethodId} {below : List Frame} {meth : Method} {c : Code} {b : Nat} {d0 : Drawn} (hd0 : s.drawn.sameBut d0 lw_cs) (hx : p.tables.exec = Jvm.exec) (hb : c.code = code) (hr : meth.sig.returnType = ret) (hlocks : meth.locks = false) {pc : Nat} {H : Heap} {ls : Array Slot} (hdg : decode code pc = .ok (.ireturn, 1)) : W p l e room_1 (s.setDrawn d0) m #[Value.ref b] below meth c H [] 97994 8802124 (lw_Z below #[Value.ref b] s) (F0 m pc ls [.int 1]) := by
  intro T hT X
  obtain ⟨fs, hret, hrun, hended, hW, hframe⟩ := X.leave (v := some (.int 1)) (hlocks := hlocks) (fun h => by rw [hr] at h; cases h)
  have hmeth' : T.vm.method? m = some meth := X.method'
  refine ⟨T.setFrames fs, ?_, .returned (some (.int 1)), hrun, hended, rfl, lw_closed hd0 ⟨_, rfl⟩ hW hframe⟩
  jvm_step X.here [X.here.top, hx, hb, hdg, hmeth', hr, ret, narrow_b1]
  (try refine ⟨rfl, ?_⟩); (try refine ⟨rfl, ?_⟩)
  first | (intro acts; rw [hret _ acts rfl rfl rfl]) | rw [hret _ _ rfl rfl rfl]
  exact Steps.refl _
/-- what holds at the law's entry: the machine, the code, the tables' words (any of lw_tbl by 'hts w (by decide +kernel)'), the script of L ints xs at the cell b, what the Statement gives of the start (any of its parts by flat_of_before) -/
def lw_At (p : Program) (s : State) (m : MethodId) (meth : Method) (c : Code) (b L : Nat) (xs : Nat → Int32) : Prop :=
  p.tables.exec = Jvm.exec ∧ c.code = code ∧ meth.sig.returnType = ret ∧ c.maxLocals = 7 ∧ s.vm.findClass R_law = some m.cls ∧ (∀ w ∈ lw_tbl, w.before #[Value.ref b] s = true) ∧ va_X b L xs s s.heap ∧ b < s.heap.size ∧ meth.locks = false ∧ (Jvm.Cond.and given_1 narrow_1).before #[Value.ref b] s = true
/-- the law's walk out of the abstract machine's -/
theorem zLaw_is : zCd zLaw = code ∧ zRt zLaw = ret ∧ zMl zLaw = 7 ∧ zCn (zOw zLaw) = R_law ∧ zHh zLaw = [] ∧ zLaw < 307 ∧ zLaw ≠ zRef ∧ zKd zLaw ≠ 1 ∧ zNa zLaw = 1 := ⟨rfl, rfl, rfl, rfl, rfl, by decide, by decide, by decide, rfl⟩
def zLawQ (o : zO) (h : zH) : Prop := o = .inl (some (.int 1)) ∧ h.1.sz ≤ 97999 ∧ h.1.sl ≤ 8802124
theorem z_whole {p : Program} {e : Env} {s : State} {m : MethodId} {below : List Frame} {meth : Method} {c : Code} (l : Launch) (hflags : l.flags = flags0) {b L : Nat} {xs : Nat → Int32} (hLaw : zwp (zcall 1000) zLaw zLawQ (zB zLaw 0) (.ref 4 :: List.replicate 6 zJ) [] (zH0 L xs)) (C0 : lw_At p s m meth c b L xs) (hex : c.exceptionTable.isEmpty = true) :
    W p l e room_1 s m #[Value.ref b] below meth c s.heap [] 0 0 (lw_Z below #[Value.ref b] s) (entryFrame m ([Value.ref b] : List Value).toArray 7) := by
  obtain ⟨k1, k2, k3, k4, k5, k6, k7, k8, k9, k10⟩ := C0
  obtain ⟨G, g1, g2, g3, g4⟩ := zStart k6 k10 k7
  obtain ⟨o, h', a1, rfl, a3, a4⟩ := zwp_res (zcall_mono _) (zcall_res _) hLaw
  obtain ⟨w1, w2, w3, w4, w5, w6, w7, w8, w9⟩ := zLaw_is
  have hl : l.stackTraces = false := by
    unfold Launch.stackTraces
    rw [hflags]
    decide
  have C : zCtx G zLaw p s m #[Value.ref b] meth c := ⟨k1, k2.trans w1.symm, k3.trans w2.symm, k4.trans w3.symm, by rw [w4]; exact k5, fun w hw => zT_ok k6 w (List.mem_filter.mp hw).1, k9, fun q => absurd q w8, g3, by rw [Array.isEmpty_iff.mp hex, w5]; rfl⟩
  obtain ⟨ls, e1, hL⟩ := zEnt (G := G) [.ref 4] (zMl zLaw) rfl (by rw [w3]; decide) m
  have e2 : (([.ref 4] : List Value).map (zCv G)).toArray = #[Value.ref b] := by
    show #[Value.ref (zAdr G 4)] = _
    rw [show zAdr G 4 = b from g2]
  have hb := (z_body (h0 := zH0 L xs) (e := e) (below := below) (R := room_1) (FQ := lw_Z below #[Value.ref b] s) (z_all hl 1000) C w6 w7 (by decide) (by decide) (c1 := h'.1.sz) (s1 := h'.1.sl) (fun o2 h2 q => by rw [q.2]; exact ⟨rfl, rfl⟩)
    ⟨by show h'.1.sz - 5 ≤ 97994; omega, by show h'.1.sl - 0 ≤ 8802124; omega⟩ (fun i r L2 st h hE => ?_) (fun k h2 L2 _ q => by cases q.1) a1).2
  · have hck := zChk_ok w6 w7 0
    rw [zPc_0 zLaw w6] at hck
    have := hb 0 hck s.heap [] ls g4 (by rw [w3] at hL ⊢; exact hL) (fun _ h => nomatch h) (Nat.le_refl _) (Nat.le_refl _)
    rw [Nat.sub_self, Nat.sub_self] at this
    rw [e2, w3] at e1
    rw [show ([Value.ref b] : List Value).toArray = #[Value.ref b] from rfl, e1]
    exact this
  · intro pc hc H locs ls2 hR hL2 hlo q1 q2
    unfold zIsEnd at hE
    split at hE
    · exact absurd hE.2.2.1 (by intro q; cases q)
    · obtain ⟨x, rfl, -, hq, rfl⟩ := hE
      obtain ⟨hd, -⟩ := zChk_1 (fun _ h => by cases h) rfl hc
      rw [w1] at hd
      have hx : x = 1 := by
        have := Sum.inl.inj hq
        exact (Value.int.inj (Option.some.inj this))
      subst hx
      exact va_forget (fun q hq => by rw [← g1]; exact hlo q hq) (W.widen (k := 97994) (n := 8802124) (by show h.1.sz - 5 ≤ 97994; omega) (by show h.1.sl - 0 ≤ 8802124; omega) (W.base (lw_ret (d0 := s.drawn) (Drawn.sameBut.refl s.drawn lw_cs) k1 k2 k3 k9 hd)))
    · obtain ⟨-, x, -, hq, -⟩ := hE
      cases hq
    · obtain ⟨-, x, -, hq, -⟩ := hE
      cases hq
    · exact hE.elim
