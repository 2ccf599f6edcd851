/-! SOUNDNESS, 6: a method's contract, calls -/
def zRm (d c n : Nat) : Room := { frames := d, cells := c, slots := n, locals := 64 * d }
def zPcd (G : zG) (as : List Value) (h : zH) : Array Value → State → Prop := fun a U => a = (as.map (zCv G)).toArray ∧ zRel G h U.heap ∧ zKn G U
def zQcd (G : zG) (o : zO) (h' : zH) : Array Value → State → Outcome → State → Prop := fun _ _ oc t => ∃ v, o = .inl v ∧ oc = .returned (v.map (zCv G)) ∧ zRel G h' t.heap
def zXcd (G : zG) (o : zO) (h' : zH) : String → State → State → Prop := fun E _ t => ∃ k, o = .inr k ∧ E = zEn k ∧ zRel G h' t.heap
/-- what a call of m on these arguments and this heap does, over the machine -/
def zCon (G : zG) (l : Launch) (d m : Nat) (as : List Value) (h : zH) (o : zO) (h' : zH) : Prop :=
  h.1.sz ≤ h'.1.sz ∧ h.1.sl ≤ h'.1.sl ∧ vx_Met l (zYn m) (zWs m) (zRm d (h'.1.sz - h.1.sz) (h'.1.sl - h.1.sl)) (zPcd G as h) (zQcd G o h') (zXcd G o h') (h'.1.sz - h.1.sz) (h'.1.sl - h.1.sl) (zOld G)
theorem zPcd_blind {G : zG} {as : List Value} {h : zH} : FrameBlind (zPcd G as h) := fun a U g mk q => ⟨q.1, q.2.1, zKn.warm (s := U) (U := U.calling g mk a) (State.WarmedH.refl U) q.2.2⟩
theorem zCon.met {G : zG} {l : Launch} {d m : Nat} {as : List Value} {h h' : zH} {v : Option Value} (hc : zCon G l d m as h (.inl v) h') : Met l (zYn m) (zWs m) (zRm d (h'.1.sz - h.1.sz) (h'.1.sl - h.1.sl)) (zPcd G as h) (zQcd G (.inl v) h') (h'.1.sz - h.1.sz) (h'.1.sl - h.1.sl) (zOld G) := by
  intro p e ha hca hk s m1 args below hf happ hP hK
  obtain ⟨n, o, h1, h2, h3, hq⟩ := hc.2.2 p e ha hca hk s m1 args below hf happ hP hK
  refine ⟨n, o, h1, h2, h3, ?_⟩
  rcases hq with hq | ⟨q, -, E, ce, L, ⟨k, e1, -⟩, -⟩
  · exact hq
  · cases e1
section
variable {G : zG} {m0 d : Nat} {p : Program} {l : Launch} {e : Env} {R : Room} {s : State} {mm : MethodId} {args : Array Value} {below : List Frame} {meth : Method} {cd : Code} {FQ : State → Prop} {h0 : zH} {r : List Instr} {L st : List Value} {h : zH}
theorem zCtx.ws (C : zCtx G m0 p s mm args meth cd) {y : Nat} (hy : y ∈ zMc) : ∀ w ∈ zWs y, ∀ (a' : Array Value) (U : State), s.WarmedH U.vm → w.before a' U = true := by
  intro w hw a' U hW
  have hg : w ∈ zGood := by
    rcases List.mem_cons.mp hw with rfl | hw
    · exact zMc_ok y hy
    · exact hw
  exact word_at hW (good_of_word (List.mem_filter.mp hg).2) (C.ts w hg)
theorem zCw_code {y : Nat} (h : zHh y = []) : zCw y = .code (zYn y) (zCd y) (zMl y) (zRt y) := if_pos h
theorem zCw_with {y : Nat} (h : zHh y ≠ []) : zCw y = .codeWith (zYn y) (zCd y) (zMl y) (zRt y) (zHh y) := if_neg h
theorem zcat_le : ∀ l : List Value, (l.map fun v => v.category).sum ≤ 2 * l.length
  | [] => Nat.le_refl 0
  | v :: l => by
    have h1 := zcat_le l
    have h2 : v.category ≤ 2 := by cases v <;> first | exact Nat.le_refl 2 | exact Nat.le_succ 1
    simp only [List.map_cons, List.sum_cons, List.length_cons]
    omega
theorem z_runSU {x y : MethodName} {bytes cc : ByteArray} {maxL nL mc ms n index : Nat} {ret : Option FieldType} {ws : List Cond} {rm : Room} {Pc : Array Value → State → Prop} {Qc : Array Value → State → Outcome → State → Prop} {free : Addr → Prop} {Ts : List Cond} {own owner : String} {As rest : List Value} {g : JFrame} {H : Heap} {locs : List Loc} {cells slots : Nat}
    (S : CallFix p mm cd cc nL s args Ts own) (hM : Met l y ws rm Pc Qc mc ms free) (hy : y = ⟨owner, x.name, x.desc⟩) (hb0 : rm.cells = mc ∧ rm.slots = ms ∧ rm.frames + 1 ≤ R.frames ∧ 8 + (maxL + 11) + rm.locals ≤ R.locals ∧ (∀ w ∈ ws, ∀ (a' : Array Value) (U : State), s.WarmedH U.vm → w.before a' U = true) ∧ Cond.code y bytes maxL ret ∈ ws)
    (hcode : (Cond.code y bytes maxL ret).before args s = true) (hini : (Cond.initialized y.cls).before args s = true) (howner : owner ≠ "java/lang/invoke/MethodHandle" ∧ owner ≠ "java/lang/invoke/VarHandle") (hlen : ∀ sig, parseMethodDescriptor y.desc = some sig → n = sig.parameters.length) (hlink : (Cond.methodLink own index x).before args s = true) (hsame : (Cond.sameMethod x.cls owner x.name x.desc).before args s = true) (hstat : (Cond.static y).before args s = true) (hp : PreS s H Pc As)
    (hg : g.method = mm) (hn : As.length = n) (hsize : g.locals.size = nL) (hstack : g.stack = As.reverse ++ rest) (hW : 2 * g.monitorRoom + (rest.map fun v => v.category).sum ≤ 8) (hdg : decode cc g.pc = .ok (.invokestatic index, 3)) (hf : cells + mc ≤ R.cells ∧ slots + ms ≤ R.slots) :
    va_Run p l e R s mm args below meth cd H locs cells slots mc ms g rest (Qc As.toArray) (free) := by
  obtain ⟨hrc, hrs, hfr, hlo, hws, hcw⟩ := hb0
  have hK : Back l R p e below s args y 3 8 (PreOf R mc ms Pc) (PostOf Qc mc ms free) := back_of (bytes := bytes) (maxL := maxL) (ret := ret) hM hp.1 hrc hrs hfr hlo hws hcw (fun a' U hW => word_at hW (Or.inl (by first | rfl | simp [Cond.onTables, Cond.keeps, Cond.steady])) hini)
  obtain ⟨hx, hb, hml, ho, -⟩ := S
  intro T hT X
  obtain ⟨mk, hnamed⟩ := Cond.code_named hcode
  obtain ⟨methM, cM, hmethM, -, -, -, -, -, -, hsigM⟩ := Cond.code_spec hnamed hcode
  have hstatic : methM.isStatic = true := Cond.static_spec hnamed hmethM hstat
  obtain ⟨kP, hkP, -⟩ := className_of_methodNamed hnamed
  have hinitP : kP.init = .initialized := Cond.initialized_spec (findClass_of_methodNamed hnamed) hkP hini
  obtain ⟨vm₁, X₁, hstep₁⟩ := X.invokestaticUp hx ho hlink hsame howner (by rw [← hy]; exact hnamed) hmethM hstatic hkP hinitP (g := g) hg (argsL := As) (rest := rest) (hn.trans (hlen _ hsigM)) hstack (by rw [hb]; exact hdg)
  obtain ⟨v, ⟨U', l2, c2, s2⟩, X', ⟨g', mk', t, L, e1, e2, hq, h1, hL, h2, h3⟩, hsteps⟩ := hK mm meth cd ⟨T.setVm vm₁, locs, cells, slots⟩ { g with stack := rest } (.invokestatic index) mk As.toArray X₁ hg (hsize.trans hml.symm) (by rw [hb]; exact hdg) hW (X₁.named hnamed) ⟨hf.1, hf.2, hp.2 (T.setVm vm₁) hT X₁.warmed⟩
  dsimp only [Pt.U, Pt.locs, Pt.cells, Pt.slots] at X' e1 e2 h1 h2 h3 hsteps
  subst h1; subst h2; subst h3
  exact ⟨v, (T.setVm vm₁).calling g' mk' As.toArray, t, U', L, hT, X', hL, e1, e2, hq, fun target h => hstep₁ _ fun acts => by rw [doInvoke_state]; exact hsteps.trans h⟩
theorem z_ofva {H : Heap} {locs : List Loc} {cells slots mc ms : Nat} {g : JFrame} {rest : List Value} {Qa : State → Outcome → State → Prop} {XC : String → State → State → Prop} {free : Addr → Prop} (h : va_Run p l e R s mm args below meth cd H locs cells slots mc ms g rest Qa free) : vx_Run p l e R s mm args below meth cd H locs cells slots mc ms g rest Qa XC free := fun T hT X => Or.inl (h T hT X)
/-- behind a call, with what its contract says -/
theorem z_go {H : Heap} {locs : List Loc} {cells slots mc ms pc : Nat} {ls : Array Slot} {stk rest : List Value} {A : Array Value} {o : zO} {h' : zH} (hlo : ∀ q ∈ locs, G.base ≤ q.base)
    (hr : vx_Run p l e R s mm args below meth cd H locs cells slots mc ms (F0 mm pc ls stk) rest (zQcd G o h' A) (zXcd G o h') (zOld G))
    (kr : ∀ v, o = .inl v → ∀ (H1 : Heap) (locs1 : List Loc), zRel G h' H1 → (∀ q ∈ locs1, G.base ≤ q.base) → W p l e R s mm args below meth cd H1 locs1 (cells + mc) (slots + ms) FQ (F0 mm (pc + 3) ls ((v.map (zCv G)).toList ++ rest)))
    (kx : ∀ k, o = .inr k → ∀ (H1 : Heap) (locs1 : List Loc) (q : Addr) (ce : Cell), zRel G h' H1 → (∀ q ∈ locs1, G.base ≤ q.base) → H1[q]? = some ce → ce.vm = .none → s.vm.findClass (zEn k) = some ce.cls → vx_W p l e R s mm args below meth cd H1 locs1 (cells + mc) (slots + ms) FQ (F0 mm pc ls rest) q) : W p l e R s mm args below meth cd H locs cells slots FQ (F0 mm pc ls stk) := by
  intro T hT X
  have app : ∀ L : List Loc, (∀ q ∈ L, zOld G q.base) → ∀ q ∈ locs ++ L, G.base ≤ q.base := fun L hL q hq => by
    rcases List.mem_append.mp hq with h | h
    · exact hlo q h
    · exact hL q h
  rcases hr T hT X with ⟨v, st0, t, T', L, e0, X', hL, e1, e2, ⟨v', f1, f2, f3⟩, go⟩ | ⟨q, st0, t, T', L, E, ce, e0, X', hL, e1, e2, ⟨k, f1, f2, f3⟩, hce, hcv, hcl, st9⟩
  · have ev : v = v'.map (zCv G) := Outcome.returned.inj f2
    rw [ev] at go
    obtain ⟨t9, t1, t2⟩ := kr v' f1 T'.heap _ (by rw [e1]; exact f3) (app L hL) T' rfl X'
    exact ⟨t9, go t9 t1, t2⟩
  · subst f2
    obtain ⟨t9, t1, t2⟩ := kx k f1 T'.heap _ q ce (by rw [e1]; exact f3) (app L hL) (by rw [e1]; exact hce) hcv hcl T' rfl X'
    exact ⟨t9, st9.trans t1, t2⟩
theorem zRc_0 {y : Nat} {as : List Value} {S : zS} (h : zRc y as S = true) : zOk y = true ∧ zRc0 y as S = true := by
  unfold zRc at h
  simpa using h
theorem zRc_ref {y t : Nat} {as : List Value} {S : zS} (h : zRc y as S = true) (ht : zRcT.getD y 99 = t) (h9 : t ≠ 99) : ∃ a as', as = .ref a :: as' ∧ (t = 6 → S.tg a = 0 ∨ S.tg a = 5) ∧ (t ≠ 6 → S.tg a = t) := by
  replace h := (zRc_0 h).2
  unfold zRc0 at h
  split at h
  · rename_i a as'
    refine ⟨a, as', rfl, ?_⟩
    rw [ht, if_neg h9] at h
    by_cases c : t = 6
    · rw [if_pos c] at h
      simp only [Bool.or_eq_true, beq_iff_eq] at h
      exact ⟨fun _ => h, fun q => absurd c q⟩
    · rw [if_neg c] at h
      simp only [beq_iff_eq] at h
      exact ⟨fun q => absurd q c, fun _ => h⟩
  · rw [ht] at h
    simp only [Bool.and_eq_true, beq_iff_eq] at h
    exact absurd h.1 h9
theorem zcall_at {d y : Nat} {as : List Value} {h : zH} {K : zO → zH → Prop} (hc : zcall d y as h K) (hy : y ≠ zRef) : as.length = zNa y ∧ zRc y as h.1 = true := by
  cases d with
  | zero => exact hc.elim
  | succ d =>
    have hc : (if y = zRef then 5 ≤ d ∧ zRefuse as h K else if as.length = zNa y ∧ zRc y as h.1 = true then zwp (zcall d) y K (zB y 0) (as ++ List.replicate (zMl y - as.length) zJ) [] h else False) := hc
    rw [if_neg hy] at hc
    by_cases c : as.length = zNa y ∧ zRc y as h.1 = true
    · exact c
    · rw [if_neg c] at hc
      exact hc.elim
theorem zcall_ref {d : Nat} {as : List Value} {h : zH} {K : zO → zH → Prop} (hc : zcall d zRef as h K) : ∃ x, as = [.int x] := by
  cases d with
  | zero => exact hc.elim
  | succ d =>
    have hc : 5 ≤ d ∧ zRefuse as h K := hc
    have hc := hc.2
    unfold zRefuse at hc
    split at hc
    · exact ⟨_, rfl⟩
    · exact hc.elim
/-- the receiver's cell -/
theorem zRel.recv {H : Heap} (C : zCtx G m0 p s mm args meth cd) (hR : zRel G h H) {a t : Nat} (ht : h.1.tg a = t) (h1 : t < 11) (h6 : t ≠ 6) : ∃ cellB : Cell, H[zAdr G a]? = some cellB ∧ cellB.vm.isStatics = false ∧ s.vm.findClass (zCn t) = some cellB.cls := by
  obtain ⟨cell, c1, c2, c3, -⟩ := (hR.cell ht (by omega)).2.2.1 h1
  exact ⟨cell, c1, by rw [c3]; rfl, by rw [c2]; exact (C.kn.2.1 t h1 h6).2.1⟩
theorem zDesc_n {y n : Nat} (hy : y < 307) (hn : n = if zKd y = 0 then zNa y else zNa y - 1) : ∀ sig, parseMethodDescriptor (zYn y).desc = some sig → n = sig.parameters.length := by
  intro sig hs
  have h := zDesc y hy
  rw [hs] at h
  rw [hn]
  exact (Option.some.inj h).symm
theorem zctor_ref {d y : Nat} {as : List Value} {h : zH} {K : zO → zH → Prop} (hk : zKd y = 1) (hy : y ≠ zRef) (hc : zcall d y as h K) : ∃ a as', as = .ref a :: as' := by
  have h1 := (zRc_0 (zcall_at hc hy).2).2
  unfold zRc0 at h1
  split at h1
  · exact ⟨_, _, rfl⟩
  · rw [hk] at h1
    simp at h1
theorem zC1_rev {as : List Value} (h : zC1 as = true) : zC1 as.reverse = true := by
  unfold zC1 at h ⊢
  rw [List.all_reverse]
  exact h
def zIH (G : zG) (l : Launch) (d : Nat) : Prop := ∀ y as h o h', zC1 as = true → zcall d y as h (fun o2 h2 => o2 = o ∧ h2 = h') → zCon G l d y as h o h'
/-- what a thrown exception meets behind a call at pc -/
def zTX (G : zG) (m0 : Nat) (p : Program) (l : Launch) (e : Env) (R : Room) (s : State) (mm : MethodId) (args : Array Value) (below : List Frame) (meth : Method) (cd : Code) (FQ : State → Prop) (h0 : zH) (L : List Value) (k : Nat) (h' : zH) : Prop :=
  ∀ (pc : Nat) (H : Heap) (locs : List Loc) (ls : Array Slot) (rest : List Value) (q : Addr) (ce : Cell), ((zHh m0).all (fun x => decide (x.1 ≤ pc) && decide (pc < x.2.1)) = true) → zRel G h' H → zLR G ls (zMl m0) L → (∀ q ∈ locs, G.base ≤ q.base) → h0.1.sz ≤ h'.1.sz → h0.1.sl ≤ h'.1.sl → H[q]? = some ce → ce.vm = .none → s.vm.findClass (zEn k) = some ce.cls → vx_W p l e R s mm args below meth cd H locs (h'.1.sz - h0.1.sz) (h'.1.sl - h0.1.sl) FQ (F0 mm pc ls rest) q
theorem zs_inv (IH : zIH G l d) (C : zCtx G m0 p s mm args meth cd) (hR1 : d + 1 ≤ R.frames) (hR2 : 64 * (d + 1) ≤ R.locals) {y n : Nat} (hn1 : n ≤ st.length ∧ zC1 (st.take n) = true) (hn2 : st.length ≤ n + 4) {o : zO} {h' : zH} (hcl : zcall d y (st.take n).reverse h (fun o2 h2 => o2 = o ∧ h2 = h')) (hcap : h'.1.sz - h0.1.sz ≤ R.cells ∧ h'.1.sl - h0.1.sl ≤ R.slots)
    (kr : ∀ v, o = .inl v → zXW G m0 p l e R s mm args below meth cd FQ h0 r L (v.toList ++ st.drop n) h') (kx : ∀ k, o = .inr k → zAl m0 y = true ∧ zTX G m0 p l e R s mm args below meth cd FQ h0 L k h') : zXW G m0 p l e R s mm args below meth cd FQ h0 (.invokeinterface y n :: r) L st h := by
  intro pc hc H locs ls hR hL hlo q1 q2
  have hcov := zChk_cov (fun _ h => by cases h) hc
  obtain ⟨q, hq, hd, hc⟩ := zChk_c (fun _ h => by cases h) hc
  obtain ⟨hny, hq⟩ := zif_m hq
  obtain ⟨en, hy5⟩ := hny
  obtain ⟨hn1, hc1⟩ := hn1
  obtain ⟨z1, z2, hM⟩ := IH _ _ _ _ _ (zC1_rev hc1) hcl
  generalize has : (st.take n).reverse = as at hcl hM
  generalize hrs : st.drop n = rest at kr
  have hst : st = as.reverse ++ rest := by rw [← has, ← hrs, List.reverse_reverse, List.take_append_drop]
  have hlen : as.length = n := by rw [← has, List.length_reverse, List.length_take]; omega
  have hrl : rest.length ≤ 4 := by rw [← hrs, List.length_drop]; omega
  have hmap : st.map (zCv G) = (as.map (zCv G)).reverse ++ rest.map (zCv G) := by rw [hst, List.map_append, List.map_reverse]
  have hcat : 2 * (F0 mm pc ls (st.map (zCv G))).monitorRoom + ((rest.map (zCv G)).map fun v => v.category).sum ≤ 8 := by
    have := zcat_le (rest.map (zCv G))
    rw [List.length_map] at this
    show 2 * 0 + _ ≤ _
    omega
  have hf : h.1.sz - h0.1.sz + (h'.1.sz - h.1.sz) ≤ R.cells ∧ h.1.sl - h0.1.sl + (h'.1.sl - h.1.sl) ≤ R.slots := by omega
  have S9 : CallFix p mm cd (zCd m0) (zMl m0) s args zGood (zCn (zOw m0)) := ⟨C.x, C.b, C.ml, C.own, C.ts⟩
  have hsz : (F0 mm pc ls (st.map (zCv G))).locals.size = zMl m0 := hL.2.1
  have c1 : h.1.sz - h0.1.sz + (h'.1.sz - h.1.sz) = h'.1.sz - h0.1.sz := by omega
  have c2 : h.1.sl - h0.1.sl + (h'.1.sl - h.1.sl) = h'.1.sl - h0.1.sl := by omega
  have hml20 : zMl y ≤ 20 := (zNames y hy5).2.2.2.2
  have hroom : 8 + (zMl y + 11) + 64 * d ≤ R.locals := by omega
  have hpre : ∀ U : State, U.heap = H → s.WarmedH U.vm → zPcd G as h (as.map (zCv G)).toArray U := fun U hU hW => ⟨rfl, by rw [hU]; exact hR, C.kn.warm hW⟩
  have hgo : ∀ A, vx_Run p l e R s mm args below meth cd H locs (h.1.sz - h0.1.sz) (h.1.sl - h0.1.sl) (h'.1.sz - h.1.sz) (h'.1.sl - h.1.sl) (F0 mm pc ls (st.map (zCv G))) (rest.map (zCv G)) (zQcd G o h' A) (zXcd G o h') (zOld G) → q.2 = 3 → W p l e R s mm args below meth cd H locs (h.1.sz - h0.1.sz) (h.1.sl - h0.1.sl) FQ (F0 mm pc ls (st.map (zCv G))) := by
    intro A hr hq3
    rw [hq3] at hc
    refine z_go hlo hr (fun v ev H1 locs1 hR1 hlo1 => ?_) (fun k ek H1 locs1 q9 ce hR1 hlo1 hce hcv hcl9 => ?_)
    · rw [c1, c2]
      have := kr v ev _ hc H1 locs1 ls hR1 hL hlo1 (by omega) (by omega)
      rw [List.map_append] at this
      cases v <;> exact this
    · rw [c1, c2]
      obtain ⟨ka, kt⟩ := kx k ek
      have hcv2 : (zHh m0).all (fun x => decide (x.1 ≤ pc) && decide (pc < x.2.1)) = true := by
        have hcov : (!(zAl m0 y) || (zHh m0).all (fun x => decide (x.1 ≤ pc) && decide (pc < x.2.1))) = true := hcov
        rw [ka] at hcov
        exact hcov
      exact kt pc H1 locs1 ls (rest.map (zCv G)) q9 ce hcv2 hR1 hL hlo1 (by omega) (by omega) hce hcv hcl9
  obtain ⟨nm1, nm2, nm3, nm4, nm5⟩ := zNames y hy5
  have noX : (y ≠ zRef) → (zOw y ≠ 9 ∨ zKd y ≠ 2) → ∃ v, o = .inl v := by
    intro g1 g2
    match o, kx with
    | .inl v, _ => exact ⟨v, rfl⟩
    | .inr k, kx =>
      have ka := (kx k rfl).1
      unfold zAl at ka
      simp only [Bool.or_eq_true, Bool.and_eq_true, beq_iff_eq] at ka
      rcases ka with ka | ka
      · exact absurd ka g1
      · exact absurd ka.1.2 (fun q => g2.elim (fun g => g ka.1.1) (fun g => g q))
  rcases List.mem_append.mp hq with hq | hq
  · -- virtual
    obtain ⟨b, hb, hp, rfl⟩ := zPk_m hq
    simp only [Bool.and_eq_true, beq_iff_eq] at hp
    obtain ⟨f1, f2, f3, f4, f5, f6, f7, f8, f9, f10⟩ := zIV_f b hb
    have hsel := zMsel b hb
    have hw := C.ts _ (zIV_ok b hb)
    dsimp only at hw
    rw [hp.1, hp.2] at hw
    rw [hp.2] at f2 f3 f4 f5 f6 f7 f8 f9 f10 hsel
    obtain ⟨a1, a2⟩ := zcall_at hcl f10
    obtain ⟨a, as', ea, -, ht⟩ := zRc_ref a2 f7 (by omega)
    have ht := ht f9
    have hS : (Cond.selects (zCn (zOw y)) (zYn y) (zYn y)).before args s = true := by
      rw [← nm1]
      rcases hsel with q | q
      · exact C.ts _ (zMv_ok y q)
      · exact C.ts _ (zMw_ok y q)
    have hcw : CallW R s args (zCn (zOw m0)) (zCn (zOw y)) b.2.1 (zYn y) (zCd y) (zMl y) (zRt y) (zWs y) (zRm d (h'.1.sz - h.1.sz) (h'.1.sl - h.1.sl)) (h'.1.sz - h.1.sz) (h'.1.sl - h.1.sl) as'.length :=
      ⟨⟨rfl, rfl, hR1, hroom, C.ws f2, by unfold zWs; rw [zCw_code f5]; exact List.mem_cons_self, by rw [← zCw_code f5]; exact C.ts _ (zMc_ok y f2), C.ts _ (zMi_ok y f3), ⟨nm2, nm3⟩, zDesc_n hy5 (by rw [if_neg (by omega), ← a1, ea]; rfl), hw⟩, C.ts _ (zMn_ok y f4), hS⟩
    subst ea
    have hM2 : PreV s H (zCn (zOw y)) (zAdr G a) (zPcd G (.ref a :: as') h) (as'.map (zCv G)) := ⟨zPcd_blind, hR.recv C ht f8 f9, hpre⟩
    exact hgo _ (vx_runV S9 hM hcw hM2 rfl (by rw [List.length_map]) hsz (by rw [show (F0 mm pc ls (st.map (zCv G))).stack = st.map (zCv G) from rfl, hmap, List.map_cons, List.reverse_cons, List.append_assoc]; rfl) hcat hd hf) rfl
  rcases List.mem_append.mp hq with hq | hq
  · -- inherited
    obtain ⟨b, hb, hp, rfl⟩ := zPk_m hq
    simp only [Bool.and_eq_true, beq_iff_eq] at hp
    obtain ⟨f1, f2, f3, f4, f5, f6, f7, f8, f9⟩ := zIU_f b hb
    have hw := C.ts _ (zIU_ok b hb)
    have hw2 := C.ts _ (zIUs_ok b hb)
    have hsl := fun t => zIU_sel hb (t := t)
    dsimp only at hw hw2
    rw [hp.1, hp.2] at hw hw2 hsl
    rw [hp.2] at f2 f3 f4 f5 f6 f7 f8 f9
    obtain ⟨v, ev⟩ := noX f9 (Or.inl (by omega))
    subst ev
    obtain ⟨a1, a2⟩ := zcall_at hcl f9
    obtain ⟨a, as', ea, ht, ht3⟩ := zRc_ref a2 rfl (by omega)
    have ht2 : h.1.tg a < 11 ∧ h.1.tg a ≠ 6 := by
      by_cases c : zRcT.getD y 99 = 6
      · have := ht c
        omega
      · have := ht3 c
        omega
    have hS : (Cond.selects (zCn (h.1.tg a)) (zXn (zOw m0) y) (zYn y)).before args s = true := C.ts _ (hsl (h.1.tg a) ht ht3)
    have hdc : va_Decl s ⟨zCn 6, (zXn (zOw m0) y).name, (zXn (zOw m0) y).desc⟩ := by
      have e6 : (⟨zCn 6, (zXn (zOw m0) y).name, (zXn (zOw m0) y).desc⟩ : MethodName) = zYn y := by
        show (⟨zCn 6, (zYn y).name, (zYn y).desc⟩ : MethodName) = zYn y
        rw [← f8, ← nm1]
      rw [e6]
      exact va_Decl.of (C.ts _ (zMn_ok y f4)) (by rw [← zCw_code f5]; exact C.ts _ (zMc_ok y f2))
    have hcw : va_CU R s args (zCn (zOw m0)) (zCn (h.1.tg a)) (zCn 6) b.2.1 (zXn (zOw m0) y) (zYn y) (zCd y) (zMl y) (zRt y) (zWs y) (zRm d (h'.1.sz - h.1.sz) (h'.1.sl - h.1.sl)) (h'.1.sz - h.1.sz) (h'.1.sl - h.1.sl) as'.length :=
      ⟨⟨rfl, rfl, hR1, hroom, C.ws f2, by unfold zWs; rw [zCw_code f5]; exact List.mem_cons_self⟩, by rw [← zCw_code f5]; exact C.ts _ (zMc_ok y f2), C.ts _ (zMi_ok y f3), zCn6, zDesc_n hy5 (by rw [if_neg (by omega), ← a1, ea]; rfl), hw, hw2, hdc, hS, C.ts _ (zMn_ok y f4)⟩
    subst ea
    have hM2 : PreV s H (zCn (h.1.tg a)) (zAdr G a) (zPcd G (.ref a :: as') h) (as'.map (zCv G)) := ⟨zPcd_blind, hR.recv C rfl ht2.1 ht2.2, hpre⟩
    exact hgo _ (z_ofva (va_runU S9 (zCon.met ⟨z1, z2, hM⟩) hcw hM2 rfl (by rw [List.length_map]) hsz (by rw [show (F0 mm pc ls (st.map (zCv G))).stack = st.map (zCv G) from rfl, hmap, List.map_cons, List.reverse_cons, List.append_assoc]; rfl) hcat hd hf)) rfl
  rcases List.mem_append.mp hq with hq | hq
  · -- static
    obtain ⟨b, hb, hp, rfl⟩ := zPk_m hq
    simp only [Bool.and_eq_true, beq_iff_eq] at hp
    obtain ⟨f1, f2, f3, f4, f5, f6⟩ := zIS_f b hb
    have hw := C.ts _ (zIS_ok b hb)
    dsimp only at hw
    rw [hp.1, hp.2] at hw
    rw [hp.2] at f2 f3 f4 f5 f6
    have a1 : as.length = zNa y := by
      by_cases c : y = zRef
      · subst c
        obtain ⟨x, ex⟩ := zcall_ref hcl
        rw [ex]
        rfl
      · exact (zcall_at hcl c).1
    have hcw : CallB R s args (zCn (zOw m0)) b.2.1 (zYn y) (zCd y) (zMl y) (zRt y) (zWs y) (zRm d (h'.1.sz - h.1.sz) (h'.1.sl - h.1.sl)) (h'.1.sz - h.1.sz) (h'.1.sl - h.1.sl) as.length ∧ (Cond.static (zYn y)).before args s = true :=
      ⟨⟨rfl, rfl, hR1, hroom, C.ws f2, by unfold zWs; rw [zCw_code f5]; exact List.mem_cons_self, by rw [← zCw_code f5]; exact C.ts _ (zMc_ok y f2), C.ts _ (zMi_ok y f3), ⟨nm2, nm3⟩, zDesc_n hy5 (by rw [if_pos f6, ← a1]), hw⟩, C.ts _ (zMs_ok y f4)⟩
    exact hgo _ (vx_runS S9 hM hcw ⟨zPcd_blind, hpre⟩ rfl (by rw [List.length_map]) hsz hmap hcat hd hf) rfl
  rcases List.mem_append.mp hq with hq | hq
  · -- static, inherited
    obtain ⟨b, hb, hp, rfl⟩ := zPk_m hq
    simp only [Bool.and_eq_true, beq_iff_eq] at hp
    obtain ⟨f1, f2, f3, f4, f5, f6, f7, f8⟩ := zISU_f b hb
    have hw := C.ts _ (zISU_ok b hb)
    have hw2 := C.ts _ (zISUs_ok b hb)
    dsimp only at hw hw2
    rw [hp.1, hp.2] at hw hw2
    rw [hp.2] at f2 f3 f4 f5 f6 f7 f8
    obtain ⟨v, ev⟩ := noX f8 (Or.inl (by omega))
    subst ev
    obtain ⟨a1, a2⟩ := zcall_at hcl f8
    have e6 : zYn y = ⟨zCn 6, (zXn (zOw m0) y).name, (zXn (zOw m0) y).desc⟩ := by
      show zYn y = (⟨zCn 6, (zYn y).name, (zYn y).desc⟩ : MethodName)
      rw [← f7, ← nm1]
    exact hgo _ (z_ofva (z_runSU S9 (zCon.met ⟨z1, z2, hM⟩) e6 ⟨rfl, rfl, hR1, hroom, C.ws f2, by unfold zWs; rw [zCw_code f5]; exact List.mem_cons_self⟩ (by rw [← zCw_code f5]; exact C.ts _ (zMc_ok y f2)) (C.ts _ (zMi_ok y f3)) zCn6 (zDesc_n (n := as.length) hy5 (by rw [if_pos f6, ← a1])) hw hw2 (C.ts _ (zMs_ok y f4)) ⟨zPcd_blind, hpre⟩ rfl (by rw [List.length_map]) hsz hmap hcat hd hf)) rfl
  rcases List.mem_append.mp hq with hq | hq
  · -- static, of the nest
    obtain ⟨b, hb, hp, rfl⟩ := zPk_m hq
    simp only [Bool.and_eq_true, beq_iff_eq] at hp
    obtain ⟨f1, f2, f3, f4, f5, f6, f7⟩ := zISN_f b hb
    have hw := va_Nw.use (A := args) rfl (C.kn.2.2.2.1 b hb)
    rw [hp.1, hp.2] at hw
    rw [hp.2] at f2 f3 f4 f5 f6 f7
    obtain ⟨v, ev⟩ := noX f7 (Or.inr (by omega))
    subst ev
    obtain ⟨a1, a2⟩ := zcall_at hcl f7
    have hcw : va_CN R s args (zCn (zOw m0)) b.2.1 (zYn y) (zCn 9) (zCd y) (zMl y) (zRt y) (zWs y) (zRm d (h'.1.sz - h.1.sz) (h'.1.sl - h.1.sl)) (h'.1.sz - h.1.sz) (h'.1.sl - h.1.sl) as.length ∧ (Cond.static (zYn y)).before args s = true ∧ True :=
      ⟨⟨⟨rfl, rfl, hR1, hroom, C.ws f2, by unfold zWs; rw [zCw_code f5]; exact List.mem_cons_self⟩, by rw [← zCw_code f5]; exact C.ts _ (zMc_ok y f2), C.ts _ (zMi_ok y f3), ⟨nm2, nm3⟩, zDesc_n hy5 (by rw [if_pos f6, ← a1]), hw⟩, C.ts _ (zMs_ok y f4), trivial⟩
    exact hgo _ (z_ofva (va_runSN S9 (zCon.met ⟨z1, z2, hM⟩) hcw ⟨zPcd_blind, hpre⟩ rfl (by rw [List.length_map]) hsz hmap hcat hd hf)) rfl
  rcases List.mem_append.mp hq with hq | hq
  · -- static, with a table
    obtain ⟨b, hb, hp, rfl⟩ := zPk_m hq
    simp only [Bool.and_eq_true, beq_iff_eq] at hp
    obtain ⟨f1, f2, f3, f4, f5, f6, f7⟩ := zIW_f b hb
    have hw := C.ts _ (zIW_ok b hb)
    dsimp only at hw
    rw [hp.1, hp.2] at hw
    rw [hp.2] at f2 f3 f4 f5 f6 f7
    obtain ⟨v, ev⟩ := noX f7 (Or.inr (by omega))
    subst ev
    obtain ⟨a1, a2⟩ := zcall_at hcl f7
    have hcw : vx_CSW R s args (zCn (zOw m0)) b.2.1 (zYn y) (zCd y) (zMl y) (zRt y) (zHh y) (zWs y) (zRm d (h'.1.sz - h.1.sz) (h'.1.sl - h.1.sl)) (h'.1.sz - h.1.sz) (h'.1.sl - h.1.sl) as.length :=
      ⟨⟨rfl, rfl, hR1, hroom, C.ws f2, by unfold zWs; rw [zCw_with f5]; exact List.mem_cons_self⟩, by rw [← zCw_with f5]; exact C.ts _ (zMc_ok y f2), C.ts _ (zMi_ok y f3), ⟨nm2, nm3⟩, zDesc_n hy5 (by rw [if_pos f6, ← a1]), hw, C.ts _ (zMs_ok y f4)⟩
    exact hgo _ (z_ofva (vx_runSW S9 (zCon.met ⟨z1, z2, hM⟩) hcw ⟨zPcd_blind, hpre⟩ rfl (by rw [List.length_map]) hsz hmap hcat hd hf)) rfl
  rcases List.mem_append.mp hq with hq | hq
  · -- constructor, of the nest
    obtain ⟨b, hb, hp, rfl⟩ := zPk_m hq
    simp only [Bool.and_eq_true, beq_iff_eq] at hp
    obtain ⟨f1, f2, f3, f4, f5, f6, f7, f8⟩ := zIIN_f b hb
    have hw := va_Nw.use (A := args) rfl (C.kn.2.2.2.2.1 b hb)
    rw [hp.1, hp.2] at hw
    rw [hp.2] at f2 f3 f4 f5 f6 f7 f8
    obtain ⟨v, ev⟩ := noX f7 (Or.inr (by omega))
    subst ev
    obtain ⟨a1, a2⟩ := zcall_at hcl f7
    have hrt : zRt y = none := by unfold zRt; rw [f8]; rfl
    obtain ⟨a, as', ea⟩ := zctor_ref f6 f7 hcl
    have hcw : va_CN R s args (zCn (zOw m0)) b.2.1 (zYn y) (zCn 9) (zCd y) (zMl y) none (zWs y) (zRm d (h'.1.sz - h.1.sz) (h'.1.sl - h.1.sl)) (h'.1.sz - h.1.sz) (h'.1.sl - h.1.sl) as'.length ∧ (zYn y).name = "<init>" ∧ (Cond.instanceMethod (zYn y)).before args s = true :=
      ⟨⟨⟨rfl, rfl, hR1, hroom, C.ws f2, by rw [← hrt]; unfold zWs; rw [zCw_code f5]; exact List.mem_cons_self⟩, by rw [← hrt, ← zCw_code f5]; exact C.ts _ (zMc_ok y f2), C.ts _ (zMi_ok y f3), ⟨nm2, nm3⟩, zDesc_n hy5 (by rw [if_neg (by omega), ← a1, ea]; rfl), hw⟩, nm4.mp f6, C.ts _ (zMn_ok y f4)⟩
    subst ea
    exact hgo _ (z_ofva (va_runIN S9 (zCon.met ⟨z1, z2, hM⟩) hcw ⟨zPcd_blind, hpre⟩ rfl (by rw [List.length_map]) hsz (by rw [show (F0 mm pc ls (st.map (zCv G))).stack = st.map (zCv G) from rfl, hmap, List.map_cons, List.reverse_cons, List.append_assoc]; rfl) hcat hd hf)) rfl
  · -- constructor
    obtain ⟨b, hb, hp, rfl⟩ := zPk_m hq
    simp only [Bool.and_eq_true, beq_iff_eq] at hp
    obtain ⟨f1, f2, f3, f4, f5, f6, f7, f8⟩ := zII_f b hb
    have hw := C.ts _ (zII_ok b hb)
    dsimp only at hw
    rw [hp.1, hp.2] at hw
    rw [hp.2] at f2 f3 f4 f5 f6 f7 f8
    obtain ⟨v, ev⟩ := noX f7 (Or.inr (by omega))
    subst ev
    obtain ⟨a1, a2⟩ := zcall_at hcl f7
    have hrt : zRt y = none := by unfold zRt; rw [f8]; rfl
    obtain ⟨a, as', ea⟩ := zctor_ref f6 f7 hcl
    have hcw : CallB R s args (zCn (zOw m0)) b.2.1 (zYn y) (zCd y) (zMl y) none (zWs y) (zRm d (h'.1.sz - h.1.sz) (h'.1.sl - h.1.sl)) (h'.1.sz - h.1.sz) (h'.1.sl - h.1.sl) as'.length ∧ (zYn y).name = "<init>" ∧ (Cond.instanceMethod (zYn y)).before args s = true :=
      ⟨⟨rfl, rfl, hR1, hroom, C.ws f2, by rw [← hrt]; unfold zWs; rw [zCw_code f5]; exact List.mem_cons_self, by rw [← hrt, ← zCw_code f5]; exact C.ts _ (zMc_ok y f2), C.ts _ (zMi_ok y f3), ⟨nm2, nm3⟩, zDesc_n hy5 (by rw [if_neg (by omega), ← a1, ea]; rfl), hw⟩, nm4.mp f6, C.ts _ (zMn_ok y f4)⟩
    subst ea
    exact hgo _ (z_ofva (va_runI S9 (zCon.met ⟨z1, z2, hM⟩) hcw ⟨zPcd_blind, hpre⟩ rfl (by rw [List.length_map]) hsz (by rw [show (F0 mm pc ls (st.map (zCv G))).stack = st.map (zCv G) from rfl, hmap, List.map_cons, List.reverse_cons, List.append_assoc]; rfl) hcat hd hf)) rfl
end
