/-! SOUNDNESS, 4: arrays; written by wip/whole/gen_sound2.py -/
section
variable {G : zG} {m0 : Nat} {p : Program} {l : Launch} {e : Env} {R : Room} {s : State} {mm : MethodId} {args : Array Value} {below : List Frame} {meth : Method} {cd : Code} {FQ : State → Prop} {h0 : zH} {r : List Instr} {L st : List Value} {h : zH}
theorem zTs_of {a : Nat} (h : a < 5) : (zTs a = 30 → zSty a = .int) ∧ (zTs a = 32 → zSty a = .int) ∧ (zTs a = 31 → zSty a = .long) := by
  rcases (by omega : a = 0 ∨ a = 1 ∨ a = 2 ∨ a = 3 ∨ a = 4) with rfl | rfl | rfl | rfl | rfl <;> decide
theorem zs_iaload (C : zCtx G m0 p s mm args meth cd) {a : Nat} {j : Int32} (ht : h.1.tg a = 20 ∨ h.1.tg a = 30 ∨ h.1.tg a = 32) (h1 : 0 ≤ j.toInt) (h2 : j.toInt < h.1.ln a) (kk : zXW G m0 p l e R s mm args below meth cd FQ h0 r L (h.2 a j.toInt :: st) h) : zXW G m0 p l e R s mm args below meth cd FQ h0 (.iaload :: r) L (.int j :: .ref a :: st) h := by
  intro pc hc H locs ls hR hL hlo q1 q2
  obtain ⟨hd, hc⟩ := zChk_1 (fun _ h => by cases h) rfl hc
  obtain ⟨i1, i2, i3⟩ := zIdx h1 h2
  rcases ht with ht | ht | ht
  · obtain ⟨g1, g2, gc⟩ := hR.cell ht (by omega)
    obtain ⟨g3, g4⟩ := gc.2.1 (by omega) (by omega)
    exact W.iald C.x C.b g4 (C.kn.arr (by omega) (by omega) _ _) (by intro q; cases q) (by rw [arrV_size]; exact i1) (by rw [arrV_read _ _ i2, i3]) rfl rfl hd (kk _ hc H locs ls hR hL hlo q1 q2)
  · have hr := hR.stat (by omega) (by omega) (r := a)
    obtain ⟨s1, s2, s3, s4⟩ := hR.2.2.1 a hr
    obtain ⟨k1, k2, k3, k4⟩ := C.kn.1 a hr
    have ea : zAdr G a = G.sa a := zAdr_lo hr
    have ety : zSty a = .int := (zTs_of hr).1 (by rw [← s1]; exact ht)
    rw [ety] at k3
    refine W.iald C.x C.b (a := zAdr G a) (cell := G.cs a) (by rw [ea, hR.2.1 _ k1]; exact k2) k3 k4 (fun q => i1 (q.imp id (fun q => by omega))) (v := zCv G (h.2 a j.toInt)) ?_ rfl rfl hd (kk _ hc H locs ls hR hL hlo q1 q2)
    exact s2 j.toInt h1 h2
  · have hr := hR.stat (by omega) (by omega) (r := a)
    obtain ⟨s1, s2, s3, s4⟩ := hR.2.2.1 a hr
    obtain ⟨k1, k2, k3, k4⟩ := C.kn.1 a hr
    have ea : zAdr G a = G.sa a := zAdr_lo hr
    have ety : zSty a = .int := (zTs_of hr).2.1 (by rw [← s1]; exact ht)
    rw [ety] at k3
    refine W.iald C.x C.b (a := zAdr G a) (cell := G.cs a) (by rw [ea, hR.2.1 _ k1]; exact k2) k3 k4 (fun q => i1 (q.imp id (fun q => by omega))) (v := zCv G (h.2 a j.toInt)) ?_ rfl rfl hd (kk _ hc H locs ls hR hL hlo q1 q2)
    exact s2 j.toInt h1 h2
theorem zs_laload (C : zCtx G m0 p s mm args meth cd) {a : Nat} {j : Int32} (ht : h.1.tg a = 21 ∨ h.1.tg a = 31) (h1 : 0 ≤ j.toInt) (h2 : j.toInt < h.1.ln a) (kk : zXW G m0 p l e R s mm args below meth cd FQ h0 r L (h.2 a j.toInt :: st) h) : zXW G m0 p l e R s mm args below meth cd FQ h0 (.laload :: r) L (.int j :: .ref a :: st) h := by
  intro pc hc H locs ls hR hL hlo q1 q2
  obtain ⟨hd, hc⟩ := zChk_1 (fun _ h => by cases h) rfl hc
  obtain ⟨i1, i2, i3⟩ := zIdx h1 h2
  rcases ht with ht | ht
  · obtain ⟨g1, g2, gc⟩ := hR.cell ht (by omega)
    obtain ⟨g3, g4⟩ := gc.2.1 (by omega) (by omega)
    exact W.lald C.x C.b g4 (C.kn.arr (by omega) (by omega) _ _) (by intro q; cases q) (by rw [arrV_size]; exact i1) (by rw [arrV_read _ _ i2, i3]) rfl rfl hd (kk _ hc H locs ls hR hL hlo q1 q2)
  · have hr := hR.stat (by omega) (by omega) (r := a)
    obtain ⟨s1, s2, s3, s4⟩ := hR.2.2.1 a hr
    obtain ⟨k1, k2, k3, k4⟩ := C.kn.1 a hr
    have ea : zAdr G a = G.sa a := zAdr_lo hr
    have ety : zSty a = .long := (zTs_of hr).2.2 (by rw [← s1]; exact ht)
    rw [ety] at k3
    refine W.lald C.x C.b (a := zAdr G a) (cell := G.cs a) (by rw [ea, hR.2.1 _ k1]; exact k2) k3 k4 (fun q => i1 (q.imp id (fun q => by omega))) (v := zCv G (h.2 a j.toInt)) ?_ rfl rfl hd (kk _ hc H locs ls hR hL hlo q1 q2)
    exact s2 j.toInt h1 h2
theorem zs_daload (C : zCtx G m0 p s mm args meth cd) {a : Nat} {j : Int32} (ht : h.1.tg a = 22) (h1 : 0 ≤ j.toInt) (h2 : j.toInt < h.1.ln a) (kk : zXW G m0 p l e R s mm args below meth cd FQ h0 r L (h.2 a j.toInt :: st) h) : zXW G m0 p l e R s mm args below meth cd FQ h0 (.daload :: r) L (.int j :: .ref a :: st) h := by
  intro pc hc H locs ls hR hL hlo q1 q2
  obtain ⟨hd, hc⟩ := zChk_1 (fun _ h => by cases h) rfl hc
  obtain ⟨i1, i2, i3⟩ := zIdx h1 h2
  obtain ⟨g1, g2, gc⟩ := hR.cell ht (by omega)
  obtain ⟨g3, g4⟩ := gc.2.1 (by omega) (by omega)
  exact W.dald C.x C.b g4 (C.kn.arr (by omega) (by omega) _ _) (by intro q; cases q) (by rw [arrV_size]; exact i1) (by rw [arrV_read _ _ i2, i3]) rfl rfl hd (kk _ hc H locs ls hR hL hlo q1 q2)
theorem zs_baload (C : zCtx G m0 p s mm args meth cd) {a : Nat} {j : Int32} (ht : h.1.tg a = 23) (h1 : 0 ≤ j.toInt) (h2 : j.toInt < h.1.ln a) (kk : zXW G m0 p l e R s mm args below meth cd FQ h0 r L (h.2 a j.toInt :: st) h) : zXW G m0 p l e R s mm args below meth cd FQ h0 (.baload :: r) L (.int j :: .ref a :: st) h := by
  intro pc hc H locs ls hR hL hlo q1 q2
  obtain ⟨hd, hc⟩ := zChk_1 (fun _ h => by cases h) rfl hc
  obtain ⟨i1, i2, i3⟩ := zIdx h1 h2
  obtain ⟨g1, g2, gc⟩ := hR.cell ht (by omega)
  obtain ⟨g3, g4⟩ := gc.2.1 (by omega) (by omega)
  exact W.zald C.x C.b g4 (C.kn.arr (by omega) (by omega) _ _) (by intro q; cases q) (by rw [arrV_size]; exact i1) (by rw [arrV_read _ _ i2, i3]) rfl rfl hd (kk _ hc H locs ls hR hL hlo q1 q2)
theorem zs_aaload (C : zCtx G m0 p s mm args meth cd) {a : Nat} {j : Int32} (ht : h.1.tg a = 24 ∨ h.1.tg a = 25 ∨ h.1.tg a = 26) (h1 : 0 ≤ j.toInt) (h2 : j.toInt < h.1.ln a) (kk : zXW G m0 p l e R s mm args below meth cd FQ h0 r L (h.2 a j.toInt :: st) h) : zXW G m0 p l e R s mm args below meth cd FQ h0 (.aaload :: r) L (.int j :: .ref a :: st) h := by
  intro pc hc H locs ls hR hL hlo q1 q2
  obtain ⟨hd, hc⟩ := zChk_1 (fun _ h => by cases h) rfl hc
  obtain ⟨i1, i2, i3⟩ := zIdx h1 h2
  rcases ht with ht | ht | ht
  · obtain ⟨g1, g2, gc⟩ := hR.cell ht (by omega)
    obtain ⟨g3, g4⟩ := gc.2.1 (by omega) (by omega)
    exact W.aald C.x C.b g4 (C.kn.arr (by omega) (by omega) _ _) rfl (by intro q; cases q) (by rw [arrV_size]; exact i1) (by rw [arrV_read _ _ i2, i3]) rfl rfl hd (kk _ hc H locs ls hR hL hlo q1 q2)
  · obtain ⟨g1, g2, gc⟩ := hR.cell ht (by omega)
    obtain ⟨g3, g4⟩ := gc.2.1 (by omega) (by omega)
    exact W.aald C.x C.b g4 (C.kn.arr (by omega) (by omega) _ _) rfl (by intro q; cases q) (by rw [arrV_size]; exact i1) (by rw [arrV_read _ _ i2, i3]) rfl rfl hd (kk _ hc H locs ls hR hL hlo q1 q2)
  · obtain ⟨g1, g2, gc⟩ := hR.cell ht (by omega)
    obtain ⟨g3, g4⟩ := gc.2.1 (by omega) (by omega)
    exact W.aald C.x C.b g4 (C.kn.arr (by omega) (by omega) _ _) rfl (by intro q; cases q) (by rw [arrV_size]; exact i1) (by rw [arrV_read _ _ i2, i3]) rfl rfl hd (kk _ hc H locs ls hR hL hlo q1 q2)
theorem zRel.arr {H H' : Heap} {a t : Nat} {j : Int32} {v : Value} (hR : zRel G h H) (ht : h.1.tg a = t) (ht1 : 20 ≤ t) (ht2 : t ≤ 26) (h1 : 0 ≤ j.toInt) (h2 : j.toInt < h.1.ln a) (hv : t = 20 → ∃ x : Int32, v = .int x) (e1 : H'[zAdr G a]? = some ((arrV (G.cA t) (h.1.ln a).toNat (fun k : Nat => zCv G (h.2 a k))).setSlot j.toNatClampNeg (zCv G v))) (e2 : H'.size = H.size) (e3 : ∀ q : Nat, q ≠ zAdr G a → H'[q]? = H[q]?) : zRel G (h.1, zput h.2 a j.toInt v) H' := by
  obtain ⟨g1, g2, gc⟩ := hR.cell ht ht2
  obtain ⟨g3, g4⟩ := gc.2.1 ht1 ht2
  obtain ⟨i1, i2, i3⟩ := zIdx h1 h2
  refine hR.write g1 g2 e2 e3 (f := zput h.2 a j.toInt v a) ⟨fun q => by rw [ht] at q; omega, fun _ _ => ⟨g3, ?_⟩, fun q j2 a1 a2 => ?_⟩ rfl (fun r' hr' => funext fun k => if_neg (fun q => hr' q.1))
  rotate_left
  · unfold zput
    by_cases e : j2 = j.toInt
    · rw [if_pos ⟨rfl, e⟩]
      exact hv (ht.symm.trans q)
    · rw [if_neg (fun q => e q.2)]
      exact gc.2.2 (ht.symm.trans q) j2 a1 a2
  rw [e1, arrV_store, ht]
  refine congrArg (fun z => some (arrV (G.cA t) (h.1.ln a).toNat z)) (funext fun k => ?_)
  unfold updV zput
  by_cases e : k = j.toNatClampNeg
  · rw [if_pos e, if_pos ⟨rfl, by rw [e, i3]⟩]
  · rw [if_neg e, if_neg (fun q => e (by have := q.2; omega))]
theorem zs_iastore (C : zCtx G m0 p s mm args meth cd) {a : Nat} {j : Int32} {x : Int32} (ht : h.1.tg a = 20) (h1 : 0 ≤ j.toInt) (h2 : j.toInt < h.1.ln a) (kk : zXW G m0 p l e R s mm args below meth cd FQ h0 r L st (h.1, zput h.2 a j.toInt (.int x))) : zXW G m0 p l e R s mm args below meth cd FQ h0 (.iastore :: r) L (.int x :: .int j :: .ref a :: st) h := by
  intro pc hc H locs ls hR hL hlo q1 q2
  obtain ⟨hd, hc⟩ := zChk_1 (fun _ h => by cases h) rfl hc
  obtain ⟨i1, i2, i3⟩ := zIdx h1 h2
  obtain ⟨g1, g2, gc⟩ := hR.cell ht (by omega)
  obtain ⟨g3, g4⟩ := gc.2.1 (by omega) (by omega)
  refine W.iast C.x C.b g4 (C.kn.arr (by omega) (by omega) _ _) (by intro q; cases q) (by rw [arrV_size]; exact i1) rfl rfl hd (fun H' e1 e2 e3 => ?_)
  refine kk _ hc H' _ ls (hR.arr ht (by omega) (by omega) h1 h2 (fun q => ⟨x, rfl⟩) e1 e2 e3) hL (fun q hq => ?_) q1 q2
  rcases List.mem_append.mp hq with hq | hq
  · exact hlo q hq
  · rw [List.mem_singleton.mp hq]
    exact zAdr_base g1
theorem zs_lastore (C : zCtx G m0 p s mm args meth cd) {a : Nat} {j : Int32} {x : Int64} (ht : h.1.tg a = 21) (h1 : 0 ≤ j.toInt) (h2 : j.toInt < h.1.ln a) (kk : zXW G m0 p l e R s mm args below meth cd FQ h0 r L st (h.1, zput h.2 a j.toInt (.long x))) : zXW G m0 p l e R s mm args below meth cd FQ h0 (.lastore :: r) L (.long x :: .int j :: .ref a :: st) h := by
  intro pc hc H locs ls hR hL hlo q1 q2
  obtain ⟨hd, hc⟩ := zChk_1 (fun _ h => by cases h) rfl hc
  obtain ⟨i1, i2, i3⟩ := zIdx h1 h2
  obtain ⟨g1, g2, gc⟩ := hR.cell ht (by omega)
  obtain ⟨g3, g4⟩ := gc.2.1 (by omega) (by omega)
  refine W.last C.x C.b g4 (C.kn.arr (by omega) (by omega) _ _) (by intro q; cases q) (by rw [arrV_size]; exact i1) rfl rfl hd (fun H' e1 e2 e3 => ?_)
  refine kk _ hc H' _ ls (hR.arr ht (by omega) (by omega) h1 h2 (fun q => by omega) e1 e2 e3) hL (fun q hq => ?_) q1 q2
  rcases List.mem_append.mp hq with hq | hq
  · exact hlo q hq
  · rw [List.mem_singleton.mp hq]
    exact zAdr_base g1
theorem zs_dastore (C : zCtx G m0 p s mm args meth cd) {a : Nat} {j : Int32} {x : UInt64} (ht : h.1.tg a = 22) (h1 : 0 ≤ j.toInt) (h2 : j.toInt < h.1.ln a) (kk : zXW G m0 p l e R s mm args below meth cd FQ h0 r L st (h.1, zput h.2 a j.toInt (.double x))) : zXW G m0 p l e R s mm args below meth cd FQ h0 (.dastore :: r) L (.double x :: .int j :: .ref a :: st) h := by
  intro pc hc H locs ls hR hL hlo q1 q2
  obtain ⟨hd, hc⟩ := zChk_1 (fun _ h => by cases h) rfl hc
  obtain ⟨i1, i2, i3⟩ := zIdx h1 h2
  obtain ⟨g1, g2, gc⟩ := hR.cell ht (by omega)
  obtain ⟨g3, g4⟩ := gc.2.1 (by omega) (by omega)
  refine W.dast C.x C.b g4 (C.kn.arr (by omega) (by omega) _ _) (by intro q; cases q) (by rw [arrV_size]; exact i1) rfl rfl hd (fun H' e1 e2 e3 => ?_)
  refine kk _ hc H' _ ls (hR.arr ht (by omega) (by omega) h1 h2 (fun q => by omega) e1 e2 e3) hL (fun q hq => ?_) q1 q2
  rcases List.mem_append.mp hq with hq | hq
  · exact hlo q hq
  · rw [List.mem_singleton.mp hq]
    exact zAdr_base g1
theorem zs_bastore (C : zCtx G m0 p s mm args meth cd) {a : Nat} {j : Int32} {x : Int32} (ht : h.1.tg a = 23) (h1 : 0 ≤ j.toInt) (h2 : j.toInt < h.1.ln a) (hx : x = 0 ∨ x = 1) (kk : zXW G m0 p l e R s mm args below meth cd FQ h0 r L st (h.1, zput h.2 a j.toInt (.int x))) : zXW G m0 p l e R s mm args below meth cd FQ h0 (.bastore :: r) L (.int x :: .int j :: .ref a :: st) h := by
  intro pc hc H locs ls hR hL hlo q1 q2
  obtain ⟨hd, hc⟩ := zChk_1 (fun _ h => by cases h) rfl hc
  obtain ⟨i1, i2, i3⟩ := zIdx h1 h2
  obtain ⟨g1, g2, gc⟩ := hR.cell ht (by omega)
  obtain ⟨g3, g4⟩ := gc.2.1 (by omega) (by omega)
  have hnar : narrow .boolean (.int x) = .int x := by rcases hx with rfl | rfl <;> rfl
  refine W.zast C.x C.b g4 (C.kn.arr (by omega) (by omega) _ _) (by intro q; cases q) (by rw [arrV_size]; exact i1) rfl rfl hd (fun H' e1 e2 e3 => ?_)
  refine kk _ hc H' _ ls (hR.arr ht (by omega) (by omega) h1 h2 (fun q => by omega) (by rw [hnar] at e1; exact e1) e2 e3) hL (fun q hq => ?_) q1 q2
  rcases List.mem_append.mp hq with hq | hq
  · exact hlo q hq
  · rw [List.mem_singleton.mp hq]
    exact zAdr_base g1
theorem zs_aastore (C : zCtx G m0 p s mm args meth cd) {a b : Nat} {j : Int32} (ht : h.1.tg a = 26) (h1 : 0 ≤ j.toInt) (h2 : j.toInt < h.1.ln a) (hx : h.1.tg b = 7) (kk : zXW G m0 p l e R s mm args below meth cd FQ h0 r L st (h.1, zput h.2 a j.toInt (.ref b))) : zXW G m0 p l e R s mm args below meth cd FQ h0 (.aastore :: r) L (.ref b :: .int j :: .ref a :: st) h := by
  intro pc hc H locs ls hR hL hlo q1 q2
  obtain ⟨hd, hc⟩ := zChk_1 (fun _ h => by cases h) rfl hc
  obtain ⟨i1, i2, i3⟩ := zIdx h1 h2
  obtain ⟨g1, g2, gc⟩ := hR.cell ht (by omega)
  obtain ⟨g3, g4⟩ := gc.2.1 (by omega) (by omega)
  obtain ⟨b1, b2, bc⟩ := hR.cell hx (by omega)
  obtain ⟨cell, c1, c2, c3, -⟩ := bc.1 (by omega)
  obtain ⟨kA, comp, f1, f2, f3, f4⟩ := (C.kn.2.2.1 26 (by omega) (by omega)).2
  obtain ⟨-, hfc, kC, hkC, hkind⟩ := C.kn.2.1 7 (by omega) (by omega)
  have ecm : comp = G.dC 7 := Option.some.inj (f3.symm.trans hfc)
  refine W.aast C.x C.b g4 (by intro q; exact fun h => by cases h) (by intro q; cases q) f1 f2 rfl (by rw [ecm]; exact hkC) (by rw [arrV_size]; exact ⟨fun q => i1 (Or.inl q), i2⟩) (v := zAdr G b) c1 (by intro q; rw [c3]; exact fun h => by cases h) (by rw [c2]; exact hkC) (by rw [c2, ecm]; exact va_asg _ _) rfl rfl hd (fun H' e1 e2 e3 => ?_)
  refine kk _ hc H' _ ls (hR.arr ht (by omega) (by omega) h1 h2 (fun q => by omega) e1 e2 e3) hL (fun q hq => ?_) q1 q2
  rcases List.mem_append.mp hq with hq | hq
  · exact hlo q hq
  · rw [List.mem_singleton.mp hq]
    exact zAdr_base g1
theorem zs_pop (C : zCtx G m0 p s mm args meth cd) {v : Value} (hv : v.category = 1) (kk : zXW G m0 p l e R s mm args below meth cd FQ h0 r L st h) : zXW G m0 p l e R s mm args below meth cd FQ h0 (.pop :: r) L (v :: st) h := by
  intro pc hc H locs ls hR hL hlo q1 q2
  obtain ⟨hd, hc⟩ := zChk_1 (fun _ h => by cases h) rfl hc
  exact lv_pop C.x C.b hd ((zCv_cat G v).trans hv) (kk _ hc H locs ls hR hL hlo q1 q2)
theorem zs_objI (C : zCtx G m0 p s mm args meth cd) {a : Nat} (hR1 : 1 ≤ R.frames) (hR2 : 64 ≤ R.locals) (kk : zXW G m0 p l e R s mm args below meth cd FQ h0 r L [] h) : zXW G m0 p l e R s mm args below meth cd FQ h0 (.monitorexit :: r) L [.ref a] h := by
  intro pc hc H locs ls hR hL hlo q1 q2
  obtain ⟨q, hq, hd, hc⟩ := zChk_c (fun _ h => by cases h) hc
  obtain ⟨b, hb, hp, rfl⟩ := zPk_m hq
  simp only [beq_iff_eq] at hp
  have hw := C.ts _ (zOI_ok b hb)
  dsimp only at hw
  rw [hp] at hw
  exact W.objInit C.x C.b C.own hw (C.ts _ zw_oiI) (C.ts _ zw_oiC) rfl (by rw [C.ml]; exact hL.2.1) rfl hd hR1 (by show 2 * 0 + 0 + 12 ≤ _; omega) (kk _ hc H locs ls hR hL hlo q1 q2)
theorem zs_f2i (C : zCtx G m0 p s mm args meth cd) {x : UInt32} (hR1 : 1 ≤ R.frames) (hR2 : 64 ≤ R.locals) (kk : zXW G m0 p l e R s mm args below meth cd FQ h0 r L [.int x.toInt32] h) : zXW G m0 p l e R s mm args below meth cd FQ h0 (.f2i :: r) L [.float x] h := by
  intro pc hc H locs ls hR hL hlo q1 q2
  obtain ⟨q, hq, hd, hc⟩ := zChk_c (fun _ h => by cases h) hc
  obtain ⟨b, hb, hp, rfl⟩ := zPk_m hq
  simp only [beq_iff_eq] at hp
  have hw := C.ts _ (zFR_ok b hb)
  dsimp only at hw
  rw [hp] at hw
  exact vn_f2i C.x C.b (by rw [C.ml]; exact hL.2.1.symm) C.own hw (C.ts _ zw_frN) (C.ts _ zw_frS) (C.ts _ zw_frI) hR1 (by show 0 + 15 ≤ _; omega) hd (kk _ hc H locs ls hR hL hlo q1 q2)
theorem zs_copy (C : zCtx G m0 p s mm args meth cd) {a b : Nat} {n sp dp : Int32} (hR1 : 1 ≤ R.frames) (hR2 : 64 ≤ R.locals) (ta : h.1.tg a = 20) (tb : h.1.tg b = 20) (n0 : 0 ≤ n.toInt) (s0 : 0 ≤ sp.toInt) (d0 : 0 ≤ dp.toInt) (hs : sp.toInt + n.toInt ≤ h.1.ln a) (hd9 : dp.toInt + n.toInt ≤ h.1.ln b) (kk : zXW G m0 p l e R s mm args below meth cd FQ h0 r L [] (h.1, zrow h.2 b (fun j => if dp.toInt ≤ j ∧ j < dp.toInt + n.toInt then h.2 a (sp.toInt + (j - dp.toInt)) else h.2 b j))) : zXW G m0 p l e R s mm args below meth cd FQ h0 (.pop2 :: r) L [.int n, .int dp, .ref b, .int sp, .ref a] h := by
  intro pc hc H locs ls hR hL hlo q1 q2
  obtain ⟨q, hq, hd, hc⟩ := zChk_c (fun _ h => by cases h) hc
  obtain ⟨b9, hb9, hp, rfl⟩ := zPk_m hq
  simp only [beq_iff_eq] at hp
  have hw := C.ts _ (zAC_ok b9 hb9)
  dsimp only at hw
  rw [hp] at hw
  obtain ⟨a1, a2, ac⟩ := hR.cell ta (by omega)
  obtain ⟨a3, a4⟩ := ac.2.1 (by omega) (by omega)
  obtain ⟨b1, b2, bc⟩ := hR.cell tb (by omega)
  obtain ⟨b3, b4⟩ := bc.2.1 (by omega) (by omega)
  have neg : ∀ z : Int32, 0 ≤ z.toInt → ¬ z < 0 := by
    intro z hz
    rw [Int32.lt_iff_toInt_lt]
    simp
    exact hz
  have nn : ∀ z : Int32, 0 ≤ z.toInt → z.toInt = (z.toNatClampNeg : Int) := by
    intro z hz
    show z.toInt = ((z.toInt.toNat : Nat) : Int)
    omega
  have en := nn n n0
  have es := nn sp s0
  have ed := nn dp d0
  intro T hT X
  obtain ⟨-, k0, hk0, cm0, hkk0⟩ := C.kn.arr (G := G) (t := 20) (by omega) (by omega) (h.1.ln a).toNat (fun j => zCv G (h.2 a j))
  obtain ⟨-, k1, hk1, cm1, hkk1⟩ := C.kn.arr (G := G) (t := 20) (by omega) (by omega) (h.1.ln b).toNat (fun j => zCv G (h.2 b j))
  obtain ⟨vm', X', step⟩ := X.arraycopy C.x C.own hw (C.ts _ zw_acN) (C.ts _ zw_acS) (C.ts _ zw_acI) (src := zAdr G a) (dst := zAdr G b) (srcPos := sp) (destPos := dp) (n := n) (by rw [hT]; exact a4) (by rw [hT]; exact b4)
    (fun _ h => by cases h) (fun _ h => by cases h) (fun h => by cases h) (fun h => by cases h) hk0 hk1 hkk0 hkk1 (by rfl) (neg sp s0) (neg dp d0) (neg n n0)
    (by rw [arrV_size]; omega) (by rw [arrV_size]; omega)
    (fun vm₁ _ i hi => by
      have e9 : (arrV (G.cA 20) (h.1.ln a).toNat (fun j : Nat => zCv G (h.2 a j))).slots.getD (sp.toNatClampNeg + i) .null = zCv G (h.2 a ((sp.toNatClampNeg + i : Nat) : Int)) := by
        rw [Array.getD_eq_getD_getElem?, arrV_read _ _ (by omega)]
        rfl
      obtain ⟨x, hx⟩ := ac.2.2 rfl ((sp.toNatClampNeg + i : Nat) : Int) (by omega) (by omega)
      rw [hx] at e9
      refine ⟨?_, ?_⟩
      · rw [e9]
        rfl
      · rw [e9]
        exact trivial)
    (g := F0 mm pc ls [.int n, .int dp, .ref (zAdr G b), .int sp, .ref (zAdr G a)]) rfl (by rw [C.ml]; exact hL.2.1) (rest := []) rfl (by rw [C.b]; exact hd) hR1 (by
      have : nativeFrameWords "java/lang/System" "arraycopy" 5 ≤ 40 := by decide
      show 2 * 0 + 0 + _ ≤ _
      omega)
  have e1 : copied (arrV (G.cA 20) (h.1.ln a).toNat (fun j : Nat => zCv G (h.2 a j))) (arrV (G.cA 20) (h.1.ln b).toNat (fun j : Nat => zCv G (h.2 b j))) sp dp n = arrV (G.cA 20) (h.1.ln b).toNat (va_cpy (fun j : Nat => zCv G (h.2 a j)) (fun j : Nat => zCv G (h.2 b j)) sp.toNatClampNeg dp.toNatClampNeg n.toNatClampNeg) := va_copied (fun z => z) _ _ _ _ (by omega)
  rw [e1] at X' step
  have hl : zAdr G b < H.size := (Array.getElem?_eq_some_iff.mp b4).1
  have hheap : ((T.setVm vm').setCell (zAdr G b) (arrV (G.cA 20) (h.1.ln b).toNat (va_cpy (fun j : Nat => zCv G (h.2 a j)) (fun j : Nat => zCv G (h.2 b j)) sp.toNatClampNeg dp.toNatClampNeg n.toNatClampNeg))).heap = H.setIfInBounds (zAdr G b) (arrV (G.cA 20) (h.1.ln b).toNat (va_cpy (fun j : Nat => zCv G (h.2 a j)) (fun j : Nat => zCv G (h.2 b j)) sp.toNatClampNeg dp.toNatClampNeg n.toNatClampNeg)) := by rw [← hT]; rfl
  obtain ⟨t, t1, t2⟩ := kk _ hc _ _ ls (hR.write (H' := H.setIfInBounds (zAdr G b) _) b1 b2 (by simp) (fun q hq => by simp [Array.getElem?_setIfInBounds, Ne.symm hq]) (f := fun j => if dp.toInt ≤ j ∧ j < dp.toInt + n.toInt then h.2 a (sp.toInt + (j - dp.toInt)) else h.2 b j) ⟨fun q => by rw [tb] at q; omega, fun _ _ => ⟨b3, by
      rw [show (H.setIfInBounds (zAdr G b) _)[zAdr G b]? = some _ by simp [Array.getElem?_setIfInBounds, hl]; rfl, tb]
      refine congrArg (fun z => some (arrV (G.cA 20) (h.1.ln b).toNat z)) (funext fun j => ?_)
      unfold va_cpy
      by_cases c : dp.toNatClampNeg ≤ j ∧ j < dp.toNatClampNeg + n.toNatClampNeg
      · rw [if_pos c]
        dsimp only
        rw [if_pos (by omega)]
        exact congrArg (fun z => zCv G (h.2 a z)) (by omega)
      · rw [if_neg c]
        dsimp only
        rw [if_neg (by omega)]⟩, fun _ j g1 g2 => by
      by_cases c : dp.toInt ≤ j ∧ j < dp.toInt + n.toInt
      · dsimp only
        rw [if_pos c]
        exact ac.2.2 rfl _ (by omega) (by omega)
      · dsimp only
        rw [if_neg c]
        exact bc.2.2 rfl j g1 g2⟩ (if_pos rfl) (fun r' hr' => if_neg hr')) hL (fun q hq => by
      rcases List.mem_append.mp hq with h | h
      · exact hlo q h
      · obtain ⟨z, -, hz⟩ := List.mem_map.mp h
        rw [← hz]
        exact zAdr_base b1) q1 q2 _ hheap X'
  exact ⟨t, step t t1, t2⟩
end
