/-! SOUNDNESS, 5: arrays of arrays, switches -/
theorem zHnews_f (h : zH) (t : Nat) (k : Int) (v : Value) : ∀ n : Nat, (zHnews h t k v n).1.sz = h.1.sz + n ∧ (zHnews h t k v n).1.sl = h.1.sl + n * k.toNat ∧ (∀ r, (zHnews h t k v n).1.tg r = if h.1.sz ≤ r ∧ r < h.1.sz + n then t else h.1.tg r) ∧ (∀ r, (zHnews h t k v n).1.ln r = if h.1.sz ≤ r ∧ r < h.1.sz + n then k else h.1.ln r) ∧ (∀ r, (zHnews h t k v n).2 r = if h.1.sz ≤ r ∧ r < h.1.sz + n then (fun _ => v) else h.2 r)
  | 0 => ⟨rfl, by simp [zHnews], fun r => by rw [if_neg (by omega)]; rfl, fun r => by rw [if_neg (by omega)]; rfl, fun r => by rw [if_neg (by omega)]; rfl⟩
  | n + 1 => by
    obtain ⟨a, b, c, d, e⟩ := zHnews_f h t k v n
    have key : ∀ {α : Type} (x y : α) (r : Nat), (if r = (zHnews h t k v n).1.sz then x else (if h.1.sz ≤ r ∧ r < h.1.sz + n then x else y)) = (if h.1.sz ≤ r ∧ r < h.1.sz + (n + 1) then x else y) := by
      intro α x y r
      rw [a]
      by_cases c1 : r = h.1.sz + n
      · rw [if_pos c1, if_pos (by omega)]
      · rw [if_neg c1]
        by_cases c2 : h.1.sz ≤ r ∧ r < h.1.sz + n
        · rw [if_pos c2, if_pos (by omega)]
        · rw [if_neg c2, if_neg (by omega)]
    refine ⟨?_, ?_, fun r => ?_, fun r => ?_, fun r => ?_⟩
    · show (zHnews h t k v n).1.sz + 1 = _
      rw [a]; omega
    · show (zHnews h t k v n).1.sl + k.toNat = _
      rw [b, Nat.succ_mul]; omega
    · show (if r = (zHnews h t k v n).1.sz then t else (zHnews h t k v n).1.tg r) = _
      rw [c, key]
    · show (if r = (zHnews h t k v n).1.sz then k else (zHnews h t k v n).1.ln r) = _
      rw [d, key]
    · show (if r = (zHnews h t k v n).1.sz then (fun _ => v) else (zHnews h t k v n).2 r) = _
      rw [e, key]
section
variable {G : zG} {m0 : Nat} {p : Program} {l : Launch} {e : Env} {R : Room} {s : State} {mm : MethodId} {args : Array Value} {below : List Frame} {meth : Method} {cd : Code} {FQ : State → Prop} {h0 : zH} {r : List Instr} {L st : List Value} {h : zH}
theorem zs_mna (C : zCtx G m0 p s mm args meth cd) {t dm : Nat} {n k : Int32} (hn0 : 0 ≤ n.toInt) (hn1 : n.toInt ≤ 1000000) (hk0 : 0 ≤ k.toInt) (hk1 : k.toInt ≤ 1000000) {h9 : zH} (e9 : h9 = zHnews (zHnew h (24 + t) n.toInt n.toInt.toNat (fun j => .ref (h.1.sz + 1 + j.toNat))) (20 + t) k.toInt (if t = 0 then .int 0 else .long 0) n.toInt.toNat) (hcap : h9.1.sz - h0.1.sz ≤ R.cells ∧ h9.1.sl - h0.1.sl ≤ R.slots) (kk : zXW G m0 p l e R s mm args below meth cd FQ h0 r L (.ref h.1.sz :: st) h9) : zXW G m0 p l e R s mm args below meth cd FQ h0 (.multianewarray t dm :: r) L (.int k :: .int n :: st) h := by
  intro pc hc H locs ls hR hL hlo q1 q2
  obtain ⟨q, hq, hd, hc⟩ := zChk_c (fun _ h => by cases h) hc
  obtain ⟨b, hb, hp, rfl⟩ := zPk_m hq
  simp only [Bool.and_eq_true, beq_iff_eq] at hp
  have rt := zMA_rng b hb
  have hw := C.ts _ (zMA_ok b hb)
  dsimp only at hw
  rw [hp.1, hp.2] at hw
  rw [hp.2] at rt
  obtain ⟨f1, f2, f3, f4, f5⟩ := zHnews_f (zHnew h (24 + t) n.toInt n.toInt.toNat (fun j => .ref (h.1.sz + 1 + j.toNat))) (20 + t) k.toInt (if t = 0 then .int 0 else .long 0) n.toInt.toNat
  rw [← e9] at f1 f2 f3 f4 f5
  have z1 : (zHnew h (24 + t) n.toInt n.toInt.toNat (fun j => .ref (h.1.sz + 1 + j.toNat))).1.sz = h.1.sz + 1 := rfl
  have z2 : (zHnew h (24 + t) n.toInt n.toInt.toNat (fun j => .ref (h.1.sz + 1 + j.toNat))).1.sl = h.1.sl + n.toInt.toNat := rfl
  have z3 : ∀ r, (zHnew h (24 + t) n.toInt n.toInt.toNat (fun j => .ref (h.1.sz + 1 + j.toNat))).1.tg r = if r = h.1.sz then 24 + t else h.1.tg r := fun _ => rfl
  have z4 : ∀ r, (zHnew h (24 + t) n.toInt n.toInt.toNat (fun j => .ref (h.1.sz + 1 + j.toNat))).1.ln r = if r = h.1.sz then n.toInt else h.1.ln r := fun _ => rfl
  have z5 : ∀ r, (zHnew h (24 + t) n.toInt n.toInt.toNat (fun j => .ref (h.1.sz + 1 + j.toNat))).2 r = if r = h.1.sz then (fun j => .ref (h.1.sz + 1 + j.toNat)) else h.2 r := fun _ => rfl
  rw [z1] at f1
  rw [z2] at f2
  simp only [z1, z3] at f3
  simp only [z1, z4] at f4
  simp only [z1, z5] at f5
  have hneg : ∀ z : Int32, 0 ≤ z.toInt → ¬ z < 0 := by
    intro z hz
    rw [Int32.lt_iff_toInt_lt]
    simp
    exact hz
  have en : n.toNatClampNeg = n.toInt.toNat := rfl
  have ek : k.toNatClampNeg = k.toInt.toNat := rfl
  have cb : componentBytes (zMt t) ≤ 8 := by rcases rt with rfl | rfl <;> decide
  have hover : va_AOA (zMt t) s := by rcases rt with rfl | rfl; exact C.kn.2.2.2.2.2.2.1.1; exact C.kn.2.2.2.2.2.2.1.2.1
  have harr : (Cond.arrayClass (zMt t)).before args s = true := by rcases rt with rfl | rfl; exact C.ts _ zw_aI; exact C.ts _ zw_aJ
  have hdf : fits (zMt t) (defaultValue (zMt t)) = true := by rcases rt with rfl | rfl <;> rfl
  have hdd : (defaultValue (zMt t)).isDefault = true := by rcases rt with rfl | rfl <;> rfl
  have kb : k.toInt.toNat * componentBytes (zMt t) ≤ 1000000 * 8 := Nat.mul_le_mul (by omega) cb
  intro T hT X
  obtain ⟨vm₁, cA, comp, -, fA, fC, -, -, X', step⟩ := X.multianewarray2F C.x C.own hw (va_AOA.use hover) harr (g := F0 mm pc ls (.int k :: .int n :: st.map (zCv G))) rfl (by rw [C.b]; exact hd) rfl (hneg n hn0) (hneg k hk0) (by rw [en]; omega) (by rw [ek]; omega) (by rw [ek]; omega) hdf hdd (by rw [en]; omega) (by rw [en, ek]; omega)
  rw [en, ek] at X' step
  have eA : cA = G.cA (24 + t) ∧ comp = G.cA (20 + t) := by
    rcases rt with rfl | rfl
    · exact ⟨Option.some.inj (fA.symm.trans (C.kn.2.2.1 24 (by omega) (by omega)).2), Option.some.inj (fC.symm.trans (C.kn.2.2.1 20 (by omega) (by omega)).2)⟩
    · exact ⟨Option.some.inj (fA.symm.trans (C.kn.2.2.1 25 (by omega) (by omega)).2), Option.some.inj (fC.symm.trans (C.kn.2.2.1 21 (by omega) (by omega)).2)⟩
  rw [eA.1, eA.2] at X' step
  generalize hF : Jvm.Free.Multi.fill (T.setVm vm₁) (G.cA (24 + t)) (G.cA (20 + t)) n.toInt.toNat k.toInt.toNat (defaultValue (zMt t)) n.toInt.toNat = F at X' step
  have hTh : (T.setVm vm₁).heap = H := hT
  obtain ⟨p1, p2, -, -⟩ := Jvm.Free.Multi.fill_facts (T.setVm vm₁) (G.cA (24 + t)) (G.cA (20 + t)) n.toInt.toNat k.toInt.toNat (defaultValue (zMt t)) n.toInt.toNat
  rw [hF, hTh] at p1 p2
  have hold : ∀ x : Nat, x < H.size → F.heap[x]? = H[x]? := fun x hx => by
    have := Jvm.Free.Multi.fill_old (T.setVm vm₁) (G.cA (24 + t)) (G.cA (20 + t)) n.toInt.toNat k.toInt.toNat (defaultValue (zMt t)) (a := x) (by rw [hTh]; exact hx) n.toInt.toNat
    rw [hF, hTh] at this
    exact this
  have hrow : ∀ j : Nat, j < n.toInt.toNat → F.heap[H.size + 1 + j]? = some (arrV (G.cA (20 + t)) k.toInt.toNat (fun _ => defaultValue (zMt t))) := fun j hj => by
    have := Jvm.Free.Multi.fill_inner (T.setVm vm₁) (G.cA (24 + t)) (G.cA (20 + t)) n.toInt.toNat k.toInt.toNat (defaultValue (zMt t)) n.toInt.toNat j hj
    rw [hF, hTh] at this
    rw [this]
    exact congrArg some (arrV_new _ _ _)
  rw [vr_outer] at p2
  have ea := zAdr_sz hR
  obtain ⟨⟨g1, g2⟩, g3, g4, g5, g6⟩ := hR
  have aN : ∀ x, zAdr G (h.1.sz + 1 + x) = H.size + 1 + x := by
    intro x
    unfold zAdr
    rw [if_neg (by omega), g2]
    omega
  have zr : ∀ r, r ≠ h.1.sz → zrow h.2 h.1.sz (fun j => Value.ref (h.1.sz + 1 + j.toNat)) r = h.2 r := fun r hr => if_neg hr
  have zr1 : zrow h.2 h.1.sz (fun j => Value.ref (h.1.sz + 1 + j.toNat)) h.1.sz = (fun j => Value.ref (h.1.sz + 1 + j.toNat)) := if_pos rfl
  have hR9 : zRel G h9 F.heap := by
    refine ⟨⟨by omega, by rw [p1, g2, f1]; omega⟩, fun q hq => by rw [hold q (by omega)]; exact g3 q hq, fun r hr => ?_, fun r h5 hs => ?_, fun r hr => ?_⟩
    · rw [f3, f4, f5, if_neg (by omega), if_neg (by omega), if_neg (by omega), if_neg (by omega), if_neg (by omega), zr r (by omega)]
      exact g4 r hr
    · rw [f3, f4, f5]
      by_cases c1 : h.1.sz + 1 ≤ r ∧ r < h.1.sz + 1 + n.toInt.toNat
      · rw [if_pos c1, if_pos c1, if_pos c1]
        refine ⟨by omega, fun a => by omega, fun _ _ => ⟨hk0, ?_⟩, fun q j _ _ => ?_⟩
        · rw [show r = h.1.sz + 1 + (r - (h.1.sz + 1)) by omega, aN, hrow _ (by omega)]
          rcases rt with rfl | rfl <;> rfl
        · rw [if_pos (by omega)]
          exact ⟨0, rfl⟩
      · rw [if_neg c1, if_neg c1, if_neg c1]
        by_cases c2 : r = h.1.sz
        · subst c2
          rw [if_pos rfl, if_pos rfl, zr1]
          refine ⟨by omega, fun a => by omega, fun _ _ => ⟨hn0, ?_⟩, fun q => by omega⟩
          rw [ea, p2]
          refine congrArg some ?_
          unfold arrV
          congr 1
          apply Array.ext
          · simp
          · intro j j1 j2
            have hj : j < n.toInt.toNat := by simpa using j1
            simp only [Array.getElem_ofFn]
            rw [if_pos hj]
            show Value.ref (H.size + 1 + j) = Value.ref (zAdr G (h.1.sz + 1 + ((j : Nat) : Int).toNat))
            rw [Int.toNat_natCast, aN]
        · rw [if_neg c2, if_neg c2, zr r c2]
          have h2 := g5 r h5 (by omega)
          have hq : F.heap[zAdr G r]? = H[zAdr G r]? := hold _ (by unfold zAdr; rw [if_neg (by omega)]; omega)
          exact ⟨h2.1, fun q => (h2.2.1 q).kept hq, fun a b => ⟨(h2.2.2.1 a b).1, by rw [hq]; exact (h2.2.2.1 a b).2⟩, h2.2.2.2⟩
    · rw [f3, if_neg (by omega), if_neg (by omega)]
      exact g6 r (by omega)
  have er : Value.ref T.heap.size = zCv G (.ref h.1.sz) := by
    show _ = Value.ref (zAdr G h.1.sz)
    rw [ea, hT]
  have e1 : h.1.sz - h0.1.sz + 1 + n.toInt.toNat = h9.1.sz - h0.1.sz := by omega
  have e2 : h.1.sl - h0.1.sl + n.toInt.toNat + n.toInt.toNat * k.toInt.toNat = h9.1.sl - h0.1.sl := by omega
  rw [e1, e2] at X'
  obtain ⟨t9, t1, t2⟩ := kk _ hc F.heap locs ls hR9 hL hlo (by omega) (by omega) F rfl X'
  refine ⟨t9, step t9 ?_, t2⟩
  rw [er]
  exact t1
theorem zsw_look (m pc : Nat) (d x : Int) : ∀ ps : List (Int × Int), Op.lookupswitch.offset (ps.map (fun q => (q.1, zOff m pc q.2))) (zOff m pc d) x = zOff m pc (zsw ps d x)
  | [] => rfl
  | (k, l) :: ps => by
    rw [List.map_cons, Op.lookupswitch.offset_cons, zsw_look m pc d x ps]
    show _ = zOff m pc (if x = k then l else zsw ps d x)
    by_cases c : x = k
    · rw [if_pos c, if_pos c.symm]
    · rw [if_neg c, if_neg (fun q => c q.symm)]
theorem zSrt_map (m pc : Nat) : ∀ ps : List (Int × Int), zSrt ps = true → ((ps.map (fun q => (q.1, zOff m pc q.2))).zip ((ps.map (fun q => (q.1, zOff m pc q.2))).drop 1)).all (fun (a, next) => decide (a.1 < next.1)) = true := by
  intro ps hs
  unfold zSrt at hs
  rw [← List.map_drop, List.zip_map]
  rw [List.all_map]
  exact hs
/-- a table of keys that follow each other -/
theorem zsw_keys (d x : Int) : ∀ (ps : List (Int × Int)) (lo : Int), ps.map (fun q => q.1) = zKeys lo ps.length → (x < lo ∨ lo + ps.length ≤ x → zsw ps d x = d) ∧ (lo ≤ x → x < lo + ps.length → ∃ q, ps[(x - lo).toNat]? = some q ∧ zsw ps d x = q.2)
  | [], lo, _ => ⟨fun _ => rfl, fun a b => by simp at b; omega⟩
  | (k, l) :: ps, lo, h => by
    have h1 : k = lo ∧ ps.map (fun q => q.1) = zKeys (lo + 1) ps.length := by
      have h2 : k :: ps.map (fun q => q.1) = lo :: zKeys (lo + 1) ps.length := h
      exact ⟨(List.cons.inj h2).1, (List.cons.inj h2).2⟩
    obtain ⟨rfl, h2⟩ := h1
    obtain ⟨i1, i2⟩ := zsw_keys d x ps (k + 1) h2
    have e : zsw ((k, l) :: ps) d x = if x = k then l else zsw ps d x := rfl
    rw [e]
    simp only [List.length_cons]
    refine ⟨fun c => ?_, fun a b => ?_⟩
    · rw [if_neg (by omega)]
      exact i1 (by omega)
    · by_cases c : x = k
      · rw [if_pos c]
        refine ⟨(k, l), ?_, rfl⟩
        rw [show (x - k).toNat = 0 by omega]
        rfl
      · rw [if_neg c]
        obtain ⟨q, q1, q2⟩ := i2 (by omega) (by omega)
        refine ⟨q, ?_, q2⟩
        rw [show (x - k).toNat = (x - (k + 1)).toNat + 1 by omega]
        exact q1
theorem zs_switch (C : zCtx G m0 p s mm args meth cd) (hm : m0 < 307) (hr : m0 ≠ zRef) {d : Int} {ps : Array (Int × Int)} {x : Int32} (hs : zSrt ps.toList = true) (kk : zXW G m0 p l e R s mm args below meth cd FQ h0 (zB m0 (zsw ps.toList d x.toInt)) L st h) : zXW G m0 p l e R s mm args below meth cd FQ h0 (.lookupswitch d ps :: r) L (.int x :: st) h := by
  intro pc hc H locs ls hR hL hlo q1 q2
  obtain ⟨q, hq, hd, hc⟩ := zChk_c (fun _ h => by cases h) hc
  have kk2 := kk _ (zChk_ok hm hr _) H locs ls hR hL hlo q1 q2
  rcases List.mem_cons.mp hq with rfl | hq
  · refine lv_lookup C.x C.b hd (off := zOff m0 pc (zsw ps.toList d x.toInt)) ?_ ?_ zOff_at kk2
    · rw [Array.toList_map]
      exact zSrt_map m0 pc ps.toList hs
    · rw [Array.toList_map]
      exact zsw_look m0 pc d x.toInt ps.toList
  · split at hq
    · cases hq
    · rename_i q0 rr eps
      obtain ⟨hk, hq⟩ := zif_m hq
      rw [List.mem_singleton.mp hq] at hd hc
      have esz : ps.size = ps.toList.length := (Array.length_toList).symm
      obtain ⟨i1, i2⟩ := zsw_keys d x.toInt ps.toList q0.1 (by rw [← esz]; exact hk)
      by_cases c : x.toInt < q0.1 ∨ q0.1 + ps.toList.length ≤ x.toInt
      · rw [i1 c] at kk2
        exact lv_tableOut C.x C.b hd (by rw [esz]; omega) zOff_at kk2
      · obtain ⟨q2, j1, j2⟩ := i2 (by omega) (by omega)
        rw [j2] at kk2
        refine lv_tableIn C.x C.b hd (off := zOff m0 pc q2.2) (by omega) (by rw [esz]; omega) ?_ zOff_at kk2
        rw [Array.getElem?_map, ← Array.getElem?_toList, j1]
        rfl
end
