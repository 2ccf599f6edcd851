/-! SOUNDNESS, 1: how an abstract heap, values, locals stand for the machine's -/
def zG : Type := Heap × (Nat → Nat) × (Nat → Cell) × (Nat → ClassId) × (Nat → Nat → Nat) × (Nat → ClassId)
def zG.H0 (G : zG) : Heap := G.1
def zG.sa (G : zG) : Nat → Nat := G.2.1
def zG.cs (G : zG) : Nat → Cell := G.2.2.1
def zG.dC (G : zG) : Nat → ClassId := G.2.2.2.1
def zG.dI (G : zG) : Nat → Nat → Nat := G.2.2.2.2.1
def zG.cA (G : zG) : Nat → ClassId := G.2.2.2.2.2
def zG.base (G : zG) : Nat := G.H0.size
/-- the machine's address of an abstract one: 0 to 4 were there before -/
def zAdr (G : zG) (r : Nat) : Nat := if r < 5 then G.sa r else G.base + (r - 5)
def zCv (G : zG) (v : Value) : Value := match v with
  | .ref r => .ref (zAdr G r)
  | v => v
theorem zCv_cat (G : zG) (v : Value) : (zCv G v).category = v.category := by cases v <;> rfl
def zEt (t : Nat) : FieldType := [.int, .long, .double, .boolean, .array .int, .array .long, .object (zCn 7)].getD (t - 20) .int
def zTs (r : Nat) : Nat := [30, 30, 30, 31, 32].getD r 0
def zSty (r : Nat) : FieldType := if r = 3 then .long else .int
def zCell (G : zG) (t : Nat) (n : Int) (f : Int → Value) (a : Nat) (H : Heap) : Prop :=
  (t < 11 → t_OB a (G.dC t) (zNf t) (G.dI t) H (fun k => zCv G (f k))) ∧ (20 ≤ t → t ≤ 26 → 0 ≤ n ∧ H[a]? = some (arrV (G.cA t) n.toNat (fun j => zCv G (f j)))) ∧ (t = 20 → ∀ j : Int, 0 ≤ j → j < n → ∃ x : Int32, f j = .int x)
def zRel (G : zG) (h : zH) (H : Heap) : Prop :=
  (5 ≤ h.1.sz ∧ H.size = G.base + (h.1.sz - 5)) ∧ (∀ q : Nat, q < G.base → H[q]? = G.H0[q]?) ∧
  (∀ r, r < 5 → h.1.tg r = zTs r ∧ (∀ j : Int, 0 ≤ j → j < h.1.ln r → (G.cs r).slots[j.toNat]? = some (zCv G (h.2 r j))) ∧ h.1.ln r ≤ (G.cs r).slots.size ∧ (r = 4 → h.1.ln r = (G.cs r).slots.size)) ∧
  (∀ r, 5 ≤ r → r < h.1.sz → h.1.tg r ≤ 26 ∧ zCell G (h.1.tg r) (h.1.ln r) (h.2 r) (zAdr G r) H) ∧
  (∀ r, h.1.sz ≤ r → h.1.tg r = 99)
def zEtx (k : Nat) : Nat × String := [(0, ""), (296, "there is no such service or call"), (303, "an argument is out of range"), (308, "this is not possible now")].getD k (0, "")
def zOld (G : zG) : Nat → Prop := fun q => G.base ≤ q
def zXs : List String := ["java/lang/RuntimeException", "java/lang/Exception"]
/-- what a state's tables, and the heap of the beginning, are known to hold -/
def zKn (G : zG) (U : State) : Prop :=
  (∀ r, r < 5 → G.sa r < G.base ∧ G.H0[G.sa r]? = some (G.cs r) ∧ U.isArrayOf (G.cs r) (zSty r) ∧ (G.cs r).vm ≠ .unknown) ∧
  (∀ t, t < 11 → t ≠ 6 → u_Kn U (zCn t) (zTx t) (zNf t) (G.dC t) (G.dI t)) ∧
  (∀ t, 20 ≤ t → t ≤ 26 → ArrOfT U (G.cA t) (zEt t) ∧ va_RA U (G.cA t) (zEt t)) ∧
  (∀ e ∈ zISN, va_Nw (.methodLinkNest (zCn e.1) e.2.1 (zYn e.2.2) (zCn 9)) U) ∧ (∀ e ∈ zIIN, va_Nw (.methodLinkNest (zCn e.1) e.2.1 (zYn e.2.2) (zCn 9)) U) ∧ (∀ e ∈ zIDd, va_Nw (.declares (zDy e)) U) ∧
  (va_AOA .int U ∧ va_AOA .long U ∧ va_AO (zCn 7) U) ∧
  (∀ n, n < 4 → va_Z (zSn n).1 (zSn n).2.1 (zSn n).2.2 (.ref (G.sa n)) (zOld G) U G.H0) ∧
  (∀ k, 1 ≤ k → k ≤ 3 → ∃ sa, vk_R (zCn 9) (zEtx k).1 (zEtx k).2 sa U) ∧
  (vx_Zq Bundle.tN "UNASSIGNED_STACK" Bundle.steD (zOld G) U G.H0 ∧ vx_Zq Bundle.tN "SUPPRESSED_SENTINEL" Bundle.listD (zOld G) U G.H0 ∧ ∀ n ∈ zXs ++ [Bundle.tN], va_Nw (.declares (Bundle.initS n)) U) ∧
  (∀ a b, 1 ≤ a → a ≤ 3 → 1 ≤ b → b ≤ 3 → a ≠ b → va_Nc (zEn a) (zEn b) U) ∧ (∀ k, 1 ≤ k → k ≤ 3 → va_Nw (.castable (zEn k) (zEn k)) U)
theorem zKn.warm {G : zG} {s U : State} (hW : s.WarmedH U.vm) (h : zKn G s) : zKn G U := by
  obtain ⟨h1, h2, h3, h4, h5, h6, h7, h8, h9, h10, h11, h12⟩ := h
  have ha := hW.alike
  refine ⟨fun r hr => ⟨(h1 r hr).1, (h1 r hr).2.1, State.isArrayOf_alike ha (h1 r hr).2.2.1, (h1 r hr).2.2.2⟩, fun t ht h6 => u_Kn_moved ha (h2 t ht h6), fun t ht ht2 => ⟨arrOfT_moved ha (h3 t ht ht2).1, (h3 t ht ht2).2.moved ha⟩,
    fun e he => va_Nw.warmM hW (h4 e he), fun e he => va_Nw.warmM hW (h5 e he), fun e he => va_Nw.warmD hW (h6 e he), ⟨h7.1.moved ha, h7.2.1.moved ha, h7.2.2.moved ha⟩, fun n hn => va_Z.moved ha (h8 n hn),
    fun k hk hk2 => ?_, ⟨h10.1.moved ha, h10.2.1.moved ha, fun n hn => va_Nw.warmD hW (h10.2.2 n hn)⟩, fun a b q1 q2 q3 q4 q5 => (h11 a b q1 q2 q3 q4 q5).moved ha, fun k q1 q2 => va_Nw.warmC hW (h12 k q1 q2)⟩
  obtain ⟨sa, q⟩ := h9 k hk hk2
  exact ⟨sa, vk_R.warm hW q⟩
/-! locals -/
def zLv (G : zG) (L : List Value) : List (Nat × Value) := (List.range L.length).filterMap (fun k => match L[k]? with
  | some v => if v = zJ then none else some (k, zCv G v)
  | none => none)
theorem zLv_mem {G : zG} {L : List Value} {q : Nat × Value} : q ∈ zLv G L ↔ ∃ v, L[q.1]? = some v ∧ v ≠ zJ ∧ q.2 = zCv G v := by
  unfold zLv
  rw [List.mem_filterMap]
  constructor
  · rintro ⟨k, hk, he⟩
    cases hL : L[k]? with
    | none => rw [hL] at he; simp at he
    | some v =>
      rw [hL] at he
      dsimp only at he
      split at he
      · simp at he
      · rename_i hv
        have e := Option.some.inj he
        subst e
        exact ⟨v, hL, hv, rfl⟩
  · rintro ⟨v, h1, h2, h3⟩
    refine ⟨q.1, List.mem_range.mpr (List.getElem?_eq_some_iff.mp h1).1, ?_⟩
    rw [h1]
    dsimp only
    rw [if_neg h2, ← h3]
def zLR (G : zG) (ls : Array Slot) (nL : Nat) (L : List Value) : Prop := L.length = nL ∧ lv_has ls nL (zLv G L)
theorem zLR.at {G : zG} {ls : Array Slot} {nL : Nat} {L : List Value} (h : zLR G ls nL L) {k : Nat} {v : Value} (hk : L[k]? = some v) (hv : v ≠ zJ) : ls[k]? = some (.val (zCv G v)) :=
  h.2.2.2 (k, zCv G v) (zLv_mem.mpr ⟨v, hk, hv, rfl⟩)
theorem zPrev_at {L : List Value} {k j : Nat} {v : Value} (h : zPrev L k = true) (hj : j + 1 = k) (hv : L[j]? = some v) : v.category = 1 := by
  subst hj
  have h : ((L.getD j zJ).category == 1) = true := h
  rw [List.getD_eq_getElem?_getD, hv] at h
  simpa using h
theorem zLR.set1 {G : zG} {ls : Array Slot} {nL k : Nat} {L : List Value} {u : Value} (h : zLR G ls nL L) (hk : k < L.length) (hp : zPrev L k = true) {ls' : Array Slot}
    (h' : lv_has ls' nL ((k, zCv G u) :: (zLv G L).filter (fun q => !(q.1 == k) && !(q.1 + 1 == k && q.2.category == 2)))) : zLR G ls' nL (L.set k u) := by
  refine ⟨by rw [List.length_set]; exact h.1, h'.1, h'.2.1, fun q hq => ?_⟩
  obtain ⟨v, h1, h2, h3⟩ := zLv_mem.mp hq
  refine h'.2.2 q ?_
  by_cases e : q.1 = k
  · rw [e, List.getElem?_set_self hk] at h1
    have e1 : q = (k, zCv G u) := by rw [← Option.some.inj h1] at h3; exact Prod.ext e h3
    rw [e1]
    exact List.mem_cons_self
  · rw [List.getElem?_set_ne (Ne.symm e)] at h1
    refine List.mem_cons_of_mem _ (List.mem_filter.mpr ⟨zLv_mem.mpr ⟨v, h1, h2, h3⟩, ?_⟩)
    have e2 : (q.1 == k) = false := by simpa using e
    by_cases e3 : q.1 + 1 = k
    · have h4 := zPrev_at hp e3 h1
      have h5 : (q.2.category == 2) = false := by rw [h3, zCv_cat, h4]; rfl
      simp [e2, h5]
    · have e4 : (q.1 + 1 == k) = false := by simpa using e3
      simp [e2, e4]
theorem zLR.set2 {G : zG} {ls : Array Slot} {nL k : Nat} {L : List Value} {u : Value} (h : zLR G ls nL L) (hk : k + 1 < L.length) (hp : zPrev L k = true) {ls' : Array Slot}
    (h' : lv_has ls' nL ((k, zCv G u) :: (zLv G L).filter (fun q => !(q.1 == k) && (!(q.1 == k + 1) && !(q.1 + 1 == k && q.2.category == 2))))) : zLR G ls' nL ((L.set k u).set (k + 1) zJ) := by
  refine ⟨by rw [List.length_set, List.length_set]; exact h.1, h'.1, h'.2.1, fun q hq => ?_⟩
  obtain ⟨v, h1, h2, h3⟩ := zLv_mem.mp hq
  refine h'.2.2 q ?_
  by_cases e0 : q.1 = k + 1
  · rw [e0, List.getElem?_set_self (by rw [List.length_set]; exact hk)] at h1
    exact absurd (Option.some.inj h1).symm h2
  rw [List.getElem?_set_ne (Ne.symm e0)] at h1
  by_cases e : q.1 = k
  · rw [e, List.getElem?_set_self (by omega)] at h1
    have e1 : q = (k, zCv G u) := by rw [← Option.some.inj h1] at h3; exact Prod.ext e h3
    rw [e1]
    exact List.mem_cons_self
  · rw [List.getElem?_set_ne (Ne.symm e)] at h1
    refine List.mem_cons_of_mem _ (List.mem_filter.mpr ⟨zLv_mem.mpr ⟨v, h1, h2, h3⟩, ?_⟩)
    have e2 : (q.1 == k) = false := by simpa using e
    have e5 : (q.1 == k + 1) = false := by simpa using e0
    by_cases e3 : q.1 + 1 = k
    · have h4 := zPrev_at hp e3 h1
      have h5 : (q.2.category == 2) = false := by rw [h3, zCv_cat, h4]; rfl
      simp [e2, e5, h5]
    · have e4 : (q.1 + 1 == k) = false := by simpa using e3
      simp [e2, e4, e5]
theorem zLR.setJ {G : zG} {ls : Array Slot} {nL k : Nat} {L : List Value} {w : Value} (h : zLR G ls nL L) (hk : k < L.length) (hp : zPrev L k = true) {ls' : Array Slot}
    (h' : lv_has ls' nL ((k, w) :: (zLv G L).filter (fun q => !(q.1 == k) && !(q.1 + 1 == k && q.2.category == 2)))) : zLR G ls' nL (L.set k zJ) := by
  refine ⟨by rw [List.length_set]; exact h.1, h'.1, h'.2.1, fun q hq => ?_⟩
  obtain ⟨v, h1, h2, h3⟩ := zLv_mem.mp hq
  refine h'.2.2 q ?_
  by_cases e : q.1 = k
  · rw [e, List.getElem?_set_self hk] at h1
    exact absurd (Option.some.inj h1).symm h2
  · rw [List.getElem?_set_ne (Ne.symm e)] at h1
    refine List.mem_cons_of_mem _ (List.mem_filter.mpr ⟨zLv_mem.mpr ⟨v, h1, h2, h3⟩, ?_⟩)
    have e2 : (q.1 == k) = false := by simpa using e
    by_cases e3 : q.1 + 1 = k
    · have h4 := zPrev_at hp e3 h1
      have h5 : (q.2.category == 2) = false := by rw [h3, zCv_cat, h4]; rfl
      simp [e2, h5]
    · have e4 : (q.1 + 1 == k) = false := by simpa using e3
      simp [e2, e4]
theorem zLR.junk {G : zG} {ls : Array Slot} {nL k : Nat} {L : List Value} (h : zLR G ls nL L) : zLR G ls nL (L.set k zJ) := by
  refine ⟨by rw [List.length_set]; exact h.1, h.2.1, h.2.2.1, fun q hq => ?_⟩
  obtain ⟨v, h1, h2, h3⟩ := zLv_mem.mp hq
  by_cases e : q.1 = k
  · by_cases hk : k < L.length
    · rw [e, List.getElem?_set_self hk] at h1
      exact absurd (Option.some.inj h1).symm h2
    · rw [e, List.getElem?_eq_none (by rw [List.length_set]; omega)] at h1
      cases h1
  · rw [List.getElem?_set_ne (Ne.symm e)] at h1
    exact h.2.2.2 q (zLv_mem.mpr ⟨v, h1, h2, h3⟩)
/-! heap: reading and writing through zRel -/
theorem zAdr_inj {G : zG} {r r' : Nat} (h : 5 ≤ r) (h' : 5 ≤ r') (e : zAdr G r = zAdr G r') : r = r' := by
  unfold zAdr at e
  rw [if_neg (by omega), if_neg (by omega)] at e
  omega
theorem zAdr_base {G : zG} {r : Nat} (h : 5 ≤ r) : G.base ≤ zAdr G r := by
  unfold zAdr
  rw [if_neg (by omega)]
  omega
theorem zAdr_lo {G : zG} {r : Nat} (h : r < 5) : zAdr G r = G.sa r := if_pos h
/-- where the tag tells an object or a row of ours -/
theorem zRel.cell {G : zG} {h : zH} {H : Heap} (hR : zRel G h H) {r t : Nat} (ht : h.1.tg r = t) (h1 : t ≤ 26) : 5 ≤ r ∧ r < h.1.sz ∧ zCell G t (h.1.ln r) (h.2 r) (zAdr G r) H := by
  obtain ⟨⟨g1, g2⟩, g3, g4, g5, g6⟩ := hR
  have hlo : 5 ≤ r := by
    rcases Nat.lt_or_ge r 5 with q | q
    · have := (g4 r q).1
      rw [ht] at this
      have h2 : 30 ≤ zTs r := by
        rcases (by omega : r = 0 ∨ r = 1 ∨ r = 2 ∨ r = 3 ∨ r = 4) with rfl | rfl | rfl | rfl | rfl <;> decide
      omega
    · exact q
  have hhi : r < h.1.sz := by
    rcases Nat.lt_or_ge r h.1.sz with q | q
    · exact q
    · have := g6 r q
      omega
  have := (g5 r hlo hhi).2
  rw [ht] at this
  exact ⟨hlo, hhi, this⟩
theorem zRel.stat {G : zG} {h : zH} {H : Heap} (hR : zRel G h H) {r : Nat} (ht : 30 ≤ h.1.tg r) (ht2 : h.1.tg r ≠ 99) : r < 5 := by
  rcases Nat.lt_or_ge r 5 with q | q
  · exact q
  · rcases Nat.lt_or_ge r h.1.sz with q2 | q2
    · have := (hR.2.2.2.1 r q q2).1
      omega
    · exact absurd (hR.2.2.2.2 r q2) ht2
/-- a cell of ours is written: contents change at r alone -/
theorem zRel.write {G : zG} {h : zH} {H H' : Heap} {r : Nat} {f : Int → Value} (hR : zRel G h H) (h5 : 5 ≤ r) (hs : r < h.1.sz) (hz : H'.size = H.size) (ho : ∀ q : Nat, q ≠ zAdr G r → H'[q]? = H[q]?) (hc : zCell G (h.1.tg r) (h.1.ln r) f (zAdr G r) H') {V' : zV} (hV : V' r = f) (hV2 : ∀ r', r' ≠ r → V' r' = h.2 r') : zRel G (h.1, V') H' := by
  obtain ⟨⟨g1, g2⟩, g3, g4, g5, g6⟩ := hR
  have hb := zAdr_base (G := G) h5
  refine ⟨⟨g1, by rw [hz]; exact g2⟩, fun q hq => by rw [ho q (by omega)]; exact g3 q hq, fun r' hr' => ?_, fun r' h5' hs' => ⟨(g5 r' h5' hs').1, ?_⟩, g6⟩
  · have e : V' r' = h.2 r' := hV2 r' (by omega)
    have := g4 r' hr'
    dsimp only
    rw [e]
    exact this
  · by_cases e : r' = r
    · subst e
      dsimp only
      rw [hV]
      exact hc
    · dsimp only
      rw [hV2 r' e]
      have h2 := (g5 r' h5' hs').2
      have hq : H'[zAdr G r']? = H[zAdr G r']? := ho _ (fun q => e (zAdr_inj h5' h5 q))
      exact ⟨fun ht => (h2.1 ht).kept hq, fun a b => ⟨(h2.2.1 a b).1, by rw [hq]; exact (h2.2.1 a b).2⟩, h2.2.2⟩
/-- a cell is made -/
theorem zRel.made {G : zG} {h : zH} {H : Heap} {cell : Cell} {t : Nat} {n : Int} {k : Nat} {f : Int → Value} (hR : zRel G h H) (ht : t ≤ 26) (hc : ∀ H' : Heap, H'[zAdr G h.1.sz]? = some cell → zCell G t n f (zAdr G h.1.sz) H') : zRel G (zHnew h t n k f) (H.push cell) := by
  obtain ⟨⟨g1, g2⟩, g3, g4, g5, g6⟩ := hR
  have ea : zAdr G h.1.sz = H.size := by
    unfold zAdr
    rw [if_neg (by omega), g2]
  have hold : ∀ q : Nat, q < H.size → (H.push cell)[q]? = H[q]? := fun q hq => by
    rw [Array.getElem?_push, if_neg (by omega)]
  have hsz : ((zHnew h t n k f).1).sz = h.1.sz + 1 := rfl
  have tgE : ∀ r, ((zHnew h t n k f).1).tg r = if r = h.1.sz then t else h.1.tg r := fun _ => rfl
  have lnE : ∀ r, ((zHnew h t n k f).1).ln r = if r = h.1.sz then n else h.1.ln r := fun _ => rfl
  have vE : ∀ r, (zHnew h t n k f).2 r = if r = h.1.sz then f else h.2 r := fun _ => rfl
  refine ⟨⟨by rw [hsz]; omega, by rw [Array.size_push, hsz]; omega⟩, fun q hq => by rw [hold q (by omega)]; exact g3 q hq, fun r hr => ?_, fun r h5 hs => ?_, fun r hr => ?_⟩
  · rw [tgE, lnE, vE, if_neg (by omega), if_neg (by omega), if_neg (by omega)]
    exact g4 r hr
  · rw [tgE, lnE, vE]
    rw [hsz] at hs
    by_cases e : r = h.1.sz
    · subst e
      rw [if_pos rfl, if_pos rfl, if_pos rfl]
      exact ⟨ht, hc _ (by rw [ea]; simp)⟩
    · rw [if_neg e, if_neg e, if_neg e]
      have h2 := g5 r h5 (by omega)
      have hq : (H.push cell)[zAdr G r]? = H[zAdr G r]? := hold _ (by unfold zAdr; rw [if_neg (by omega)]; omega)
      exact ⟨h2.1, fun q => (h2.2.1 q).kept hq, fun a b => ⟨(h2.2.2.1 a b).1, by rw [hq]; exact (h2.2.2.1 a b).2⟩, h2.2.2.2⟩
  · rw [tgE]
    rw [hsz] at hr
    rw [if_neg (by omega)]
    exact g6 r (by omega)
theorem zAdr_sz {G : zG} {h : zH} {H : Heap} (hR : zRel G h H) : zAdr G h.1.sz = H.size := by
  obtain ⟨⟨g1, g2⟩, -⟩ := hR
  unfold zAdr
  rw [if_neg (by omega), g2]
