/-! SOUNDNESS, 10: from bodies to contracts; all calls -/
/-! entering a body -/
theorem zC1_cons {v : Value} {vs : List Value} (h : zC1 (v :: vs) = true) : v.category = 1 ∧ zC1 vs = true := by
  unfold zC1 at h ⊢
  rw [List.all_cons, Bool.and_eq_true] at h
  exact ⟨by simpa using h.1, h.2⟩
theorem zC1_map {G : zG} : ∀ {vs : List Value}, zC1 vs = true → zC1 (vs.map (zCv G)) = true
  | [], _ => rfl
  | v :: vs, h => by
    obtain ⟨h1, h2⟩ := zC1_cons h
    have h3 := zC1_map (G := G) h2
    unfold zC1 at h3 ⊢
    rw [List.map_cons, List.all_cons, zCv_cat, h1, h3]
    rfl
theorem zC1_sl : ∀ {vs : List Value}, zC1 vs = true → (lg_sl vs).length = vs.length
  | [], _ => rfl
  | v :: vs, h => by
    obtain ⟨h1, h2⟩ := zC1_cons h
    have h3 := zC1_sl h2
    unfold lg_sl at h3 ⊢
    rw [List.flatMap_cons, List.length_append, h3, h1, if_neg (by decide), List.length_cons]
    simp only [List.length_cons, List.length_nil]
    omega
theorem zC1_args : ∀ {vs : List Value} {i k : Nat} {v : Value}, zC1 vs = true → vs[k]? = some v → (i + k, v) ∈ lv_args i vs
  | [], _, k, _, _, h => by simp at h
  | w :: vs, i, 0, v, h, hk => by
    have e : w = v := by simpa using hk
    rw [e]
    exact List.mem_cons_self
  | w :: vs, i, k + 1, v, h, hk => by
    obtain ⟨h1, h2⟩ := zC1_cons h
    have h3 := zC1_args (i := i + 1) (k := k) (v := v) h2 (by simpa using hk)
    unfold lv_args
    rw [h1, if_neg (by decide)]
    rw [show i + (k + 1) = i + 1 + k by omega]
    exact List.mem_cons_of_mem _ h3
theorem zEnt {G : zG} (as : List Value) (n : Nat) (h1 : zC1 as = true) (hn : as.length ≤ n) (mm : MethodId) : ∃ ls, entryFrame mm (as.map (zCv G)).toArray n = F0 mm 0 ls [] ∧ zLR G ls n (as ++ List.replicate (n - as.length) zJ) := by
  have h2 := zC1_map (G := G) h1
  have h3 := zC1_sl h2
  rw [List.length_map] at h3
  have hl := lv_entry (as.map (zCv G)) (n := n) (by rw [h3]; exact hn)
  refine ⟨_, lg_entry_eq mm (as.map (zCv G)) n, ?_, hl.1, hl.2.1, fun q hq => ?_⟩
  · rw [List.length_append, List.length_replicate]
    omega
  · obtain ⟨v, g1, g2, g3⟩ := zLv_mem.mp hq
    refine hl.2.2 q ?_
    have hlt : q.1 < as.length := by
      rcases Nat.lt_or_ge q.1 as.length with c | c
      · exact c
      · rw [List.getElem?_append_right c] at g1
        have := List.mem_of_getElem? g1
        rw [List.mem_replicate] at this
        exact absurd this.2 g2
    rw [List.getElem?_append_left hlt] at g1
    have h4 := zC1_args (i := 0) (k := q.1) (v := zCv G v) h2 (by rw [List.getElem?_map, g1]; rfl)
    rw [Nat.zero_add, ← g3] at h4
    exact h4
/-! a heap with one exception more -/
theorem zRel.exc {G : zG} {h : zH} {H H' : Heap} {t : Nat} {f : Int → Value} (hR : zRel G h H) (hs : H'.size = H.size + 1) (hq : ∀ q : Nat, q < H.size → H'[q]? = H[q]?) (h1 : 11 ≤ t) (h3 : t ≤ 13) : zRel G (zHnew h t 0 6 f) H' := by
  have e : H' = H.push (H'[H.size]'(by omega)) := by
    apply Array.ext_getElem?
    intro i
    rw [Array.getElem?_push]
    split
    · rename_i e
      subst e
      exact Array.getElem?_eq_getElem (by omega)
    · rename_i e
      rcases Nat.lt_or_ge i H.size with c | c
      · exact hq i c
      · rw [Array.getElem?_eq_none (by omega), Array.getElem?_eq_none c]
  rw [e]
  exact hR.made (by omega) (fun _ _ => ⟨fun _ => by omega, fun _ => by omega, fun _ => by omega⟩)
section
variable {G : zG} {l : Launch} {d m : Nat}
/-- from a body to its contract -/
theorem zx_of (hm : m < 307) {rm : Room} {Pc : Array Value → State → Prop} {Qc : Array Value → State → Outcome → State → Prop} {XC : String → State → State → Prop} {mc ms : Nat} {free : Addr → Prop} (hK : ∀ a U, Pc a U → zKn G U)
    (body : ∀ (p : Program) (e : Env) (s : State) (mm : MethodId) (args : Array Value) (below : List Frame) (meth : Method) (c : Code), zCtx G m p s mm args meth c → Pc args s → W p l e rm s mm args below meth c s.heap [] 0 0 (vx_MQ below Qc XC args s mc ms free) (entryFrame mm args (zMl m))) : vx_Met l (zYn m) (zWs m) rm Pc Qc XC mc ms free := by
  refine MetFree.of_bodySF (code := zCd m) (maxLocals := zMl m) (ret := zRt m) (zPlain m hm) ?_ ?_
  · intro args s mm h hn
    have hw : (zCw m).before args s = true := atoms_spec (ws := zWs m) h _ List.mem_cons_self
    by_cases c0 : zHh m = []
    · rw [zCw_code c0] at hw
      obtain ⟨meth, c, h1, h2, h3, h4, h5, h6, -, -⟩ := Cond.code_spec hn hw
      exact ⟨meth, c, h1, h2, h3, h4, h5, h6⟩
    · rw [zCw_with c0] at hw
      obtain ⟨m9, meth, c, hn9, h1, h2, h3, h4, -, h5, h6, -⟩ := Cond.codeWith_spec hw
      cases hn.symm.trans hn9
      exact ⟨meth, c, h1, h2, h3, h4, h5, h6⟩
  · intro p e s mm args below meth c s₁ B hml hP _
    have hh0 : s₁.heap = s.heap := by rw [B.state]; rfl
    have hw : (zCw m).before args s = true := atoms_spec (ws := zWs m) B.pre _ List.mem_cons_self
    have htb : c.exceptionTable.toList = tableOf (zHh m) := by
      by_cases c0 : zHh m = []
      · rw [zCw_code c0] at hw
        obtain ⟨meth9, c9, h1, h2, -, -, -, -, h7, -⟩ := Cond.code_spec B.named hw
        cases Option.some.inj (h1.symm.trans B.method)
        cases Option.some.inj (h2.symm.trans (Stand.of_body B).code)
        rw [Array.isEmpty_iff.mp h7, c0]
        rfl
      · rw [zCw_with c0] at hw
        exact vx_table (x := zYn m) B hw
    have C : zCtx G m p s mm args meth c := ⟨B.exec, B.bytes, B.returns, hml, by rw [← (zNames m hm).1]; exact findClass_of_methodNamed B.named, fun w hw => atoms_spec (ws := zWs m) B.pre w (List.mem_cons_of_mem _ hw), BodyLoose.notSynchronized B, fun k1 => by rw [(name_of_methodNamed B.named B.method).1]; exact (zNames m hm).2.2.2.1.mp k1, hK _ _ hP, htb⟩
    obtain ⟨t, a1, o, b1, b2, b3⟩ := body p e s mm args below meth c C hP s₁ hh0 (Stand.of_body B)
    exact ⟨t, o, a1, b1, b2, b3⟩
/-! sizes -/
def zSzP (C : Nat → List Value → zH → (zO → zH → Prop) → Prop) : Prop := ∀ y as h o h', C y as h (fun o2 h2 => o2 = o ∧ h2 = h') → h.1.sz ≤ h'.1.sz ∧ h.1.sl ≤ h'.1.sl
theorem zwp_sz {C : Nat → List Value → zH → (zO → zH → Prop) → Prop} (hRes : zRes C) (hS : zSzP C) {m0 : Nat} {Q : zO → zH → Prop} {c1 s1 : Nat} (hQ : ∀ o h, Q o h → h.1.sz = c1 ∧ h.1.sl = s1) {c : List Instr} {L st : List Value} {h : zH} (hw : zwp C m0 Q c L st h) : h.1.sz ≤ c1 ∧ h.1.sl ≤ s1 := by
  refine hw (fun c L st h => h.1.sz ≤ c1 ∧ h.1.sl ≤ s1) ?_
  intro c L st h hf
  have hk : ∀ {al : Bool} {r : List Instr} {L st : List Value} {o : zO} {h : zH}, zK al m0 Q (fun c L st h => h.1.sz ≤ c1 ∧ h.1.sl ≤ s1) r L st o h → h.1.sz ≤ c1 ∧ h.1.sl ≤ s1 := by
    intro al r L st o h b2
    match o, b2 with
    | .inl none, b2 => exact b2
    | .inl (some v), b2 => exact b2
    | .inr k, b2 =>
      unfold zK at b2
      dsimp only at b2
      obtain ⟨-, b2⟩ := b2
      split at b2
      · obtain ⟨e1, e2⟩ := hQ _ _ b2.2
        omega
      · split at b2
        · exact b2.2.2
        · exact b2.elim
  unfold zF at hf
  split at hf
  · exact hf.elim
  · split at hf
    · obtain ⟨a1, a2, a3⟩ := hf
      obtain ⟨o1, h1, b1, b2⟩ := hRes _ _ _ _ a3
      have z := hS _ _ _ _ _ b1
      have := hk b2
      omega
    · obtain ⟨a1, a2, a, y, a3, a4, a5⟩ := hf
      obtain ⟨o1, h1, b1, b2⟩ := hRes _ _ _ _ a5
      have z := hS _ _ _ _ _ b1
      have := hk b2
      omega
    · obtain ⟨e1, e2⟩ := hQ _ _ hf.2.2
      omega
    · obtain ⟨x, g1, g2, g3⟩ := hf
      obtain ⟨e1, e2⟩ := hQ _ _ g3
      omega
    · obtain ⟨g1, x, g2, g3⟩ := hf
      obtain ⟨e1, e2⟩ := hQ _ _ g3
      omega
    · obtain ⟨g1, x, g2, g3⟩ := hf
      obtain ⟨e1, e2⟩ := hQ _ _ g3
      omega
    · split at hf
      · rename_i q hs
        have z := zstep_sz hs
        omega
      · exact hf.elim
theorem zcall_sz : ∀ d, zSzP (zcall d)
  | 0 => fun _ _ _ _ _ h => h.elim
  | d + 1 => by
    intro y as h o h' hc
    by_cases e : y = zRef
    · subst e
      obtain ⟨x, rfl⟩ := zcall_ref hc
      have hc2 : 5 ≤ d ∧ zRefuse [.int x] h _ := hc
      have hc3 := hc2.2
      unfold zRefuse at hc3
      dsimp only at hc3
      have hn : ∀ t f, h.1.sz ≤ (zHnew h t 0 6 f).1.sz ∧ h.1.sl ≤ (zHnew h t 0 6 f).1.sl := fun t f => ⟨Nat.le_succ _, Nat.le_add_right _ _⟩
      by_cases e1 : x = 1
      · rw [if_pos e1] at hc3
        rw [← hc3.2]
        exact hn _ _
      rw [if_neg e1] at hc3
      by_cases e2 : x = 2
      · rw [if_pos e2] at hc3
        rw [← hc3.2]
        exact hn _ _
      rw [if_neg e2] at hc3
      by_cases e3 : x = 3
      · rw [if_pos e3] at hc3
        rw [← hc3.2]
        exact hn _ _
      rw [if_neg e3] at hc3
      rw [← hc3.2]
      exact ⟨Nat.le_refl _, Nat.le_refl _⟩
    · obtain ⟨a1, a2⟩ := zcall_at hc e
      rw [zcall_in e a1 a2] at hc
      exact zwp_sz (zcall_res d) (zcall_sz d) (fun o h q => by rw [q.2]; exact ⟨rfl, rfl⟩) hc
/-! ends -/
variable {p : Program} {e : Env} {R : Room} {s : State} {mm : MethodId} {args : Array Value} {below : List Frame} {meth : Method} {cd : Code} {h0 : zH} {o : zO} {h' : zH}
theorem zEnds (C : zCtx G m p s mm args meth cd) (i : Instr) (r : List Instr) (L st : List Value) (h : zH) (hE : zIsEnd m (fun o2 h2 => o2 = o ∧ h2 = h') i st h) : zXW G m p l e R s mm args below meth cd (vx_MQ below (zQcd G o h') (zXcd G o h') args s (h'.1.sz - h0.1.sz) (h'.1.sl - h0.1.sl) (zOld G)) h0 (i :: r) L st h := by
  intro pc hc H locs ls hR hL hlo q1 q2
  unfold zIsEnd at hE
  split at hE
  · obtain ⟨k0, rfl, e1, rfl⟩ := hE
    obtain ⟨hd, -⟩ := zChk_1 (fun _ h => by cases h) rfl hc
    exact vx_ret (W.vret C.x C.b (by rw [C.rt]; unfold zRt; rw [k0]; rfl) (fun t ht hW => ⟨none, e1.symm, rfl, by rw [ht]; exact hR⟩) hlo hd C.lk)
  · obtain ⟨x, rfl, k0, e1, rfl⟩ := hE
    obtain ⟨hd, -⟩ := zChk_1 (fun _ h => by cases h) rfl hc
    rcases k0 with k0 | ⟨k0, hx⟩
    · exact vx_ret (W.iret C.x C.b (by rw [C.rt]; unfold zRt; rw [k0]; rfl) (fun t ht hW => ⟨_, e1.symm, rfl, by rw [ht]; exact hR⟩) hlo hd C.lk)
    · exact vx_ret (W.zret (ty := .boolean) C.x C.b (by rw [C.rt]; unfold zRt; rw [k0]; rfl) (by rcases hx with rfl | rfl <;> rfl) (fun t ht hW => ⟨_, e1.symm, rfl, by rw [ht]; exact hR⟩) hlo hd C.lk)
  · obtain ⟨k0, x, rfl, e1, rfl⟩ := hE
    obtain ⟨hd, -⟩ := zChk_1 (fun _ h => by cases h) rfl hc
    exact vx_ret (W.lret C.x C.b (by rw [C.rt]; unfold zRt; rw [k0]; rfl) (fun t ht hW => ⟨_, e1.symm, rfl, by rw [ht]; exact hR⟩) hlo hd C.lk)
  · obtain ⟨k0, x, rfl, e1, rfl⟩ := hE
    obtain ⟨hd, -⟩ := zChk_1 (fun _ h => by cases h) rfl hc
    exact vx_ret (W.dret C.x C.b (by rw [C.rt]; unfold zRt; rw [k0]; rfl) (fun t ht hW => ⟨_, e1.symm, rfl, by rw [ht]; exact hR⟩) hlo hd C.lk)
  · exact hE.elim
theorem zOuts (C : zCtx G m p s mm args meth cd) (k : Nat) (h : zH) (L : List Value) (hH : zHh m = []) (hq : (.inr k : zO) = o ∧ h = h') : zTX G m p l e R s mm args below meth cd (vx_MQ below (zQcd G o h') (zXcd G o h') args s (h'.1.sz - h0.1.sz) (h'.1.sl - h0.1.sl) (zOld G)) h0 L k h := by
  obtain ⟨e1, rfl⟩ := hq
  intro pc H locs ls rest q ce hcov hR hL hlo q1 q2 hce hcv hcl
  exact vx_out (E := zEn k) (by rw [C.tb, hH]; intro x hx; cases hx) C.lk hce hcv hcl (fun t ht _ => ⟨k, e1.symm, rfl, by rw [ht]; exact hR⟩) hlo (Nat.le_refl _) (Nat.le_refl _)
/-- a call of a method but refuse -/
theorem zMet (IH : zIH G l d) {y : Nat} {as : List Value} {h : zH} (h1 : zC1 as = true) (hy : y ≠ zRef) (hc : zcall (d + 1) y as h (fun o2 h2 => o2 = o ∧ h2 = h')) : zCon G l (d + 1) y as h o h' := by
  obtain ⟨a1, a2⟩ := zcall_at hc hy
  obtain ⟨ok, -⟩ := zRc_0 a2
  have hy7 : y < 307 ∧ y ≠ zLaw := by
    unfold zOk at ok
    simpa using ok
  obtain ⟨s1, s2⟩ := zcall_sz (d + 1) _ _ _ _ _ hc
  rw [zcall_in hy a1 a2] at hc
  refine ⟨s1, s2, zx_of hy7.1 (fun a U q => q.2.2) (fun p e s mm args below meth c C hP => ?_)⟩
  obtain ⟨ha, hR, hK⟩ := hP
  obtain ⟨ls, e1, hL⟩ := zEnt (G := G) as (zMl y) h1 (by rw [a1]; exact zNa_le y hy7.1) mm
  have hb := (z_body (h0 := h) (e := e) (below := below) (R := zRm (d + 1) (h'.1.sz - h.1.sz) (h'.1.sl - h.1.sl)) (FQ := vx_MQ below (zQcd G o h') (zXcd G o h') args s (h'.1.sz - h.1.sz) (h'.1.sl - h.1.sl) (zOld G)) IH C hy7.1 hy (Nat.le_refl _) (Nat.le_refl _) (c1 := h'.1.sz) (s1 := h'.1.sl) (fun o2 h2 q => by rw [q.2]; exact ⟨rfl, rfl⟩) ⟨Nat.le_refl _, Nat.le_refl _⟩ (zEnds C) (fun k h2 L => zOuts C k h2 L) hc).2
  have hck := zChk_ok hy7.1 hy 0
  rw [zPc_0 y hy7.1] at hck
  have := hb 0 hck s.heap [] ls hR hL (fun _ h => nomatch h) (Nat.le_refl _) (Nat.le_refl _)
  rw [Nat.sub_self, Nat.sub_self] at this
  rw [ha, e1]
  rw [ha] at this
  exact this
end
section
variable {G : zG} {l : Launch} {d : Nat} {p : Program} {e : Env} {R : Room} {s : State} {mm : MethodId} {args : Array Value} {below : List Frame} {meth : Method} {cd : Code} {h h' : zH} {o : zO} {ls : Array Slot}
theorem zXd_at {k : Nat} (hk : k < 4) (h1 : 1 ≤ k) : decode (zCd zRef) (zXk k).1 = .ok (.new (zXk k).2.1, 3) ∧ decode (zCd zRef) ((zXk k).1 + 3) = .ok (.dup, 1) ∧ decode (zCd zRef) ((zXk k).1 + 4) = .ok (.ldc_w (zXk k).2.2.1, 3) ∧ decode (zCd zRef) ((zXk k).1 + 7) = .ok (.invokespecial (zXk k).2.2.2, 3) ∧ decode (zCd zRef) ((zXk k).1 + 10) = .ok (.athrow, 1) := by
  have h := zXd_ok k hk h1
  unfold zXd at h
  split at h
  · rename_i a b c d e g1 g2 g3 g4 g5
    simp only [Bool.and_eq_true, decide_eq_true_eq] at h
    obtain ⟨⟨⟨⟨r1, r2⟩, r3⟩, r4⟩, r5⟩ := h
    subst r1 r2 r3 r4 r5
    exact ⟨g1, g2, g3, g4, g5⟩
  · cases h
theorem zXw_in {k : Nat} (hk : k < 4) (h1 : 1 ≤ k) : ∀ w ∈ zXw k, w ∈ zGood := by
  have h : (zXw k).all (fun w => decide (w ∈ tables_1) && goodWord w) = true := by
    rcases (by omega : k = 1 ∨ k = 2 ∨ k = 3) with rfl | rfl | rfl
    · exact zXw_1
    · exact zXw_2
    · exact zXw_3
  intro w hw
  have := List.all_eq_true.mp h w hw
  simp only [Bool.and_eq_true, decide_eq_true_eq] at this
  exact zT_1 this.1 this.2
theorem zXo_in {k : Nat} (hk : k < 4) (h1 : 1 ≤ k) (C : zCtx G zRef p s mm args meth cd) : ∀ w ∈ vx_atS (zCn 9) (zXk k).2.2.2 (zEn k) zXs, w.before args s = true := by
  have hd : ∀ n ∈ zXs ++ [Bundle.tN], (Cond.declares (Bundle.initS n)).before args s = true := fun n hn => va_Nw.use rfl (C.kn.2.2.2.2.2.2.2.2.2.1.2.2 n hn)
  have hB : ∀ w ∈ [Cond.declares (Bundle.initS "java/lang/RuntimeException"), .declares (Bundle.initS "java/lang/Exception"), .declares (Bundle.initS Bundle.tN), .castable (zEn k) (zEn k)], w.before args s = true :=
    vx_c (hd _ (by simp [zXs])) (vx_c (hd _ (by simp [zXs])) (vx_c (hd _ (by simp [zXs])) (vx_c (va_Nw.use rfl (C.kn.2.2.2.2.2.2.2.2.2.2.2 k h1 (by omega))) vx_n)))
  refine vx_hat (fun w hw => C.ts w (zXw_in hk h1 w (List.mem_cons_of_mem _ (List.mem_cons_of_mem _ hw)))) (fun w hw => ?_) hB
  rcases (by omega : k = 1 ∨ k = 2 ∨ k = 3) with rfl | rfl | rfl
  · rw [zXo_1] at hw; exact hw
  · rw [zXo_2] at hw; exact hw
  · rw [zXo_3] at hw; exact hw
/-- refuse throws -/
theorem zx_thr (hl : l.stackTraces = false) (C : zCtx G zRef p s mm args meth cd) (hR : zRel G h s.heap) (hsz : ls.size = zMl zRef) {k : Nat} (hk : k < 4) (h1 : 1 ≤ k) (hf : 6 ≤ R.frames) (hlo : 82 ≤ R.locals) (hc : 1 ≤ R.cells) (hs : 6 ≤ R.slots) :
    W p l e R s mm args below meth cd s.heap [] 0 0 (vx_MQ below (zQcd G (.inr k) (zHnew h (10 + k) 0 6 (fun _ => .null))) (zXcd G (.inr k) (zHnew h (10 + k) 0 6 (fun _ => .null))) args s 1 6 (zOld G)) (F0 mm (zXk k).1 ls []) := by
  obtain ⟨d0, d3, d4, d7, d10⟩ := zXd_at hk h1
  obtain ⟨sa, hsa⟩ := C.kn.2.2.2.2.2.2.2.2.1 k h1 (by omega)
  have eX : (zEtx k).1 = (zXk k).2.2.1 := by
    rcases (by omega : k = 1 ∨ k = 2 ∨ k = 3) with rfl | rfl | rfl <;> rfl
  rw [eX] at hsa
  have hkeep : ∀ a : Nat, a < G.H0.size → ¬ zOld G a → s.heap[a]? = G.H0[a]? := fun a ha _ => hR.2.1 a ha
  have how : zCn (zOw zRef) = zCn 9 := by decide +kernel
  have hown := C.own
  rw [how] at hown
  exact zx_throwSW (names := zXs) (A := zOld G) C.x C.b hl hown (zXfit k hk h1) zXsfit (C.ts _ (zXw_in hk h1 _ List.mem_cons_self)) (C.ts _ (zXw_in hk h1 _ (List.mem_cons_of_mem _ List.mem_cons_self))) hsa (zXo_in hk h1 C) (zXot k hk h1)
    (C.kn.2.2.2.2.2.2.2.2.2.1.1.kept hkeep) (C.kn.2.2.2.2.2.2.2.2.2.1.2.1.kept hkeep) va_S.rf (by rw [C.ml]; exact hsz) d0 d3 d4 d7 d10
    (by rw [C.tb]; intro x hx; cases hx) (by show 2 + 3 < _; omega) (by show 0 + (13 * (2 + 1) + 43) ≤ _; omega) (by omega) (by omega) C.lk
    (fun t _ hz hq => ⟨k, rfl, rfl, hR.exc hz hq (by omega) (by omega)⟩) (fun _ h => nomatch h) (Nat.le_refl _) (Nat.le_refl _)
def zRfd : Bool := match decode (zCd zRef) 0, decode (zCd zRef) 1, decode (zCd zRef) 2, decode (zCd zRef) 16, decode (zCd zRef) 17, decode (zCd zRef) 18, decode (zCd zRef) 32, decode (zCd zRef) 33, decode (zCd zRef) 34, decode (zCd zRef) 48 with
  | .ok a, .ok b, .ok c, .ok a1, .ok b1, .ok c1, .ok a2, .ok b2, .ok c2, .ok e => decide (a = (.iload_n 0, 1)) && decide (b = (.iconst 1, 1)) && decide (c = (.if_icmp .ne 14, 3)) && decide (a1 = (.iload_n 0, 1)) && decide (b1 = (.iconst 2, 1)) && decide (c1 = (.if_icmp .ne 14, 3)) && decide (a2 = (.iload_n 0, 1)) && decide (b2 = (.iconst 3, 1)) && decide (c2 = (.if_icmp .ne 14, 3)) && decide (e = (.return_, 1))
  | _, _, _, _, _, _, _, _, _, _ => false
theorem zRfd_ok : zRfd = true := by decide +kernel
theorem zRfd_at : (decode (zCd zRef) 0 = .ok (.iload_n 0, 1) ∧ decode (zCd zRef) 1 = .ok (.iconst 1, 1) ∧ decode (zCd zRef) 2 = .ok (.if_icmp .ne 14, 3)) ∧ (decode (zCd zRef) 16 = .ok (.iload_n 0, 1) ∧ decode (zCd zRef) 17 = .ok (.iconst 2, 1) ∧ decode (zCd zRef) 18 = .ok (.if_icmp .ne 14, 3)) ∧ (decode (zCd zRef) 32 = .ok (.iload_n 0, 1) ∧ decode (zCd zRef) 33 = .ok (.iconst 3, 1) ∧ decode (zCd zRef) 34 = .ok (.if_icmp .ne 14, 3)) ∧ decode (zCd zRef) 48 = .ok (.return_, 1) := by
  have h := zRfd_ok
  unfold zRfd at h
  split at h
  · rename_i g1 g2 g3 g4 g5 g6 g7 g8 g9 g10
    simp only [Bool.and_eq_true, decide_eq_true_eq] at h
    obtain ⟨⟨⟨⟨⟨⟨⟨⟨⟨r1, r2⟩, r3⟩, r4⟩, r5⟩, r6⟩, r7⟩, r8⟩, r9⟩, r10⟩ := h
    subst r1 r2 r3 r4 r5 r6 r7 r8 r9 r10
    exact ⟨⟨g1, g2, g3⟩, ⟨g4, g5, g6⟩, ⟨g7, g8, g9⟩, g10⟩
  · cases h
theorem zx_ref (hl : l.stackTraces = false) (hd : 5 ≤ d) {x : Int32} (hc : zRefuse [.int x] h (fun o2 h2 => o2 = o ∧ h2 = h')) : zCon G l (d + 1) zRef [.int x] h o h' := by
  unfold zRefuse at hc
  dsimp only at hc
  obtain ⟨⟨a1, a2, a3⟩, ⟨b1, b2, b3⟩, ⟨c1, c2, c3⟩, dr⟩ := zRfd_at
  have start : ∀ {Qc : Array Value → State → Outcome → State → Prop} {XC : String → State → State → Prop} {mc ms cc ss : Nat}, (∀ (p : Program) (e : Env) (s : State) (mm : MethodId) (args : Array Value) (below : List Frame) (meth : Method) (c : Code) (ls : Array Slot), zCtx G zRef p s mm args meth c → zRel G h s.heap → ls.size = zMl zRef →
      (x = 1 → W p l e (zRm (d + 1) cc ss) s mm args below meth c s.heap [] 0 0 (vx_MQ below Qc XC args s mc ms (zOld G)) (F0 mm 5 ls [])) ∧ (x ≠ 1 → x = 2 → W p l e (zRm (d + 1) cc ss) s mm args below meth c s.heap [] 0 0 (vx_MQ below Qc XC args s mc ms (zOld G)) (F0 mm 21 ls [])) ∧ (x ≠ 1 → x ≠ 2 → x = 3 → W p l e (zRm (d + 1) cc ss) s mm args below meth c s.heap [] 0 0 (vx_MQ below Qc XC args s mc ms (zOld G)) (F0 mm 37 ls [])) ∧ (x ≠ 1 → x ≠ 2 → x ≠ 3 → W p l e (zRm (d + 1) cc ss) s mm args below meth c s.heap [] 0 0 (vx_MQ below Qc XC args s mc ms (zOld G)) (F0 mm 48 ls []))) →
      vx_Met l (zYn zRef) (zWs zRef) (zRm (d + 1) cc ss) (zPcd G [.int x] h) Qc XC mc ms (zOld G) := by
    intro Qc XC mc ms cc ss body
    refine zx_of (by decide) (fun a U q => q.2.2) (fun p e s mm args below meth c C hP => ?_)
    obtain ⟨ha, hR, hK⟩ := hP
    obtain ⟨ls, e1, hL⟩ := zEnt (G := G) [.int x] (zMl zRef) rfl (zNa_le zRef (by decide)) mm
    obtain ⟨k1, k2, k3, k4⟩ := body p e s mm args below meth c ls C hR hL.2.1
    have hl0 : ls[0]? = some (.val (.int x)) := hL.at (k := 0) rfl (by intro q; cases q)
    rw [show entryFrame mm args (zMl zRef) = F0 mm 0 ls [] by rw [ha]; exact e1]
    refine lv_iload_n C.x C.b a1 rfl hl0 (lv_iconst C.x C.b a2 rfl (lv_icmp_ne C.x C.b a3 (tgt := 16) rfl (fun q1 => ?_) (fun q1 => k1 q1)))
    refine lv_iload_n C.x C.b b1 rfl hl0 (lv_iconst C.x C.b b2 rfl (lv_icmp_ne C.x C.b b3 (tgt := 32) rfl (fun q2 => ?_) (fun q2 => k2 q1 q2)))
    exact lv_iload_n C.x C.b c1 rfl hl0 (lv_iconst C.x C.b c2 rfl (lv_icmp_ne C.x C.b c3 (tgt := 48) rfl (fun q3 => k4 q1 q2 q3) (fun q3 => k3 q1 q2 q3)))
  have hn : ∀ t f, ((zHnew h t 0 6 f).1.sz - h.1.sz = 1 ∧ (zHnew h t 0 6 f).1.sl - h.1.sl = 6) ∧ h.1.sz ≤ (zHnew h t 0 6 f).1.sz ∧ h.1.sl ≤ (zHnew h t 0 6 f).1.sl := fun t f => by
    have e1 : (zHnew h t 0 6 f).1.sz = h.1.sz + 1 := rfl
    have e2 : (zHnew h t 0 6 f).1.sl = h.1.sl + 6 := rfl
    omega
  by_cases x1 : x = 1
  · rw [if_pos x1] at hc
    obtain ⟨rfl, rfl⟩ := hc
    refine ⟨(hn _ _).2.1, (hn _ _).2.2, ?_⟩
    rw [(hn _ _).1.1, (hn _ _).1.2]
    exact start (fun p e s mm args below meth c ls C hR hz => ⟨fun _ => zx_thr (k := 1) hl C hR hz (by omega) (by omega) (by show 6 ≤ d + 1; omega) (by show 82 ≤ 64 * (d + 1); omega) (Nat.le_refl _) (Nat.le_refl _), fun q => absurd x1 q, fun q => absurd x1 q, fun q => absurd x1 q⟩)
  rw [if_neg x1] at hc
  by_cases x2 : x = 2
  · rw [if_pos x2] at hc
    obtain ⟨rfl, rfl⟩ := hc
    refine ⟨(hn _ _).2.1, (hn _ _).2.2, ?_⟩
    rw [(hn _ _).1.1, (hn _ _).1.2]
    exact start (fun p e s mm args below meth c ls C hR hz => ⟨fun q => absurd q x1, fun _ _ => zx_thr (k := 2) hl C hR hz (by omega) (by omega) (by show 6 ≤ d + 1; omega) (by show 82 ≤ 64 * (d + 1); omega) (Nat.le_refl _) (Nat.le_refl _), fun _ q => absurd x2 q, fun _ q => absurd x2 q⟩)
  rw [if_neg x2] at hc
  by_cases x3 : x = 3
  · rw [if_pos x3] at hc
    obtain ⟨rfl, rfl⟩ := hc
    refine ⟨(hn _ _).2.1, (hn _ _).2.2, ?_⟩
    rw [(hn _ _).1.1, (hn _ _).1.2]
    exact start (fun p e s mm args below meth c ls C hR hz => ⟨fun q => absurd q x1, fun _ q => absurd q x2, fun _ _ _ => zx_thr (k := 3) hl C hR hz (by omega) (by omega) (by show 6 ≤ d + 1; omega) (by show 82 ≤ 64 * (d + 1); omega) (Nat.le_refl _) (Nat.le_refl _), fun _ _ q => absurd x3 q⟩)
  rw [if_neg x3] at hc
  obtain ⟨rfl, rfl⟩ := hc
  refine ⟨Nat.le_refl _, Nat.le_refl _, ?_⟩
  rw [Nat.sub_self, Nat.sub_self]
  exact start (fun p e s mm args below meth c ls C hR hz => ⟨fun q => absurd q x1, fun _ q => absurd q x2, fun _ _ q => absurd q x3, fun _ _ _ => vx_ret (W.vret C.x C.b (by rw [C.rt]; rfl) (fun t ht hW => ⟨none, rfl, rfl, by rw [ht]; exact hR⟩) (fun _ h => nomatch h) dr C.lk)⟩)
/-- ALL CALLS -/
theorem z_all (hl : l.stackTraces = false) : ∀ d, zIH G l d
  | 0 => fun _ _ _ _ _ _ h => h.elim
  | d + 1 => by
    intro y as h o h' h1 hc
    by_cases e : y = zRef
    · subst e
      obtain ⟨x, rfl⟩ := zcall_ref hc
      have hc2 : 5 ≤ d ∧ zRefuse [.int x] h _ := hc
      exact zx_ref hl hc2.1 hc2.2
    · exact zMet (z_all hl d) h1 e hc
end
