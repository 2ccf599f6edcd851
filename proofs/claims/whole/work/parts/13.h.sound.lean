/-! SOUNDNESS, 8: calls by the receiver's class, throws, ends, the whole -/
section
variable {G : zG} {m0 d : Nat} {p : Program} {l : Launch} {e : Env} {R : Room} {s : State} {mm : MethodId} {args : Array Value} {below : List Frame} {meth : Method} {cd : Code} {FQ : State → Prop} {h0 : zH} {r : List Instr} {L st : List Value} {h : zH}
theorem zDisp_in {k t y : Nat} (h : zDisp k t = some y) : (k, t, y) ∈ zIDl := by
  unfold zDisp at h
  obtain ⟨q, h1, rfl⟩ := zmap_some h
  have h2 := List.find?_some h1
  have h3 := List.mem_of_find?_eq_some h1
  simp only [Bool.and_eq_true, beq_iff_eq] at h2
  have := zDispT_l q h3
  rw [h2.1, h2.2] at this
  exact this
theorem zs_disp (IH : zIH G l d) (C : zCtx G m0 p s mm args meth cd) (hR1 : d + 1 ≤ R.frames) (hR2 : 64 * (d + 1) ≤ R.locals) {kk a y : Nat} (hn1 : zDn kk ≤ st.length ∧ zC1 (st.take (zDn kk)) = true) (hn2 : st.length ≤ zDn kk + 4) (ha : (st.take (zDn kk)).reverse.head? = some (.ref a)) (hy : zDisp kk (h.1.tg a) = some y) {v : Option Value} {h' : zH} (hcl : zcall d y (st.take (zDn kk)).reverse h (fun o2 h2 => o2 = .inl v ∧ h2 = h')) (hcap : h'.1.sz - h0.1.sz ≤ R.cells ∧ h'.1.sl - h0.1.sl ≤ R.slots)
    (kr : zXW G m0 p l e R s mm args below meth cd FQ h0 r L (v.toList ++ st.drop (zDn kk)) h') : zXW G m0 p l e R s mm args below meth cd FQ h0 (.invokevirtual kk :: r) L st h := by
  intro pc hc H locs ls hR hL hlo q1 q2
  obtain ⟨q, hq, hd, hc⟩ := zChk_c (fun _ h => by cases h) hc
  obtain ⟨hn1, hc1⟩ := hn1
  obtain ⟨z1, z2, hM⟩ := IH _ _ _ _ _ (zC1_rev hc1) hcl
  generalize has : (st.take (zDn kk)).reverse = as at hcl hM ha
  generalize hrs : st.drop (zDn kk) = rest at kr
  have hst : st = as.reverse ++ rest := by rw [← has, ← hrs, List.reverse_reverse, List.take_append_drop]
  have hlen : as.length = zDn kk := by rw [← has, List.length_reverse, List.length_take]; omega
  have hrl : rest.length ≤ 4 := by rw [← hrs, List.length_drop]; omega
  have hmap : st.map (zCv G) = (as.map (zCv G)).reverse ++ rest.map (zCv G) := by rw [hst, List.map_append, List.map_reverse]
  have hcat : 2 * (F0 mm pc ls (st.map (zCv G))).monitorRoom + ((rest.map (zCv G)).map fun v => v.category).sum ≤ 8 := by
    have := zcat_le (rest.map (zCv G))
    rw [List.length_map] at this
    show 2 * 0 + _ ≤ _
    omega
  have hf : h.1.sz - h0.1.sz + (h'.1.sz - h.1.sz) ≤ R.cells ∧ h.1.sl - h0.1.sl + (h'.1.sl - h.1.sl) ≤ R.slots := by omega
  have S9 : CallFix p mm cd (zCd m0) (zMl m0) s args zGood (zCn (zOw m0)) := ⟨C.x, C.b, C.ml, C.own, C.ts⟩
  have hsz : (F0 mm pc ls (st.map (zCv G))).locals.size = zMl m0 := hL.2.1
  have c1 : h.1.sz - h0.1.sz + (h'.1.sz - h.1.sz) = h'.1.sz - h0.1.sz := by omega
  have c2 : h.1.sl - h0.1.sl + (h'.1.sl - h.1.sl) = h'.1.sl - h0.1.sl := by omega
  obtain ⟨b, hb, hp, rfl⟩ := zPk_m hq
  simp only [Bool.and_eq_true, beq_iff_eq] at hp
  obtain ⟨g1, g2⟩ := zID_f b hb
  have hw := C.ts _ (zID_ok b hb)
  dsimp only at hw
  rw [hp.1, hp.2] at hw
  rw [hp.1] at g1
  rw [hp.2] at g2
  have hl := zDisp_in hy
  obtain ⟨f1, f2, f3, f4, f5, f6, f7, f8, f9, f10⟩ := zIDl_f _ hl
  dsimp only at f1 f2 f3 f4 f5 f6 f7 f8 f9 f10
  obtain ⟨d1, d2, d3⟩ := zDy_f kk g2
  have hml20 : zMl y ≤ 20 := (zNames y f1).2.2.2.2
  have hroom : 8 + (zMl y + 11) + 64 * d ≤ R.locals := by omega
  have hk3 : kk ∈ zIDs ∧ kk ∈ zIDd := by
    rcases (by omega : kk = 0 ∨ kk = 1 ∨ kk = 2) with rfl | rfl | rfl <;> decide
  have hS : (Cond.selects (zCn (h.1.tg a)) (zDy kk) (zYn y)).before args s = true := C.ts _ (zIDl_ok _ hl)
  have hsame : (Cond.sameMethod (zDy kk).cls (zCn 6) (zDy kk).name (zDy kk).desc).before args s = true := by
    rw [d1]
    exact C.ts _ (zIDs_ok kk hk3.1)
  have hdc : va_Decl s ⟨zCn 6, (zDy kk).name, (zDy kk).desc⟩ := by
    rw [← d2]
    exact va_Decl.abs (C.kn.2.2.2.2.2.1 kk hk3.2)
  obtain ⟨as', ea⟩ : ∃ as', as = .ref a :: as' := by
    cases as with
    | nil => cases ha
    | cons x xs => exact ⟨xs, by rw [Option.some.inj ha]⟩
  have hcw : va_CU R s args (zCn (zOw m0)) (zCn (h.1.tg a)) (zCn 6) b.2.1 (zDy kk) (zYn y) (zCd y) (zMl y) (zRt y) (zWs y) (zRm d (h'.1.sz - h.1.sz) (h'.1.sl - h.1.sl)) (h'.1.sz - h.1.sz) (h'.1.sl - h.1.sl) as'.length :=
    ⟨⟨rfl, rfl, hR1, hroom, C.ws f2, by unfold zWs; rw [zCw_code f5]; exact List.mem_cons_self⟩, by rw [← zCw_code f5]; exact C.ts _ (zMc_ok y f2), C.ts _ (zMi_ok y f3), zCn6, fun sig hs => by
      rw [hs] at d3
      have e1 : sig.parameters.length = [6, 5, 1].getD kk 0 - 1 := Option.some.inj d3
      rw [ea] at hlen
      have e2 : as'.length + 1 = [6, 5, 1].getD kk 0 := hlen
      omega, hw, hsame, hdc, hS, C.ts _ (zMn_ok y f4)⟩
  subst ea
  have hM2 : PreV s H (zCn (h.1.tg a)) (zAdr G a) (zPcd G (.ref a :: as') h) (as'.map (zCv G)) := ⟨zPcd_blind, hR.recv C rfl (by omega) (by omega), fun U hU hW => ⟨rfl, by rw [hU]; exact hR, C.kn.warm hW⟩⟩
  refine z_go hlo (z_ofva (va_runU S9 (zCon.met ⟨z1, z2, hM⟩) hcw hM2 rfl (by rw [List.length_map]) hsz (by rw [show (F0 mm pc ls (st.map (zCv G))).stack = st.map (zCv G) from rfl, hmap, List.map_cons, List.reverse_cons, List.append_assoc]; rfl) hcat hd hf)) (fun v9 ev H1 locs1 hR1 hlo1 => ?_) (fun k9 ek => by cases ek)
  cases ev
  rw [c1, c2]
  have := kr _ hc H1 locs1 ls hR1 hL hlo1 (by omega) (by omega)
  rw [List.map_append] at this
  cases v <;> exact this
/-- a handler -/
theorem z_catch (C : zCtx G m0 p s mm args meth cd) (hm : m0 < 307) (hr : m0 ≠ zRef) {k : Nat} {lb : Int} {j : Nat} {r2 : List Instr} {h' : zH} (hE : zE m0 k = some lb) (hB : zB m0 lb = .astore j :: r2) (hj : j < L.length) (hp : zPrev L j = true) (kk : zXW G m0 p l e R s mm args below meth cd FQ h0 r2 (L.set j zJ) [] h') : zTX G m0 p l e R s mm args below meth cd FQ h0 L k h' := by
  intro pc H locs ls rest q ce hcov hR hL hlo q1 q2 hce hcv hcl
  obtain ⟨ow, pre, x, suf, e1, e2, e3, e4, e5⟩ := zHc_ok hm hE
  have hk := zE_13 hE
  have hown := C.own
  rw [ow] at hown
  have htb := C.tb
  rw [e1] at htb
  have hmap : tableOf (pre ++ x :: suf) = tableOf pre ++ ⟨x.1, x.2.1, x.2.2.1, x.2.2.2⟩ :: tableOf suf := by simp [tableOf]
  rw [hmap] at htb
  have hx : covers ⟨x.1, x.2.1, x.2.2.1, x.2.2.2⟩ pc = true := by
    have := List.all_eq_true.mp hcov x (by rw [e1]; simp)
    exact this
  refine vx_catch hown (tableOf pre) ⟨x.1, x.2.1, x.2.2.1, x.2.2.2⟩ (tableOf suf) htb (fun z hz => Or.inr ?_) hx e4 (C.ts _ (zCk_ok _ e5)) (va_Nw.use rfl (C.kn.2.2.2.2.2.2.2.2.2.2.2 k hk.1 hk.2)) hce hcv hcl ?_
  · obtain ⟨z0, hz0, rfl⟩ := List.mem_map.mp hz
    obtain ⟨n1, k', n2, n3, n4, n5⟩ := e2 z0 hz0
    exact ⟨n1, zEn k', C.ts _ (zCk_ok _ n5), C.kn.2.2.2.2.2.2.2.2.2.2.1 k k' hk.1 hk.2 n3 n4 (fun q => n2 q.symm)⟩
  · show W p l e R s mm args below meth cd H locs (h'.1.sz - h0.1.sz) (h'.1.sl - h0.1.sl) FQ (F0 mm x.2.2.1 ls [.ref q])
    rw [e3]
    have hck := zChk_ok hm hr lb
    rw [hB] at hck
    obtain ⟨q9, hq, hd, hc⟩ := zChk_c (fun _ h => by cases h) hck
    rcases List.mem_cons.mp hq with rfl | hq
    · exact lv_astore C.x C.b hd hL.2 (by rw [← hL.1]; exact hj) rfl (fun ls' h' => kk _ hc H locs ls' hR (hL.setJ hj hp h') hlo q1 q2)
    · obtain ⟨n, hn, rfl⟩ := zn4_m hq
      exact lv_astore_n C.x C.b hd hn hL.2 (by rw [← hL.1]; exact hj) rfl (fun ls' h' => kk _ hc H locs ls' hR (hL.setJ hj hp h') hlo q1 q2)
/-- where a body ends -/
def zIsEnd (m0 : Nat) (Q : zO → zH → Prop) (i : Instr) (st : List Value) (h : zH) : Prop := match i with
  | .return_ => zRk m0 = 0 ∧ st = [] ∧ Q (.inl none) h
  | .ireturn => ∃ x, st = [.int x] ∧ (zRk m0 = 1 ∨ (zRk m0 = 2 ∧ (x = 0 ∨ x = 1))) ∧ Q (.inl (some (.int x))) h
  | .lreturn => zRk m0 = 3 ∧ ∃ x, st = [.long x] ∧ Q (.inl (some (.long x))) h
  | .dreturn => zRk m0 = 4 ∧ ∃ x, st = [.double x] ∧ Q (.inl (some (.double x))) h
  | _ => False
/-- THE BODY OF A METHOD -/
theorem z_body (IH : zIH G l d) (C : zCtx G m0 p s mm args meth cd) (hm : m0 < 307) (hr : m0 ≠ zRef) (hR1 : d + 1 ≤ R.frames) (hR2 : 64 * (d + 1) ≤ R.locals) {Q : zO → zH → Prop} {c1 s1 : Nat} (hQ : ∀ o h, Q o h → h.1.sz = c1 ∧ h.1.sl = s1) (hcap : c1 - h0.1.sz ≤ R.cells ∧ s1 - h0.1.sl ≤ R.slots)
    (hEnd : ∀ i r L st h, zIsEnd m0 Q i st h → zXW G m0 p l e R s mm args below meth cd FQ h0 (i :: r) L st h) (hOut : ∀ k h L, zHh m0 = [] → Q (.inr k) h → zTX G m0 p l e R s mm args below meth cd FQ h0 L k h) {c : List Instr} {L st : List Value} {h : zH} (hw : zwp (zcall d) m0 Q c L st h) :
    (h.1.sz ≤ c1 ∧ h.1.sl ≤ s1) ∧ zXW G m0 p l e R s mm args below meth cd FQ h0 c L st h := by
  refine hw (fun c L st h => (h.1.sz ≤ c1 ∧ h.1.sl ≤ s1) ∧ zXW G m0 p l e R s mm args below meth cd FQ h0 c L st h) ?_
  intro c L st h hf
  unfold zF at hf
  split at hf
  · exact hf.elim
  · rename_i i r
    split at hf
    · rename_i y n
      obtain ⟨a1, a2, a3⟩ := hf
      obtain ⟨o1, h1, b1, b2⟩ := zcall_res d _ _ _ _ a3
      obtain ⟨z1, z2, -⟩ := IH _ _ _ _ _ (zC1_rev a1.2) b1
      match o1, b1, b2 with
      | .inl none, b1, b2 =>
        obtain ⟨⟨x1, x2⟩, x3⟩ := b2
        exact ⟨by omega, zs_inv IH C hR1 hR2 a1 a2 b1 (by omega) (fun v ev => by cases ev; exact x3) (fun k ek => by cases ek)⟩
      | .inl (some v), b1, b2 =>
        obtain ⟨⟨x1, x2⟩, x3⟩ := b2
        exact ⟨by omega, zs_inv IH C hR1 hR2 a1 a2 b1 (by omega) (fun v ev => by cases ev; exact x3) (fun k ek => by cases ek)⟩
      | .inr k, b1, b2 =>
        unfold zK at b2
        dsimp only at b2
        obtain ⟨ka, b2⟩ := b2
        split at b2
        · obtain ⟨e1, e2⟩ := hQ _ _ b2.2
          exact ⟨by omega, zs_inv IH C hR1 hR2 a1 a2 b1 (by omega) (fun v ev => by cases ev) (fun k ek => by cases ek; exact ⟨ka, hOut _ _ _ b2.1 b2.2⟩)⟩
        · rename_i lb hE
          split at b2
          · rename_i j r2 hB
            obtain ⟨hj, hp, ⟨x1, x2⟩, x3⟩ := b2
            exact ⟨by omega, zs_inv IH C hR1 hR2 a1 a2 b1 (by omega) (fun v ev => by cases ev) (fun k ek => by cases ek; exact ⟨ka, z_catch C hm hr hE hB hj hp x3⟩)⟩
          · exact b2.elim
    · rename_i kk
      obtain ⟨a1, a2, a, y, a3, a4, a5⟩ := hf
      obtain ⟨o1, h1, b1, b2⟩ := zcall_res d _ _ _ _ a5
      obtain ⟨z1, z2, -⟩ := IH _ _ _ _ _ (zC1_rev a1.2) b1
      match o1, b1, b2 with
      | .inl none, b1, b2 =>
        obtain ⟨⟨x1, x2⟩, x3⟩ := b2
        exact ⟨by omega, zs_disp IH C hR1 hR2 a1 a2 a3 a4 b1 (by omega) x3⟩
      | .inl (some v), b1, b2 =>
        obtain ⟨⟨x1, x2⟩, x3⟩ := b2
        exact ⟨by omega, zs_disp IH C hR1 hR2 a1 a2 a3 a4 b1 (by omega) x3⟩
      | .inr k, b1, b2 => exact absurd b2.1 (by decide)
    · obtain ⟨e1, e2⟩ := hQ _ _ hf.2.2
      exact ⟨by omega, hEnd _ _ _ _ _ hf⟩
    · obtain ⟨x, g1, g2, g3⟩ := hf
      obtain ⟨e1, e2⟩ := hQ _ _ g3
      exact ⟨by omega, hEnd _ _ _ _ _ ⟨x, g1, g2, g3⟩⟩
    · obtain ⟨g1, x, g2, g3⟩ := hf
      obtain ⟨e1, e2⟩ := hQ _ _ g3
      exact ⟨by omega, hEnd _ _ _ _ _ ⟨g1, x, g2, g3⟩⟩
    · obtain ⟨g1, x, g2, g3⟩ := hf
      obtain ⟨e1, e2⟩ := hQ _ _ g3
      exact ⟨by omega, hEnd _ _ _ _ _ ⟨g1, x, g2, g3⟩⟩
    · split at hf
      · rename_i q hs
        obtain ⟨⟨x1, x2⟩, x3⟩ := hf
        obtain ⟨k1, k2, k3⟩ := zs_step C hm hr (by omega) (by omega) hs (by omega) x3
        exact ⟨by omega, k1⟩
      · exact hf.elim
end
