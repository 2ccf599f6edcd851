/-! SOUNDNESS, 3: fields, arrays, new cells, switches -/
theorem zIdx {j : Int32} {n : Int} (h1 : 0 ≤ j.toInt) (h2 : j.toInt < n) : ¬ (j < 0 ∨ n.toNat ≤ j.toNatClampNeg) ∧ j.toNatClampNeg < n.toNat ∧ ((j.toNatClampNeg : Nat) : Int) = j.toInt := by
  have e : j.toNatClampNeg = j.toInt.toNat := rfl
  have h3 : ¬ j < 0 := by
    rw [Int32.lt_iff_toInt_lt]
    simp
    exact h1
  refine ⟨fun q => q.elim h3 (fun q => by omega), by omega, by omega⟩
section
variable {G : zG} {m0 : Nat} {p : Program} {l : Launch} {e : Env} {R : Room} {s : State} {mm : MethodId} {args : Array Value} {below : List Frame} {meth : Method} {cd : Code} {FQ : State → Prop} {h0 : zH} {r : List Instr} {L st : List Value} {h : zH}
theorem zs_getfield (C : zCtx G m0 p s mm args meth cd) {n a : Nat} (ht : h.1.tg a = n / 64) (kk : zXW G m0 p l e R s mm args below meth cd FQ h0 r L (h.2 a (n % 64 : Nat) :: st) h) : zXW G m0 p l e R s mm args below meth cd FQ h0 (.getfield n :: r) L (.ref a :: st) h := by
  intro pc hc H locs ls hR hL hlo q1 q2
  obtain ⟨q, hq, hd, hc⟩ := zChk_c (fun _ h => by cases h) hc
  obtain ⟨b, hb, hp, rfl⟩ := zPk_m hq
  simp only [Bool.and_eq_true, beq_iff_eq] at hp
  obtain ⟨r1, r2, r3⟩ := zFL_rng b hb
  have hw := C.ts _ (zFL_ok b hb)
  dsimp only at hw
  rw [hp.1, hp.2] at hw
  rw [hp.2] at r1 r2 r3
  obtain ⟨cell, c1, c2, c3, c4⟩ := (hR.cell ht (by omega)).2.2.1 r1
  obtain ⟨hS, hfc, kC, hkC, hkind⟩ := C.kn.2.1 (n / 64) r1 r2
  obtain ⟨cf, kf, fi, f, hi, hsl⟩ := hS (n % 64) r3
  exact W.getf C.x C.b C.own hw hi (u_facts hfc hkC (u_lays C.ts (zLay_in r1) r3) hi).1 c1 (by rw [c3]; exact fun h => by cases h) (v := zCv G (h.2 a (n % 64 : Nat))) (by rw [hsl]; exact c4 _ r3) rfl rfl hd (kk _ hc H locs ls hR hL hlo q1 q2)
theorem zFit_ok {G : zG} {t k : Nat} {v : Value} (ht : t < 11) (hk : k < zNf t) (hf : zFit (zTy (64 * t + k)) v = true) : narrow (zFt t k) (zCv G v) = zCv G v ∧ fits (zFt t k) (zCv G v) = true := by
  rcases zTy_ok t ht k hk with ⟨e1, e2⟩ | ⟨e1, e2⟩ | ⟨e1, e2⟩ | ⟨e1, e2⟩
  · rw [e1] at hf
    rw [e2]
    cases v <;> first | exact ⟨rfl, rfl⟩ | (simp [zFit] at hf)
  · rw [e1] at hf
    rw [e2]
    cases v with
    | int x =>
      simp [zFit] at hf
      rcases hf with rfl | rfl <;> exact ⟨rfl, rfl⟩
    | _ => simp [zFit] at hf
  · rw [e1] at hf
    rw [e2]
    cases v <;> first | exact ⟨rfl, rfl⟩ | (simp [zFit] at hf)
  · rw [e1] at hf
    cases v with
    | ref a =>
      generalize zFt t k = ty at e2 ⊢
      cases ty <;> first | exact ⟨rfl, rfl⟩ | (cases e2)
    | _ => simp [zFit] at hf
theorem zs_putfield (C : zCtx G m0 p s mm args meth cd) {n a : Nat} {v : Value} (ht : h.1.tg a = n / 64) (hf : zFit (zTy n) v = true) (kk : zXW G m0 p l e R s mm args below meth cd FQ h0 r L st (h.1, zput h.2 a (n % 64 : Nat) v)) : zXW G m0 p l e R s mm args below meth cd FQ h0 (.putfield n :: r) L (v :: .ref a :: st) h := by
  intro pc hc H locs ls hR hL hlo q1 q2
  obtain ⟨q, hq, hd, hc⟩ := zChk_c (fun _ h => by cases h) hc
  have hq : q ∈ (if zFinal n = true ∧ ¬ (zKd m0 = 1 ∧ zOw m0 = n / 64) then [] else zPk zFL (fun e => e.1 == zOw m0 && e.2.2 == n) (fun e => (Instr.putfield e.2.1, 3))) := hq
  split at hq
  · cases hq
  rename_i hfin
  obtain ⟨b, hb, hp, rfl⟩ := zPk_m hq
  simp only [Bool.and_eq_true, beq_iff_eq] at hp
  obtain ⟨r1, r2, r3⟩ := zFL_rng b hb
  have hw := C.ts _ (zFL_ok b hb)
  dsimp only at hw
  rw [hp.1, hp.2] at hw
  rw [hp.2] at r1 r2 r3
  obtain ⟨g1, g2, gc⟩ := hR.cell ht (by omega)
  obtain ⟨cell, c1, c2, c3, c4⟩ := gc.1 r1
  obtain ⟨hS, hfc, kC, hkC, hkind⟩ := C.kn.2.1 (n / 64) r1 r2
  have hap : ∀ x y, x < zNf (n / 64) → y < zNf (n / 64) → x ≠ y → G.dI (n / 64) x ≠ G.dI (n / 64) y := by
    intro x y hx hy hne
    obtain ⟨_, _, _, fa, hia, ea⟩ := hS x hx
    obtain ⟨_, _, _, fb, hib, eb⟩ := hS y hy
    rw [← ea, ← eb]
    refine u_apart (u_lays C.ts (zLay_in r1) hx) (u_lays C.ts (zLay_in r1) hy) hia hib ?_
    rw [(State.fieldFound?_type hia (zFt_ok _ r1 x hx)).1, (State.fieldFound?_type hib (zFt_ok _ r1 y hy)).1]
    exact zTx_nm _ r1 x hx y hy hne
  obtain ⟨cf, kf, fi, f, hi, hsl⟩ := hS (n % 64) r3
  have hst := (u_facts hfc hkC (u_lays C.ts (zLay_in r1) r3) hi).1
  have hty := zFt_ok _ r1 _ r3
  have en : 64 * (n / 64) + n % 64 = n := Nat.div_add_mod n 64
  have hnf := zFit_ok (G := G) r1 r3 (by rw [en]; exact hf)
  have hlay := C.ts _ (zLay_in r1 _ (u_in_lay r3))
  have fin : ∀ H' : Heap, H'[zAdr G a]? = some (cell.setSlot f.slot (zCv G v)) → H'.size = H.size → (∀ q : Nat, q ≠ zAdr G a → H'[q]? = H[q]?) → W p l e R s mm args below meth cd H' (locs ++ [⟨zAdr G a, f.slot⟩]) (h.1.sz - h0.1.sz) (h.1.sl - h0.1.sl) FQ (F0 mm (pc + 3) ls (st.map (zCv G))) := by
    intro H' e1 e2 e3
    rw [hsl] at e1
    refine kk _ hc H' _ ls (hR.write g1 g2 e2 e3 (f := zput h.2 a (n % 64 : Nat) v a) ⟨fun _ => ?_, fun a b => by rw [ht] at a; omega, fun a => by rw [ht] at a; omega⟩ rfl (fun r' hr' => funext fun k => if_neg (fun q => hr' q.1))) hL (fun q hq => ?_) q1 q2
    · rw [ht]
      refine t_OB.to (V := updV (fun k : Nat => zCv G (h.2 a k)) (n % 64) (zCv G v)) ⟨_, e1, c2, c3, t_set c4 hap r3 _⟩ (fun j hj => ?_)
      unfold updV zput
      by_cases e : j = n % 64
      · rw [if_pos e, if_pos ⟨rfl, by rw [e]⟩]
      · rw [if_neg e, if_neg (fun q => e (by have := q.2; omega))]
    · rcases List.mem_append.mp hq with hq | hq
      · exact hlo q hq
      · rw [List.mem_singleton.mp hq]
        exact zAdr_base g1
  unfold u_lay at hlay
  by_cases hF : (zTx (n / 64) (n % 64)).2.2.2 = true
  · rw [if_pos hF] at hlay
    have hk1 : zKd m0 = 1 ∧ zOw m0 = n / 64 := by
      by_cases q : zKd m0 = 1 ∧ zOw m0 = n / 64
      · exact q
      · exact absurd ⟨hF, q⟩ hfin
    have hdecl : (zTx (n / 64) (n % 64)).1 = zCn (n / 64) := zTx_own _ r1 _ r3 hF
    have hcf : mm.cls = cf := by
      obtain ⟨_, _, c', _, _, _, -, -, hf', -, -, -, hown2, -⟩ := Cond.laysFinal_spec hlay
      have e1 : c' = cf := by have := hi.symm.trans hf'; simp at this; exact this.1.symm
      rw [hdecl, ← hk1.2] at hown2
      rw [← e1]; exact Option.some.inj (C.own.symm.trans hown2)
    have h6 := u_fits hfc hkC hkind (Or.inr hlay) hi hty hnf.1 hnf.2
    exact W.putFinK C.x C.b C.own hw hi hst hcf (C.ini hk1.1) (by rw [c2]; exact h6) c1 c3 (by rw [hsl]; exact k2_hasslot (c4 _ r3)) rfl rfl hd fin
  · rw [if_neg hF] at hlay
    have h6 := u_store hfc hkC hkind hlay hi hty hnf.1 hnf.2
    exact W.putK C.x C.b (f := f) ⟨C.own, hw, ⟨_, _, _, hi⟩, hst⟩ (by rw [c2]; exact h6) c1 c3 (by rw [hsl]; exact k2_hasslot (c4 _ r3)) rfl rfl hd fin
theorem zs_getstatic (C : zCtx G m0 p s mm args meth cd) {n : Nat} (kk : zXW G m0 p l e R s mm args below meth cd FQ h0 r L (.ref n :: st) h) : zXW G m0 p l e R s mm args below meth cd FQ h0 (.getstatic n :: r) L st h := by
  intro pc hc H locs ls hR hL hlo q1 q2
  obtain ⟨q, hq, hd, hc⟩ := zChk_c (fun _ h => by cases h) hc
  obtain ⟨b, hb, hp, rfl⟩ := zPk_m hq
  simp only [Bool.and_eq_true, beq_iff_eq] at hp
  have r1 := zSF_rng b hb
  have hw := C.ts _ (zSF_ok b hb)
  dsimp only at hw
  rw [hp.1, hp.2] at hw
  rw [hp.2] at r1
  obtain ⟨cf, kf, fi, f, a, cell, h1, h2, h3, h4, h5, h6, h7, h8⟩ := C.kn.2.2.2.2.2.2.2.1 n r1
  have ea : zCv G (.ref n) = .ref (G.sa n) := by
    show Value.ref (zAdr G n) = _
    rw [zAdr_lo (by omega)]
  refine W.gets C.x C.b C.own hw h1 h2 h3 h4 (by rw [hR.2.1 a (Nat.lt_of_not_le h8)]; exact h5) (fun e => by rw [e] at h6; cases h6) h7 rfl hd ?_
  rw [← ea]
  exact kk _ hc H locs ls hR hL hlo q1 q2
theorem zs_new (C : zCtx G m0 p s mm args meth cd) {t : Nat} (hcap : h.1.sz + 1 - h0.1.sz ≤ R.cells ∧ h.1.sl + zNf t - h0.1.sl ≤ R.slots) (kk : zXW G m0 p l e R s mm args below meth cd FQ h0 r L (.ref h.1.sz :: st) (zHnew h t 0 (zNf t) (zDf t))) : zXW G m0 p l e R s mm args below meth cd FQ h0 (.new t :: r) L st h := by
  intro pc hc H locs ls hR hL hlo q1 q2
  obtain ⟨q, hq, hd, hc⟩ := zChk_c (fun _ h => by cases h) hc
  obtain ⟨b, hb, hp, rfl⟩ := zPk_m hq
  simp only [Bool.and_eq_true, beq_iff_eq] at hp
  obtain ⟨r1, r2, r3⟩ := zCL_rng b hb
  have hw := C.ts _ (zCL_ok b hb)
  dsimp only at hw
  rw [hp.1, hp.2] at hw
  rw [hp.2] at r1 r2 r3
  have ht6 : t ≠ 6 := fun q => by rw [q] at r2; revert r2; decide
  refine W.newc C.x C.b C.own hw (C.ts _ (zIs_ok t r2)) (C.ts _ (zIc_ok t r3)) rfl hd (by omega) (by omega) (fun cC kC f1 f2 f3 f4 => ?_)
  have hK := C.kn.2.1 t r1 ht6
  have ec : cC = G.dC t := Option.some.inj (f1.symm.trans hK.2.1)
  have ea := zAdr_sz hR
  have er : Value.ref H.size = zCv G (.ref h.1.sz) := by
    show _ = Value.ref (zAdr G h.1.sz)
    rw [ea]
  have e1 : h.1.sz - h0.1.sz + 1 = (zHnew h t 0 (zNf t) (zDf t)).1.sz - h0.1.sz := by
    show _ = h.1.sz + 1 - h0.1.sz
    omega
  have e2 : h.1.sl - h0.1.sl + zNf t = (zHnew h t 0 (zNf t) (zDf t)).1.sl - h0.1.sl := by
    show _ = h.1.sl + zNf t - h0.1.sl
    omega
  rw [e1, e2]
  refine W.eq (g2 := F0 mm (pc + 3) ls ((Value.ref h.1.sz :: st).map (zCv G))) (by rw [er]; rfl) ?_
  refine kk _ hc _ locs ls (hR.made (by omega) (fun H' hH' => ⟨fun _ => ?_, fun a b => by omega, fun a => by omega⟩)) hL hlo (by show _ ≤ h.1.sz + 1; omega) (by show _ ≤ h.1.sl + zNf t; omega)
  have hB := u_born (o := zAdr G h.1.sz) (H := H') (kC := kC) (zFt t) C.ts (zLay_in r1) hK (by rw [← ec]; exact f2) (by rw [hH', ec]; rfl) (fun k hk => zFt_ok t r1 k hk)
  refine hB.to (fun k hk => ?_)
  obtain ⟨d1, d2⟩ := zDf_ok t r1 k hk
  rw [d1]
  rcases d2 with d2 | d2 | d2 <;> rw [d2] <;> rfl
theorem zKn.arr {U : State} (hK : zKn G U) {t : Nat} (h1 : 20 ≤ t) (h2 : t ≤ 26) (n : Nat) (z : Nat → Value) : U.isArrayOf (arrV (G.cA t) n z) (zEt t) := (hK.2.2.1 t h1 h2).1 n z
theorem zs_newarray (C : zCtx G m0 p s mm args meth cd) {t : ArrayType} {n : Int32} (hn0 : 0 ≤ n.toInt) (hn1 : n.toInt ≤ 1000000) (hcap : h.1.sz + 1 - h0.1.sz ≤ R.cells ∧ h.1.sl + n.toInt.toNat - h0.1.sl ≤ R.slots) (kk : zXW G m0 p l e R s mm args below meth cd FQ h0 r L (.ref h.1.sz :: st) (zHnew h (zAt t) n.toInt n.toInt.toNat (fun _ => zAd t))) : zXW G m0 p l e R s mm args below meth cd FQ h0 (.newarray t :: r) L (.int n :: st) h := by
  intro pc hc H locs ls hR hL hlo q1 q2
  obtain ⟨q, hq, hd, hc⟩ := zChk_c (fun _ h => by cases h) hc
  have hq : q ∈ (if zAt t = 99 then [] else [(Instr.newarray t, 2)]) := hq
  split at hq
  · cases hq
  rename_i h99
  rw [List.mem_singleton.mp hq] at hd hc
  have hneg : ¬ n < 0 := by
    rw [Int32.lt_iff_toInt_lt]
    simp
    exact hn0
  have hz : n.toNatClampNeg = n.toInt.toNat := rfl
  have key : 20 ≤ zAt t ∧ zAt t ≤ 23 ∧ newarray.typeOf t = zEt (zAt t) ∧ (Cond.arrayClass (newarray.typeOf t)) ∈ zGood ∧ defaultValue (newarray.typeOf t) = zCv G (zAd t) ∧ componentBytes (newarray.typeOf t) ≤ 8 := by
    cases t <;> first
      | exact ⟨by decide, by decide, rfl, zw_aI, rfl, by decide⟩
      | exact ⟨by decide, by decide, rfl, zw_aJ, rfl, by decide⟩
      | exact ⟨by decide, by decide, rfl, zw_aD, rfl, by decide⟩
      | exact ⟨by decide, by decide, rfl, zw_aZ, rfl, by decide⟩
      | exact absurd rfl h99
  obtain ⟨k1, k2, k3, k4, k5, k6⟩ := key
  have hb : n.toNatClampNeg * componentBytes (newarray.typeOf t) ≤ 536870912 := by
    rw [hz]
    have : n.toInt.toNat * componentBytes (newarray.typeOf t) ≤ 1000000 * 8 := Nat.mul_le_mul (by omega) k6
    omega
  refine W.newa C.x C.b (C.ts _ k4) rfl hd rfl hneg hb (by omega) (by rw [hz]; omega) (fun cA kA comp f1 f2 f3 => ?_)
  have ec : cA = G.cA (zAt t) := by
    have h1 := (C.kn.2.2.1 (zAt t) k1 (by omega)).2
    rw [k3] at f1
    have h2 : s.vm.findClass ("[" ++ (zEt (zAt t)).toString) = some (G.cA (zAt t)) := by
      revert h1
      cases t <;> first | exact fun h => h | exact absurd rfl h99
    exact Option.some.inj (f1.symm.trans h2)
  have ea := zAdr_sz hR
  have er : Value.ref H.size = zCv G (.ref h.1.sz) := by
    show _ = Value.ref (zAdr G h.1.sz)
    rw [ea]
  have e1 : h.1.sz - h0.1.sz + 1 = (zHnew h (zAt t) n.toInt n.toInt.toNat (fun _ => zAd t)).1.sz - h0.1.sz := by
    show _ = h.1.sz + 1 - h0.1.sz
    omega
  have e2 : h.1.sl - h0.1.sl + n.toNatClampNeg = (zHnew h (zAt t) n.toInt n.toInt.toNat (fun _ => zAd t)).1.sl - h0.1.sl := by
    show _ = h.1.sl + n.toInt.toNat - h0.1.sl
    rw [hz]
    omega
  rw [e1, e2]
  refine W.eq (g2 := F0 mm (pc + 2) ls ((Value.ref h.1.sz :: st).map (zCv G))) (by rw [er]; rfl) ?_
  refine kk _ hc _ locs ls (hR.made (by omega) (fun H' hH' => ⟨fun a => by omega, fun a b => ⟨hn0, ?_⟩, fun a j _ _ => ?_⟩)) hL hlo (by show _ ≤ h.1.sz + 1; omega) (by show _ ≤ h.1.sl + n.toInt.toNat; omega)
  rotate_left
  · cases t <;> first | exact ⟨0, rfl⟩ | exact absurd a (by decide)
  rw [hH', ec, k5, hz]
  exact congrArg some (arrV_new _ _ _)
theorem zs_anewarray (C : zCtx G m0 p s mm args meth cd) {t : Nat} {n : Int32} (hn0 : 0 ≤ n.toInt) (hn1 : n.toInt ≤ 1000000) (hcap : h.1.sz + 1 - h0.1.sz ≤ R.cells ∧ h.1.sl + n.toInt.toNat - h0.1.sl ≤ R.slots) (kk : zXW G m0 p l e R s mm args below meth cd FQ h0 r L (.ref h.1.sz :: st) (zHnew h 26 n.toInt n.toInt.toNat (fun _ => .null))) : zXW G m0 p l e R s mm args below meth cd FQ h0 (.anewarray t :: r) L (.int n :: st) h := by
  intro pc hc H locs ls hR hL hlo q1 q2
  obtain ⟨q, hq, hd, hc⟩ := zChk_c (fun _ h => by cases h) hc
  obtain ⟨b, hb, hp, rfl⟩ := zPk_m hq
  simp only [Bool.and_eq_true, beq_iff_eq] at hp
  have hw := C.ts _ (zCL_ok b hb)
  dsimp only at hw
  rw [hp.1, hp.2] at hw
  have hneg : ¬ n < 0 := by
    rw [Int32.lt_iff_toInt_lt]
    simp
    exact hn0
  have hz : n.toNatClampNeg = n.toInt.toNat := rfl
  refine W.anew C.x C.b C.own hw (va_AO.use C.kn.2.2.2.2.2.2.1.2.2) rfl hd rfl hneg (by rw [hz]; omega) (by omega) (by rw [hz]; omega) (fun cA kA comp f1 f2 f3 f4 => ?_)
  have ec : cA = G.cA 26 := by
    obtain ⟨kA', comp', -, -, -, h2⟩ := (C.kn.2.2.1 26 (by omega) (by omega)).2
    exact Option.some.inj (f1.symm.trans h2)
  have ea := zAdr_sz hR
  have er : Value.ref H.size = zCv G (.ref h.1.sz) := by
    show _ = Value.ref (zAdr G h.1.sz)
    rw [ea]
  have e1 : h.1.sz - h0.1.sz + 1 = (zHnew h 26 n.toInt n.toInt.toNat (fun _ => .null)).1.sz - h0.1.sz := by
    show _ = h.1.sz + 1 - h0.1.sz
    omega
  have e2 : h.1.sl - h0.1.sl + n.toNatClampNeg = (zHnew h 26 n.toInt n.toInt.toNat (fun _ => .null)).1.sl - h0.1.sl := by
    show _ = h.1.sl + n.toInt.toNat - h0.1.sl
    rw [hz]
    omega
  rw [e1, e2]
  refine W.eq (g2 := F0 mm (pc + 3) ls ((Value.ref h.1.sz :: st).map (zCv G))) (by rw [er]; rfl) ?_
  refine kk _ hc _ locs ls (hR.made (by omega) (fun H' hH' => ⟨fun a => by omega, fun a b => ⟨hn0, ?_⟩, fun a => by omega⟩)) hL hlo (by show _ ≤ h.1.sz + 1; omega) (by show _ ≤ h.1.sl + n.toInt.toNat; omega)
  rw [hH', ec, hz]
  exact congrArg some (arrV_new _ _ _)
theorem zs_alen (C : zCtx G m0 p s mm args meth cd) {a : Nat} (h1 : 20 ≤ h.1.tg a) (h2 : h.1.tg a ≤ 26 ∨ h.1.tg a = 32) (h3 : h.1.ln a ≤ 1000000) (kk : zXW G m0 p l e R s mm args below meth cd FQ h0 r L (.int (Int32.ofInt (h.1.ln a)) :: st) h) : zXW G m0 p l e R s mm args below meth cd FQ h0 (.arraylength :: r) L (.ref a :: st) h := by
  intro pc hc H locs ls hR hL hlo q1 q2
  obtain ⟨hd, hc⟩ := zChk_1 (fun _ h => by cases h) rfl hc
  rcases h2 with h2 | h2
  · obtain ⟨g1, g2, gc⟩ := hR.cell rfl h2
    obtain ⟨g3, g4⟩ := gc.2.1 h1 h2
    refine W.alen C.x C.b g4 (C.kn.arr h1 h2 _ _) (n := Int32.ofInt (h.1.ln a)) ?_ rfl rfl hd (kk _ hc H locs ls hR hL hlo q1 q2)
    rw [arrV_size]
    apply Int32.toInt_inj.mp
    rw [Int32.toInt_ofInt_of_le (by omega) (by omega)]
    show (Int32.ofNat (h.1.ln a).toNat).toInt = _
    rw [Int32.toInt_ofNat_of_lt (by omega)]
    omega
  · have hr := hR.stat (by omega) (by omega) (r := a)
    have e4 : a = 4 := by
      have := (hR.2.2.1 a hr).1
      rw [h2] at this
      rcases (by omega : a = 0 ∨ a = 1 ∨ a = 2 ∨ a = 3 ∨ a = 4) with rfl | rfl | rfl | rfl | rfl <;> first | rfl | (revert this; decide)
    obtain ⟨k1, k2, k3, k4⟩ := C.kn.1 a hr
    have hln := (hR.2.2.1 a hr).2.2.2 e4
    have ea : zAdr G a = G.sa a := zAdr_lo hr
    refine W.alen C.x C.b (a := zAdr G a) (cell := G.cs a) (by rw [ea, hR.2.1 _ k1]; exact k2) k3 (n := Int32.ofInt (h.1.ln a)) ?_ rfl rfl hd (kk _ hc H locs ls hR hL hlo q1 q2)
    apply Int32.toInt_inj.mp
    rw [Int32.toInt_ofInt_of_le (by omega) (by omega)]
    show (Int32.ofNat (G.cs a).slots.size).toInt = _
    rw [Int32.toInt_ofNat_of_lt (by omega)]
    omega
end
