/-! SOUNDNESS, 7: one step; written by wip/whole/gen_sound3.py -/
theorem zSetL_some {L L2 : List Value} {k : Nat} {v : Value} (h : zSetL L k v = some L2) : k < L.length ∧ zPrev L k = true ∧ L2 = L.set k v := by
  unfold zSetL at h
  split at h
  · rename_i c
    exact ⟨c.1, c.2.2, (Option.some.inj h).symm⟩
  · cases h
theorem zSetL2_some {L L2 : List Value} {k : Nat} {v : Value} (h : zSetL2 L k v = some L2) : k + 1 < L.length ∧ zPrev L k = true ∧ L2 = (L.set k v).set (k + 1) zJ := by
  unfold zSetL2 at h
  split at h
  · rename_i c
    exact ⟨c.1, c.2.2, (Option.some.inj h).symm⟩
  · cases h
theorem zmap_some {α β : Type} {a : Option α} {f : α → β} {b : β} (h : a.map f = some b) : ∃ x, a = some x ∧ f x = b := by
  cases a with
  | none => cases h
  | some x => exact ⟨x, rfl, Option.some.inj h⟩
section
variable {G : zG} {m0 d : Nat} {p : Program} {l : Launch} {e : Env} {R : Room} {s : State} {mm : MethodId} {args : Array Value} {below : List Frame} {meth : Method} {cd : Code} {FQ : State → Prop} {h0 : zH} {r : List Instr} {L st : List Value} {h : zH}
set_option maxHeartbeats 4000000 in
set_option maxRecDepth 100000 in
theorem zs_step (C : zCtx G m0 p s mm args meth cd) (hm : m0 < 307) (hr : m0 ≠ zRef) (hR1 : 1 ≤ R.frames) (hR2 : 64 ≤ R.locals) {i : Instr} {q : List Instr × List Value × List Value × zH} (hs : zstep m0 i r L st h = some q) (hcap : q.2.2.2.1.sz - h0.1.sz ≤ R.cells ∧ q.2.2.2.1.sl - h0.1.sl ≤ R.slots) (k : zXW G m0 p l e R s mm args below meth cd FQ h0 q.1 q.2.1 q.2.2.1 q.2.2.2) : (zXW G m0 p l e R s mm args below meth cd FQ h0 (i :: r) L st h) ∧ h.1.sz ≤ q.2.2.2.1.sz ∧ h.1.sl ≤ q.2.2.2.1.sl := by
  unfold zstep at hs
  split at hs
  · split at hs
    · rename_i hx
      cases hs
      exact ⟨zs_iload C hx k, Nat.le_refl _, Nat.le_refl _⟩
    · cases hs
  · split at hs
    · rename_i hx
      cases hs
      exact ⟨zs_lload C hx k, Nat.le_refl _, Nat.le_refl _⟩
    · cases hs
  · split at hs
    · rename_i hx
      cases hs
      exact ⟨zs_dload C hx k, Nat.le_refl _, Nat.le_refl _⟩
    · cases hs
  · split at hs
    · rename_i hx
      cases hs
      exact ⟨zs_fload C hx k, Nat.le_refl _, Nat.le_refl _⟩
    · cases hs
  · split at hs
    · rename_i hx
      cases hs
      exact ⟨zs_aload C hx k, Nat.le_refl _, Nat.le_refl _⟩
    · cases hs
  · split at hs
    · obtain ⟨L2, h1, rfl⟩ := zmap_some hs
      obtain ⟨a1, a2, rfl⟩ := zSetL_some h1
      exact ⟨zs_istore C a1 a2 k, Nat.le_refl _, Nat.le_refl _⟩
    · cases hs
  · split at hs
    · obtain ⟨L2, h1, rfl⟩ := zmap_some hs
      obtain ⟨a1, a2, rfl⟩ := zSetL_some h1
      exact ⟨zs_astore C a1 a2 k, Nat.le_refl _, Nat.le_refl _⟩
    · cases hs
  · split at hs
    · obtain ⟨L2, h1, rfl⟩ := zmap_some hs
      obtain ⟨a1, a2, rfl⟩ := zSetL2_some h1
      exact ⟨zs_lstore C a1 a2 k, Nat.le_refl _, Nat.le_refl _⟩
    · cases hs
  · split at hs
    · obtain ⟨L2, h1, rfl⟩ := zmap_some hs
      obtain ⟨a1, a2, rfl⟩ := zSetL2_some h1
      exact ⟨zs_dstore C a1 a2 k, Nat.le_refl _, Nat.le_refl _⟩
    · cases hs
  · split at hs
    · rename_i hx
      obtain ⟨L2, h1, rfl⟩ := zmap_some hs
      obtain ⟨a1, a2, rfl⟩ := zSetL_some h1
      exact ⟨zs_iinc C hx a2 k, Nat.le_refl _, Nat.le_refl _⟩
    · cases hs
  · cases hs
    exact ⟨zs_iconst C k, Nat.le_refl _, Nat.le_refl _⟩
  · cases hs
    exact ⟨zs_lconst C k, Nat.le_refl _, Nat.le_refl _⟩
  · cases hs
    exact ⟨zs_dconst C k, Nat.le_refl _, Nat.le_refl _⟩
  · split at hs
    · cases hs
      exact ⟨zs_iadd C k, Nat.le_refl _, Nat.le_refl _⟩
    · cases hs
  · split at hs
    · cases hs
      exact ⟨zs_isub C k, Nat.le_refl _, Nat.le_refl _⟩
    · cases hs
  · split at hs
    · cases hs
      exact ⟨zs_imul C k, Nat.le_refl _, Nat.le_refl _⟩
    · cases hs
  · split at hs
    · cases hs
      exact ⟨zs_iand C k, Nat.le_refl _, Nat.le_refl _⟩
    · cases hs
  · split at hs
    · cases hs
      exact ⟨zs_ior C k, Nat.le_refl _, Nat.le_refl _⟩
    · cases hs
  · split at hs
    · cases hs
      exact ⟨zs_ixor C k, Nat.le_refl _, Nat.le_refl _⟩
    · cases hs
  · split at hs
    · cases hs
      exact ⟨zs_ishl C k, Nat.le_refl _, Nat.le_refl _⟩
    · cases hs
  · split at hs
    · cases hs
      exact ⟨zs_ishr C k, Nat.le_refl _, Nat.le_refl _⟩
    · cases hs
  · split at hs
    · cases hs
      exact ⟨zs_iushr C k, Nat.le_refl _, Nat.le_refl _⟩
    · cases hs
  · split at hs
    · split at hs
      · rename_i c
        cases hs
        exact ⟨zs_idiv C c k, Nat.le_refl _, Nat.le_refl _⟩
      · cases hs
    · cases hs
  · split at hs
    · cases hs
      exact ⟨zs_ladd C k, Nat.le_refl _, Nat.le_refl _⟩
    · cases hs
  · split at hs
    · cases hs
      exact ⟨zs_lmul C k, Nat.le_refl _, Nat.le_refl _⟩
    · cases hs
  · split at hs
    · cases hs
      exact ⟨zs_land C k, Nat.le_refl _, Nat.le_refl _⟩
    · cases hs
  · split at hs
    · cases hs
      exact ⟨zs_lor C k, Nat.le_refl _, Nat.le_refl _⟩
    · cases hs
  · split at hs
    · cases hs
      exact ⟨zs_lushr C k, Nat.le_refl _, Nat.le_refl _⟩
    · cases hs
  · split at hs
    · cases hs
      exact ⟨zs_lcmp C k, Nat.le_refl _, Nat.le_refl _⟩
    · cases hs
  · split at hs
    · split at hs
      · rename_i c
        cases hs
        exact ⟨zs_dadd C c k, Nat.le_refl _, Nat.le_refl _⟩
      · cases hs
    · cases hs
  · split at hs
    · split at hs
      · rename_i c
        cases hs
        exact ⟨zs_dsub C c k, Nat.le_refl _, Nat.le_refl _⟩
      · cases hs
    · cases hs
  · split at hs
    · split at hs
      · rename_i c
        cases hs
        exact ⟨zs_dmul C c k, Nat.le_refl _, Nat.le_refl _⟩
      · cases hs
    · cases hs
  · split at hs
    · split at hs
      · rename_i c
        cases hs
        exact ⟨zs_ddiv C c k, Nat.le_refl _, Nat.le_refl _⟩
      · cases hs
    · cases hs
  · split at hs
    · cases hs
      exact ⟨zs_dcmp C k, Nat.le_refl _, Nat.le_refl _⟩
    · cases hs
  · split at hs
    · cases hs
      exact ⟨zs_fcmp C k, Nat.le_refl _, Nat.le_refl _⟩
    · cases hs
  · split at hs
    · cases hs
      exact ⟨zs_i2l C k, Nat.le_refl _, Nat.le_refl _⟩
    · cases hs
  · split at hs
    · cases hs
      exact ⟨zs_i2d C k, Nat.le_refl _, Nat.le_refl _⟩
    · cases hs
  · split at hs
    · cases hs
      exact ⟨zs_d2i C k, Nat.le_refl _, Nat.le_refl _⟩
    · cases hs
  · split at hs
    · split at hs
      · rename_i c
        cases hs
        exact ⟨zs_d2f C c k, Nat.le_refl _, Nat.le_refl _⟩
      · cases hs
    · cases hs
  · split at hs
    · split at hs
      · rename_i c
        cases hs
        exact ⟨zs_f2d C c k, Nat.le_refl _, Nat.le_refl _⟩
      · cases hs
    · cases hs
  · split at hs
    · cases hs
      exact ⟨zs_f2i C hR1 hR2 k, Nat.le_refl _, Nat.le_refl _⟩
    · cases hs
  · split at hs
    · split at hs
      · rename_i c
        cases hs
        exact ⟨zs_dup C c k, Nat.le_refl _, Nat.le_refl _⟩
      · cases hs
    · cases hs
  · split at hs
    · split at hs
      · rename_i c
        cases hs
        exact ⟨zs_dup2 C c.1 c.2 k, Nat.le_refl _, Nat.le_refl _⟩
      · cases hs
    · cases hs
  · split at hs
    · split at hs
      · rename_i c
        cases hs
        exact ⟨zs_pop C c k, Nat.le_refl _, Nat.le_refl _⟩
      · cases hs
    · cases hs
  · split at hs
    · cases hs
      exact ⟨zs_objI C hR1 hR2 k, Nat.le_refl _, Nat.le_refl _⟩
    · cases hs
  · cases hs
    exact ⟨zs_goto C hm hr k, Nat.le_refl _, Nat.le_refl _⟩
  · cases hs
    exact ⟨zs_goto_w hm hr k, Nat.le_refl _, Nat.le_refl _⟩
  · split at hs
    · split at hs
      · rename_i c
        cases hs
        exact ⟨zs_if_eq C hm hr (fun _ => k) (fun q => absurd c q), Nat.le_refl _, Nat.le_refl _⟩
      · rename_i c
        cases hs
        exact ⟨zs_if_eq C hm hr (fun q => absurd q c) (fun _ => k), Nat.le_refl _, Nat.le_refl _⟩
    · cases hs
  · split at hs
    · split at hs
      · rename_i c
        cases hs
        exact ⟨zs_if_ne C hm hr (fun _ => k) (fun q => absurd c q), Nat.le_refl _, Nat.le_refl _⟩
      · rename_i c
        cases hs
        exact ⟨zs_if_ne C hm hr (fun q => absurd q c) (fun _ => k), Nat.le_refl _, Nat.le_refl _⟩
    · cases hs
  · split at hs
    · split at hs
      · rename_i c
        cases hs
        exact ⟨zs_if_lt C hm hr (fun _ => k) (fun q => absurd c q), Nat.le_refl _, Nat.le_refl _⟩
      · rename_i c
        cases hs
        exact ⟨zs_if_lt C hm hr (fun q => absurd q c) (fun _ => k), Nat.le_refl _, Nat.le_refl _⟩
    · cases hs
  · split at hs
    · split at hs
      · rename_i c
        cases hs
        exact ⟨zs_if_ge C hm hr (fun _ => k) (fun q => absurd c q), Nat.le_refl _, Nat.le_refl _⟩
      · rename_i c
        cases hs
        exact ⟨zs_if_ge C hm hr (fun q => absurd q c) (fun _ => k), Nat.le_refl _, Nat.le_refl _⟩
    · cases hs
  · split at hs
    · split at hs
      · rename_i c
        cases hs
        exact ⟨zs_if_gt C hm hr (fun _ => k) (fun q => absurd c q), Nat.le_refl _, Nat.le_refl _⟩
      · rename_i c
        cases hs
        exact ⟨zs_if_gt C hm hr (fun q => absurd q c) (fun _ => k), Nat.le_refl _, Nat.le_refl _⟩
    · cases hs
  · split at hs
    · split at hs
      · rename_i c
        cases hs
        exact ⟨zs_if_le C hm hr (fun _ => k) (fun q => absurd c q), Nat.le_refl _, Nat.le_refl _⟩
      · rename_i c
        cases hs
        exact ⟨zs_if_le C hm hr (fun q => absurd q c) (fun _ => k), Nat.le_refl _, Nat.le_refl _⟩
    · cases hs
  · split at hs
    · split at hs
      · rename_i c
        cases hs
        exact ⟨zs_icmp_eq C hm hr (fun _ => k) (fun q => absurd c q), Nat.le_refl _, Nat.le_refl _⟩
      · rename_i c
        cases hs
        exact ⟨zs_icmp_eq C hm hr (fun q => absurd q c) (fun _ => k), Nat.le_refl _, Nat.le_refl _⟩
    · cases hs
  · split at hs
    · split at hs
      · rename_i c
        cases hs
        exact ⟨zs_icmp_ne C hm hr (fun _ => k) (fun q => absurd c q), Nat.le_refl _, Nat.le_refl _⟩
      · rename_i c
        cases hs
        exact ⟨zs_icmp_ne C hm hr (fun q => absurd q c) (fun _ => k), Nat.le_refl _, Nat.le_refl _⟩
    · cases hs
  · split at hs
    · split at hs
      · rename_i c
        cases hs
        exact ⟨zs_icmp_lt C hm hr (fun _ => k) (fun q => absurd c q), Nat.le_refl _, Nat.le_refl _⟩
      · rename_i c
        cases hs
        exact ⟨zs_icmp_lt C hm hr (fun q => absurd q c) (fun _ => k), Nat.le_refl _, Nat.le_refl _⟩
    · cases hs
  · split at hs
    · split at hs
      · rename_i c
        cases hs
        exact ⟨zs_icmp_ge C hm hr (fun _ => k) (fun q => absurd c q), Nat.le_refl _, Nat.le_refl _⟩
      · rename_i c
        cases hs
        exact ⟨zs_icmp_ge C hm hr (fun q => absurd q c) (fun _ => k), Nat.le_refl _, Nat.le_refl _⟩
    · cases hs
  · split at hs
    · split at hs
      · rename_i c
        cases hs
        exact ⟨zs_icmp_gt C hm hr (fun _ => k) (fun q => absurd c q), Nat.le_refl _, Nat.le_refl _⟩
      · rename_i c
        cases hs
        exact ⟨zs_icmp_gt C hm hr (fun q => absurd q c) (fun _ => k), Nat.le_refl _, Nat.le_refl _⟩
    · cases hs
  · split at hs
    · split at hs
      · rename_i c
        cases hs
        exact ⟨zs_icmp_le C hm hr (fun _ => k) (fun q => absurd c q), Nat.le_refl _, Nat.le_refl _⟩
      · rename_i c
        cases hs
        exact ⟨zs_icmp_le C hm hr (fun q => absurd q c) (fun _ => k), Nat.le_refl _, Nat.le_refl _⟩
    · cases hs
  · split at hs
    · split at hs
      · rename_i c
        cases hs
        exact ⟨zs_switch C hm hr c k, Nat.le_refl _, Nat.le_refl _⟩
      · cases hs
    · cases hs
  · split at hs
    · split at hs
      · rename_i c
        cases hs
        exact ⟨zs_getfield C c k, Nat.le_refl _, Nat.le_refl _⟩
      · cases hs
    · cases hs
  · split at hs
    · split at hs
      · rename_i c
        cases hs
        exact ⟨zs_putfield C c.1 c.2 k, Nat.le_refl _, Nat.le_refl _⟩
      · cases hs
    · cases hs
  · cases hs
    exact ⟨zs_getstatic C k, Nat.le_refl _, Nat.le_refl _⟩
  · cases hs
    exact ⟨zs_new C hcap k, Nat.le_succ _, Nat.le_add_right _ _⟩
  · split at hs
    · split at hs
      · rename_i c
        cases hs
        exact ⟨zs_newarray C c.1 c.2 hcap k, Nat.le_succ _, Nat.le_add_right _ _⟩
      · cases hs
    · cases hs
  · split at hs
    · split at hs
      · rename_i c
        cases hs
        exact ⟨zs_anewarray C c.1 c.2 hcap k, Nat.le_succ _, Nat.le_add_right _ _⟩
      · cases hs
    · cases hs
  · split at hs
    · split at hs
      · rename_i t dm st2 k2 n2 st3 c
        have hs := Option.some.inj hs
        subst hs
        obtain ⟨f1, f2, -⟩ := zHnews_f (zHnew h (24 + t) n2.toInt n2.toInt.toNat (fun j => .ref (h.1.sz + 1 + j.toNat))) (20 + t) k2.toInt (if t = 0 then .int 0 else .long 0) n2.toInt.toNat
        refine ⟨zs_mna C c.1 c.2.1 c.2.2.1 c.2.2.2 rfl hcap k, ?_, ?_⟩
        · rw [f1]
          show h.1.sz ≤ h.1.sz + 1 + _
          omega
        · rw [f2]
          show h.1.sl ≤ h.1.sl + _ + _
          omega
      · cases hs
    · cases hs
  · split at hs
    · split at hs
      · rename_i c
        cases hs
        exact ⟨zs_alen C c.1 c.2.1 c.2.2 k, Nat.le_refl _, Nat.le_refl _⟩
      · cases hs
    · cases hs
  · split at hs
    · split at hs
      · rename_i c
        cases hs
        exact ⟨zs_iaload C c.1 c.2.1 c.2.2 k, Nat.le_refl _, Nat.le_refl _⟩
      · cases hs
    · cases hs
  · split at hs
    · split at hs
      · rename_i c
        cases hs
        exact ⟨zs_laload C c.1 c.2.1 c.2.2 k, Nat.le_refl _, Nat.le_refl _⟩
      · cases hs
    · cases hs
  · split at hs
    · split at hs
      · rename_i c
        cases hs
        exact ⟨zs_daload C c.1 c.2.1 c.2.2 k, Nat.le_refl _, Nat.le_refl _⟩
      · cases hs
    · cases hs
  · split at hs
    · split at hs
      · rename_i c
        cases hs
        exact ⟨zs_baload C c.1 c.2.1 c.2.2 k, Nat.le_refl _, Nat.le_refl _⟩
      · cases hs
    · cases hs
  · split at hs
    · split at hs
      · rename_i c
        cases hs
        exact ⟨zs_aaload C c.1 c.2.1 c.2.2 k, Nat.le_refl _, Nat.le_refl _⟩
      · cases hs
    · cases hs
  · split at hs
    · split at hs
      · rename_i c
        cases hs
        exact ⟨zs_iastore C c.1 c.2.1 c.2.2 k, Nat.le_refl _, Nat.le_refl _⟩
      · cases hs
    · cases hs
  · split at hs
    · split at hs
      · rename_i c
        cases hs
        exact ⟨zs_lastore C c.1 c.2.1 c.2.2 k, Nat.le_refl _, Nat.le_refl _⟩
      · cases hs
    · cases hs
  · split at hs
    · split at hs
      · rename_i c
        cases hs
        exact ⟨zs_dastore C c.1 c.2.1 c.2.2 k, Nat.le_refl _, Nat.le_refl _⟩
      · cases hs
    · cases hs
  · split at hs
    · split at hs
      · rename_i c
        cases hs
        exact ⟨zs_bastore C c.1 c.2.1 c.2.2.1 c.2.2.2 k, Nat.le_refl _, Nat.le_refl _⟩
      · cases hs
    · cases hs
  · split at hs
    · split at hs
      · rename_i c
        cases hs
        exact ⟨zs_aastore C c.1 c.2.1 c.2.2.1 c.2.2.2 k, Nat.le_refl _, Nat.le_refl _⟩
      · cases hs
    · cases hs
  · split at hs
    · split at hs
      · rename_i c
        cases hs
        exact ⟨zs_copy C hR1 hR2 c.1 c.2.1 c.2.2.1 c.2.2.2.1 c.2.2.2.2.1 c.2.2.2.2.2.1 c.2.2.2.2.2.2 k, Nat.le_refl _, Nat.le_refl _⟩
      · cases hs
    · cases hs
  · cases hs
end
set_option maxHeartbeats 4000000 in
set_option maxRecDepth 100000 in
theorem zstep_sz {m0 : Nat} {i : Instr} {r : List Instr} {L st : List Value} {h : zH} {q : List Instr × List Value × List Value × zH} (hs : zstep m0 i r L st h = some q) : h.1.sz ≤ q.2.2.2.1.sz ∧ h.1.sl ≤ q.2.2.2.1.sl := by
  unfold zstep at hs
  split at hs
  · split at hs
    · rename_i hx
      cases hs
      exact ⟨Nat.le_refl _, Nat.le_refl _⟩
    · cases hs
  · split at hs
    · rename_i hx
      cases hs
      exact ⟨Nat.le_refl _, Nat.le_refl _⟩
    · cases hs
  · split at hs
    · rename_i hx
      cases hs
      exact ⟨Nat.le_refl _, Nat.le_refl _⟩
    · cases hs
  · split at hs
    · rename_i hx
      cases hs
      exact ⟨Nat.le_refl _, Nat.le_refl _⟩
    · cases hs
  · split at hs
    · rename_i hx
      cases hs
      exact ⟨Nat.le_refl _, Nat.le_refl _⟩
    · cases hs
  · split at hs
    · obtain ⟨L2, h1, rfl⟩ := zmap_some hs
      obtain ⟨a1, a2, rfl⟩ := zSetL_some h1
      exact ⟨Nat.le_refl _, Nat.le_refl _⟩
    · cases hs
  · split at hs
    · obtain ⟨L2, h1, rfl⟩ := zmap_some hs
      obtain ⟨a1, a2, rfl⟩ := zSetL_some h1
      exact ⟨Nat.le_refl _, Nat.le_refl _⟩
    · cases hs
  · split at hs
    · obtain ⟨L2, h1, rfl⟩ := zmap_some hs
      obtain ⟨a1, a2, rfl⟩ := zSetL2_some h1
      exact ⟨Nat.le_refl _, Nat.le_refl _⟩
    · cases hs
  · split at hs
    · obtain ⟨L2, h1, rfl⟩ := zmap_some hs
      obtain ⟨a1, a2, rfl⟩ := zSetL2_some h1
      exact ⟨Nat.le_refl _, Nat.le_refl _⟩
    · cases hs
  · split at hs
    · rename_i hx
      obtain ⟨L2, h1, rfl⟩ := zmap_some hs
      obtain ⟨a1, a2, rfl⟩ := zSetL_some h1
      exact ⟨Nat.le_refl _, Nat.le_refl _⟩
    · cases hs
  · cases hs
    exact ⟨Nat.le_refl _, Nat.le_refl _⟩
  · cases hs
    exact ⟨Nat.le_refl _, Nat.le_refl _⟩
  · cases hs
    exact ⟨Nat.le_refl _, Nat.le_refl _⟩
  · split at hs
    · cases hs
      exact ⟨Nat.le_refl _, Nat.le_refl _⟩
    · cases hs
  · split at hs
    · cases hs
      exact ⟨Nat.le_refl _, Nat.le_refl _⟩
    · cases hs
  · split at hs
    · cases hs
      exact ⟨Nat.le_refl _, Nat.le_refl _⟩
    · cases hs
  · split at hs
    · cases hs
      exact ⟨Nat.le_refl _, Nat.le_refl _⟩
    · cases hs
  · split at hs
    · cases hs
      exact ⟨Nat.le_refl _, Nat.le_refl _⟩
    · cases hs
  · split at hs
    · cases hs
      exact ⟨Nat.le_refl _, Nat.le_refl _⟩
    · cases hs
  · split at hs
    · cases hs
      exact ⟨Nat.le_refl _, Nat.le_refl _⟩
    · cases hs
  · split at hs
    · cases hs
      exact ⟨Nat.le_refl _, Nat.le_refl _⟩
    · cases hs
  · split at hs
    · cases hs
      exact ⟨Nat.le_refl _, Nat.le_refl _⟩
    · cases hs
  · split at hs
    · split at hs
      · rename_i c
        cases hs
        exact ⟨Nat.le_refl _, Nat.le_refl _⟩
      · cases hs
    · cases hs
  · split at hs
    · cases hs
      exact ⟨Nat.le_refl _, Nat.le_refl _⟩
    · cases hs
  · split at hs
    · cases hs
      exact ⟨Nat.le_refl _, Nat.le_refl _⟩
    · cases hs
  · split at hs
    · cases hs
      exact ⟨Nat.le_refl _, Nat.le_refl _⟩
    · cases hs
  · split at hs
    · cases hs
      exact ⟨Nat.le_refl _, Nat.le_refl _⟩
    · cases hs
  · split at hs
    · cases hs
      exact ⟨Nat.le_refl _, Nat.le_refl _⟩
    · cases hs
  · split at hs
    · cases hs
      exact ⟨Nat.le_refl _, Nat.le_refl _⟩
    · cases hs
  · split at hs
    · split at hs
      · rename_i c
        cases hs
        exact ⟨Nat.le_refl _, Nat.le_refl _⟩
      · cases hs
    · cases hs
  · split at hs
    · split at hs
      · rename_i c
        cases hs
        exact ⟨Nat.le_refl _, Nat.le_refl _⟩
      · cases hs
    · cases hs
  · split at hs
    · split at hs
      · rename_i c
        cases hs
        exact ⟨Nat.le_refl _, Nat.le_refl _⟩
      · cases hs
    · cases hs
  · split at hs
    · split at hs
      · rename_i c
        cases hs
        exact ⟨Nat.le_refl _, Nat.le_refl _⟩
      · cases hs
    · cases hs
  · split at hs
    · cases hs
      exact ⟨Nat.le_refl _, Nat.le_refl _⟩
    · cases hs
  · split at hs
    · cases hs
      exact ⟨Nat.le_refl _, Nat.le_refl _⟩
    · cases hs
  · split at hs
    · cases hs
      exact ⟨Nat.le_refl _, Nat.le_refl _⟩
    · cases hs
  · split at hs
    · cases hs
      exact ⟨Nat.le_refl _, Nat.le_refl _⟩
    · cases hs
  · split at hs
    · cases hs
      exact ⟨Nat.le_refl _, Nat.le_refl _⟩
    · cases hs
  · split at hs
    · split at hs
      · rename_i c
        cases hs
        exact ⟨Nat.le_refl _, Nat.le_refl _⟩
      · cases hs
    · cases hs
  · split at hs
    · split at hs
      · rename_i c
        cases hs
        exact ⟨Nat.le_refl _, Nat.le_refl _⟩
      · cases hs
    · cases hs
  · split at hs
    · cases hs
      exact ⟨Nat.le_refl _, Nat.le_refl _⟩
    · cases hs
  · split at hs
    · split at hs
      · rename_i c
        cases hs
        exact ⟨Nat.le_refl _, Nat.le_refl _⟩
      · cases hs
    · cases hs
  · split at hs
    · split at hs
      · rename_i c
        cases hs
        exact ⟨Nat.le_refl _, Nat.le_refl _⟩
      · cases hs
    · cases hs
  · split at hs
    · split at hs
      · rename_i c
        cases hs
        exact ⟨Nat.le_refl _, Nat.le_refl _⟩
      · cases hs
    · cases hs
  · split at hs
    · cases hs
      exact ⟨Nat.le_refl _, Nat.le_refl _⟩
    · cases hs
  · cases hs
    exact ⟨Nat.le_refl _, Nat.le_refl _⟩
  · cases hs
    exact ⟨Nat.le_refl _, Nat.le_refl _⟩
  · split at hs
    · split at hs
      · rename_i c
        cases hs
        exact ⟨Nat.le_refl _, Nat.le_refl _⟩
      · rename_i c
        cases hs
        exact ⟨Nat.le_refl _, Nat.le_refl _⟩
    · cases hs
  · split at hs
    · split at hs
      · rename_i c
        cases hs
        exact ⟨Nat.le_refl _, Nat.le_refl _⟩
      · rename_i c
        cases hs
        exact ⟨Nat.le_refl _, Nat.le_refl _⟩
    · cases hs
  · split at hs
    · split at hs
      · rename_i c
        cases hs
        exact ⟨Nat.le_refl _, Nat.le_refl _⟩
      · rename_i c
        cases hs
        exact ⟨Nat.le_refl _, Nat.le_refl _⟩
    · cases hs
  · split at hs
    · split at hs
      · rename_i c
        cases hs
        exact ⟨Nat.le_refl _, Nat.le_refl _⟩
      · rename_i c
        cases hs
        exact ⟨Nat.le_refl _, Nat.le_refl _⟩
    · cases hs
  · split at hs
    · split at hs
      · rename_i c
        cases hs
        exact ⟨Nat.le_refl _, Nat.le_refl _⟩
      · rename_i c
        cases hs
        exact ⟨Nat.le_refl _, Nat.le_refl _⟩
    · cases hs
  · split at hs
    · split at hs
      · rename_i c
        cases hs
        exact ⟨Nat.le_refl _, Nat.le_refl _⟩
      · rename_i c
        cases hs
        exact ⟨Nat.le_refl _, Nat.le_refl _⟩
    · cases hs
  · split at hs
    · split at hs
      · rename_i c
        cases hs
        exact ⟨Nat.le_refl _, Nat.le_refl _⟩
      · rename_i c
        cases hs
        exact ⟨Nat.le_refl _, Nat.le_refl _⟩
    · cases hs
  · split at hs
    · split at hs
      · rename_i c
        cases hs
        exact ⟨Nat.le_refl _, Nat.le_refl _⟩
      · rename_i c
        cases hs
        exact ⟨Nat.le_refl _, Nat.le_refl _⟩
    · cases hs
  · split at hs
    · split at hs
      · rename_i c
        cases hs
        exact ⟨Nat.le_refl _, Nat.le_refl _⟩
      · rename_i c
        cases hs
        exact ⟨Nat.le_refl _, Nat.le_refl _⟩
    · cases hs
  · split at hs
    · split at hs
      · rename_i c
        cases hs
        exact ⟨Nat.le_refl _, Nat.le_refl _⟩
      · rename_i c
        cases hs
        exact ⟨Nat.le_refl _, Nat.le_refl _⟩
    · cases hs
  · split at hs
    · split at hs
      · rename_i c
        cases hs
        exact ⟨Nat.le_refl _, Nat.le_refl _⟩
      · rename_i c
        cases hs
        exact ⟨Nat.le_refl _, Nat.le_refl _⟩
    · cases hs
  · split at hs
    · split at hs
      · rename_i c
        cases hs
        exact ⟨Nat.le_refl _, Nat.le_refl _⟩
      · rename_i c
        cases hs
        exact ⟨Nat.le_refl _, Nat.le_refl _⟩
    · cases hs
  · split at hs
    · split at hs
      · rename_i c
        cases hs
        exact ⟨Nat.le_refl _, Nat.le_refl _⟩
      · cases hs
    · cases hs
  · split at hs
    · split at hs
      · rename_i c
        cases hs
        exact ⟨Nat.le_refl _, Nat.le_refl _⟩
      · cases hs
    · cases hs
  · split at hs
    · split at hs
      · rename_i c
        cases hs
        exact ⟨Nat.le_refl _, Nat.le_refl _⟩
      · cases hs
    · cases hs
  · cases hs
    exact ⟨Nat.le_refl _, Nat.le_refl _⟩
  · cases hs
    exact ⟨Nat.le_succ _, Nat.le_add_right _ _⟩
  · split at hs
    · split at hs
      · rename_i c
        cases hs
        exact ⟨Nat.le_succ _, Nat.le_add_right _ _⟩
      · cases hs
    · cases hs
  · split at hs
    · split at hs
      · rename_i c
        cases hs
        exact ⟨Nat.le_succ _, Nat.le_add_right _ _⟩
      · cases hs
    · cases hs
  · split at hs
    · split at hs
      · rename_i t dm st2 k2 n2 st3 c
        have hs := Option.some.inj hs
        subst hs
        obtain ⟨f1, f2, -⟩ := zHnews_f (zHnew h (24 + t) n2.toInt n2.toInt.toNat (fun j => .ref (h.1.sz + 1 + j.toNat))) (20 + t) k2.toInt (if t = 0 then .int 0 else .long 0) n2.toInt.toNat
        refine ⟨?_, ?_⟩
        · rw [f1]
          show h.1.sz ≤ h.1.sz + 1 + _
          omega
        · rw [f2]
          show h.1.sl ≤ h.1.sl + _ + _
          omega
      · cases hs
    · cases hs
  · split at hs
    · split at hs
      · rename_i c
        cases hs
        exact ⟨Nat.le_refl _, Nat.le_refl _⟩
      · cases hs
    · cases hs
  · split at hs
    · split at hs
      · rename_i c
        cases hs
        exact ⟨Nat.le_refl _, Nat.le_refl _⟩
      · cases hs
    · cases hs
  · split at hs
    · split at hs
      · rename_i c
        cases hs
        exact ⟨Nat.le_refl _, Nat.le_refl _⟩
      · cases hs
    · cases hs
  · split at hs
    · split at hs
      · rename_i c
        cases hs
        exact ⟨Nat.le_refl _, Nat.le_refl _⟩
      · cases hs
    · cases hs
  · split at hs
    · split at hs
      · rename_i c
        cases hs
        exact ⟨Nat.le_refl _, Nat.le_refl _⟩
      · cases hs
    · cases hs
  · split at hs
    · split at hs
      · rename_i c
        cases hs
        exact ⟨Nat.le_refl _, Nat.le_refl _⟩
      · cases hs
    · cases hs
  · split at hs
    · split at hs
      · rename_i c
        cases hs
        exact ⟨Nat.le_refl _, Nat.le_refl _⟩
      · cases hs
    · cases hs
  · split at hs
    · split at hs
      · rename_i c
        cases hs
        exact ⟨Nat.le_refl _, Nat.le_refl _⟩
      · cases hs
    · cases hs
  · split at hs
    · split at hs
      · rename_i c
        cases hs
        exact ⟨Nat.le_refl _, Nat.le_refl _⟩
      · cases hs
    · cases hs
  · split at hs
    · split at hs
      · rename_i c
        cases hs
        exact ⟨Nat.le_refl _, Nat.le_refl _⟩
      · cases hs
    · cases hs
  · split at hs
    · split at hs
      · rename_i c
        cases hs
        exact ⟨Nat.le_refl _, Nat.le_refl _⟩
      · cases hs
    · cases hs
  · split at hs
    · split at hs
      · rename_i c
        cases hs
        exact ⟨Nat.le_refl _, Nat.le_refl _⟩
      · cases hs
    · cases hs
  · cases hs
