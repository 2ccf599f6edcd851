/-! THE LAW, 10: the model's constructor -/
def zItg : Bool → Nat
  | true => 23
  | false => 20
def zIat : Bool → ArrayType
  | true => .boolean
  | false => .int
def zIcd : List (Int × Nat × Bool) → List Instr → List Instr
  | [], r => r
  | (n, k, b) :: l, r => .aload 0 :: .iconst n :: .newarray (zIat b) :: .putfield (640 + k) :: zIcd l r
def zIl : List (Int × Nat × Bool) := [(230, 0, false), (920, 1, false), (230, 2, false), (120, 4, false), (12, 7, false), (12, 8, false), (12, 10, false), (13, 11, false), (13, 12, false), (13, 13, false), (13, 14, false), (13, 15, false), (13, 16, false), (13, 17, false), (13, 18, true), (13, 19, false), (240, 28, false), (800, 29, false), (6, 30, false), (240, 31, false), (800, 32, false), (12, 35, false), (12, 37, false), (4096, 38, false), (4096, 39, true), (5, 42, false)]
section
variable {d m : Nat} {Q : zO → zH → Prop} {r : List Instr} {L st : List Value} {s : zS} {V : zV}
theorem r_pfG {f a b : Nat} (ht : s.tg a = f / 64) (hty : zTy f = 5) : zwp (zcall d) m Q (.putfield f :: r) L (.ref b :: .ref a :: st) (s, V) = zwp (zcall d) m Q r L st (s, zput V a (f % 64 : Nat) (.ref b)) := by
  rw [zw]
  exact if_pos_z ⟨ht, by rw [hty]; rfl⟩
theorem i_arrs : ∀ (l : List (Int × Nat × Bool)) (s : zS) (V : zV), s.tg 164 = 10 → 165 ≤ s.sz → (∀ e ∈ l, (0 ≤ e.1 ∧ e.1 ≤ 5000) ∧ zTy (640 + e.2.1) = 5 ∧ e.2.1 < 44) → (l.map (fun e => e.2.1)).Nodup → (∀ s' V', s'.sz = s.sz + l.length → s'.sl ≤ s.sl + 5000 * l.length → (∀ r, r < s.sz → s'.tg r = s.tg r ∧ s'.ln r = s.ln r ∧ (r ≠ 164 → V' r = V r)) → (∀ k : Int, (∀ e ∈ l, (e.2.1 : Int) ≠ k) → V' 164 k = V 164 k) → (∀ (i : Nat) (e : Int × Nat × Bool), l[i]? = some e → V' 164 (e.2.1 : Int) = .ref (s.sz + i) ∧ s'.tg (s.sz + i) = zItg e.2.2 ∧ s'.ln (s.sz + i) = e.1 ∧ V' (s.sz + i) = fun _ => zi 0) → zwp (zcall d) m Q r [.ref 164] [] (s', V')) → zwp (zcall d) m Q (zIcd l r) [.ref 164] [] (s, V)
  | [], s, V, _, _, _, _, hQ => hQ s V rfl (by omega) (fun r _ => ⟨rfl, rfl, fun _ => rfl⟩) (fun _ _ => rfl) (fun i e h => by simp at h)
  | (n, k, b) :: l, s, V, ht, hs, hl, hn, hQ => by
    obtain ⟨⟨n0, n1⟩, ty, k1⟩ := hl (n, k, b) List.mem_cons_self
    dsimp only at n0 n1 ty k1
    obtain ⟨hn1, hn2⟩ := List.nodup_cons.mp hn
    have hk : ∀ e ∈ l, ((e.2.1 : Nat) : Int) ≠ (k : Int) := fun e he q => hn1 (List.mem_map.mpr ⟨e, he, by
      show e.2.1 = k
      omega⟩)
    have key : ∀ (s1 : zS) (V1 : zV) (tg : Nat), tg = zItg b → zNe s.sz tg n n.toNat (fun _ => zi 0) s V s1 V1 → zwp (zcall d) m Q (.putfield (640 + k) :: zIcd l r) [.ref 164] [.ref s.sz, .ref 164] (s1, V1) := by
      intro s1 V1 tg htg z
      obtain ⟨e1, k2, ⟨t1, n2, v1⟩, g1⟩ := z
      have h164 := g1 164 (by omega)
      rw [r_pfG (by rw [h164.1, ht]; omega) ty, show ((640 + k) % 64 : Nat) = k by omega]
      refine i_arrs l s1 _ (h164.1.trans ht) (by omega) (fun e he => hl e (List.mem_cons_of_mem _ he)) hn2 (fun s' V' a1 a2 a3 a4 a5 => ?_)
      have a1 : s'.sz = s1.sz + l.length := a1
      refine hQ s' V' (by rw [List.length_cons]; omega) (by rw [List.length_cons]; omega) (fun r hr => ?_) (fun j hj => ?_) (fun i e he => ?_)
      · obtain ⟨b1, b2, b3⟩ := a3 r (by omega)
        obtain ⟨c1, c2, c3⟩ := g1 r hr
        exact ⟨b1.trans c1, b2.trans c2, fun q => (b3 q).trans ((zput_row q).trans c3)⟩
      · rw [a4 j (fun e he => hj e (List.mem_cons_of_mem _ he)), zput_k (fun q => hj (n, k, b) List.mem_cons_self q.symm), h164.2.2]
      · cases i with
        | zero =>
          rw [List.getElem?_cons_zero] at he
          cases he
          obtain ⟨b1, b2, b3⟩ := a3 s.sz (by omega)
          refine ⟨?_, ?_, ?_, ?_⟩
          · show V' 164 (k : Int) = _
            rw [a4 k (fun e he => hk e he), zput_at]
            rfl
          · exact b1.trans (t1.trans htg)
          · exact b2.trans n2
          · exact (b3 (by omega)).trans ((zput_row (by omega)).trans v1)
        | succ i =>
          rw [List.getElem?_cons_succ] at he
          have := a5 i e he
          rw [show s.sz + (i + 1) = s1.sz + i by omega]
          exact this
    show zwp (zcall d) m Q (.aload 0 :: .iconst n :: .newarray (zIat b) :: .putfield (640 + k) :: zIcd l r) [.ref 164] [] (s, V)
    rw [r_aload_0, r_iconst]
    cases b with
    | true => exact r_booleanQ s.sz rfl rfl n0 (by omega) (fun s1 V1 z => key s1 V1 23 rfl z)
    | false => exact r_intQ s.sz rfl rfl n0 (by omega) (fun s1 V1 z => key s1 V1 20 rfl z)
end
theorem zIl_ok : (∀ e ∈ zIl, (0 ≤ e.1 ∧ e.1 ≤ 5000) ∧ zTy (640 + e.2.1) = 5 ∧ e.2.1 < 44) ∧ (zIl.map (fun e => e.2.1)).Nodup ∧ (∀ e ∈ zIl, (e.2.1 : Int) ≠ 3 ∧ (e.2.1 : Int) ≠ 5 ∧ (e.2.1 : Int) ≠ 33) := by decide +kernel
theorem zIl_at : ∀ i : Nat, i < 26 → zIl[i]? = some (zMln.getD i 0, (zMsl.getD i 0).toNat, zMtg.getD i 0 == 23) ∧ 0 ≤ zMsl.getD i 0 ∧ (zMtg.getD i 0 = 20 ∨ zMtg.getD i 0 = 23) := by decide +kernel
section
variable {d : Nat} {s : zS} {V : zV} {Q : zO → zH → Prop}
set_option maxRecDepth 20000 in
theorem i_M (hd : 2 ≤ d) (hsz : s.sz = 165) (ht : s.tg 164 = 10) (hD : V 164 = zDf 10) (hQ : ∀ s' V', s'.sz = 191 → s'.sl ≤ s.sl + 130000 → (∀ r, r < 164 → s'.tg r = s.tg r ∧ s'.ln r = s.ln r ∧ V' r = V r) → zWm zσ0 s' V' → Q (.inl none) (s', V')) : zcall d 160 [.ref 164] (s, V) Q := by
  obtain ⟨d, rfl⟩ : ∃ e, d = e + 1 := ⟨d - 1, by omega⟩
  simp (disch := first | assumption | omega) only [zc_160]
  have eb : zB 160 0 = .aload 0 :: .monitorexit :: zIcd zIl [.aload 0, .getfield 640, .iconst 0, .iconst 0, .iastore, .return_] := rfl
  rw [eb, r_aload_0, r_objI]
  refine i_arrs zIl s V ht (by omega) zIl_ok.1 zIl_ok.2.1 (fun s1 V1 a1 a2 a3 a4 a5 => ?_)
  have e26 : zIl.length = 26 := rfl
  rw [e26] at a1 a2
  rw [hsz] at a3 a5
  have hr : ∀ i : Nat, i < 26 → V1 164 (zMsl.getD i 0) = .ref (165 + i) ∧ s1.tg (165 + i) = zMtg.getD i 0 ∧ s1.ln (165 + i) = zMln.getD i 0 ∧ V1 (165 + i) = fun _ => zi 0 := by
    intro i hi
    obtain ⟨b1, b2, b3⟩ := zIl_at i hi
    obtain ⟨c1, c2, c3, c4⟩ := a5 i _ b1
    dsimp only at c1 c2 c3
    rw [Int.toNat_of_nonneg b2] at c1
    refine ⟨c1, c2.trans ?_, c3, c4⟩
    rcases b3 with e | e <;> rw [e] <;> rfl
  have tM : s1.tg 164 = 10 := (a3 164 (by omega)).1.trans ht
  have v0 : V1 164 0 = .ref 165 := (hr 0 (by omega)).1
  have t5 : s1.tg 165 = 20 := (hr 0 (by omega)).2.1
  have l5 : s1.ln 165 = 230 := (hr 0 (by omega)).2.2.1
  simp (disch := first | assumption | exact zk_160 | ((repeat (first | exact z1n | refine z1I ?_ | refine z1R ?_)); done) | exact rfl | omega | decide) only [r_aload_0, r_objI, r_iconst, r_newa_int, r_pf_640, r_pf_641, r_pf_642, r_pf_644, r_pf_647, r_pf_648, r_pf_650, r_pf_651, r_pf_652, r_pf_653, r_pf_654, r_pf_655, r_pf_656, r_pf_657, r_newa_boolean, r_pf_658, r_pf_659, r_pf_668, r_pf_669, r_pf_670, r_pf_671, r_pf_672, r_pf_675, r_pf_677, r_pf_678, r_pf_679, r_pf_682, r_gf_640, r_iastore, r_ret, v0, ↓reduceIte, not_true_eq_false, not_false_eq_true, Int.reduceEq, Int.reduceLE, Int.reduceLT, Int.reduceAdd, Int.reduceNeg, Int.reduceMul, Int.reduceSub, Int.reduceToNat]
  have w : ∀ r, r ≠ 165 → zput V1 165 0 (zi 0) r = V1 r := fun r h => zput_row h
  have w5 : ∀ i, zput V1 165 0 (zi 0) 165 i = zi 0 := fun i => by
    by_cases e : i = 0
    · subst e; exact zput_at
    · rw [zput_k e, (hr 0 (by omega)).2.2.2]
  have f : ∀ k : Int, (k = 3 ∨ k = 5 ∨ k = 33) → zput V1 165 0 (zi 0) 164 k = zi 0 := fun k hk => by
    rw [zput_r (by decide), a4 k (fun e he => by
      have := zIl_ok.2.2 e he
      omega), hD]
    rcases hk with rfl | rfl | rfl <;> rfl
  have z : ∀ (i : Nat) (n : Int), 1 ≤ i → i < 26 → zInts (zput V1 165 0 (zi 0)) (165 + i) n := fun i n i1 i2 j _ _ => ⟨0, by rw [w _ (by omega), (hr i i2).2.2.2]⟩
  refine hQ _ _ (by omega) (by omega) (fun r h => ⟨(a3 r (by omega)).1, (a3 r (by omega)).2.1, (w r (by omega)).trans ((a3 r (by omega)).2.2 (by omega))⟩) ⟨⟨tM, fun i hi => ⟨by rw [zput_r (by decide)]; exact (hr i hi).1, (hr i hi).2.1, (hr i hi).2.2.1⟩⟩, ⟨w5 0, w5 1, fun u x _ _ x0 x1 => absurd x1 (by show ¬ x < 0; omega), fun u x _ _ x0 x1 => absurd x1 (by show ¬ x < 0; omega)⟩, fun i _ _ => ⟨0, w5 i⟩, ⟨f 3 (by omega), z 1 920 (by omega) (by omega), fun k hk => absurd hk (by show ¬ (k : Int) < 0; omega)⟩, ⟨f 5 (by omega), fun k k0 k1 => absurd k1 (by show ¬ k < 0; omega)⟩, ⟨z 16 240 (by omega) (by omega), z 17 800 (by omega) (by omega)⟩, f 33 (by omega), fun c => absurd c (by decide)⟩
end
