/-! TEST -/
theorem zput_ne {V : zV} {r r' : Nat} {k k' : Int} {v : Value} (h : r' ≠ r) : zput V r k v r' k' = V r' k' := if_neg (fun q => h q.1)
theorem zput_eq {V : zV} {r : Nat} {k : Int} {v : Value} : zput V r k v r k = v := if_pos ⟨rfl, rfl⟩
def tcnt (g : Int → Int → Int) (x : Int) : Nat → Int
  | 0 => 0
  | k + 1 => tcnt g x k + if g 0 k = x then 1 else 0
theorem tst {d : Nat} {s : zS} {V : zV} {a : Nat} {x m : Int} {g : Int → Int → Int} {Q : zO → zH → Prop}
  (t0 : s.tg a = 7) (v1 : V a 1 = zi m) (v3 : V a 3 = .ref (a + 11)) (t11 : s.tg (a + 11) = 24) (l11 : s.ln (a + 11) = 6) (v11 : V (a + 11) 0 = .ref (a + 12)) (t12 : s.tg (a + 12) = 20) (l12 : s.ln (a + 12) = 24)
  (e12 : ∀ j : Int, 0 ≤ j → j < 24 → V (a + 12) j = zi (g 0 j)) (hm0 : 0 ≤ m) (hm : m ≤ 24) (hx : 0 ≤ x) (hx2 : x < 12) (hg : ∀ j : Int, 0 ≤ j → j < m → 0 ≤ g 0 j ∧ g 0 j < 12) :
  zcall (d + 1) 82 [.ref a, zi x] (s, V) Q = Q (.inl (some (zi (tcnt g x m.toNat)))) (s, V) := by
  rw [zc_82]
  simp (disch := first | assumption | exact rfl | omega) only [zb_82_0, r_iconst, r_istore_2i, r_istore_2r, r_istore_2j, r_istore_3i, r_istore_3r, r_istore_3j, r_goto_w, r_iload_3, r_aload_0, r_gf_449, r_icmp_ge, r_gf_451, r_aaload, r_iaload, r_iload_1, r_icmp_ne, r_iinc_2i, r_iinc_2r, r_iinc_2j, r_iinc_3i, r_iinc_3r, r_iinc_3j, r_goto, r_iload_2, r_iret, r_bret_0, r_bret_1]
  have loop : ∀ (k : Nat) (j : Int), j + k = m → 0 ≤ j → zwp (zcall d) 82 Q (zB 82 1) [.ref a, zi x, zi (tcnt g x j.toNat), zi j] [] (s, V) = Q (.inl (some (zi (tcnt g x m.toNat)))) (s, V) := by
    intro k
    induction k with
    | zero =>
      intro j hj h0
      have : j = m := by omega
      subst this
      simp (disch := first | assumption | exact rfl | omega) only [zb_82_1, zb_82_2, zb_82_3, r_iconst, r_istore_2i, r_istore_2r, r_istore_2j, r_istore_3i, r_istore_3r, r_istore_3j, r_goto_w, r_iload_3, r_aload_0, r_gf_449, r_icmp_ge, r_gf_451, r_aaload, r_iaload, r_iload_1, r_icmp_ne, r_iinc_2i, r_iinc_2r, r_iinc_2j, r_iinc_3i, r_iinc_3r, r_iinc_3j, r_goto, r_iload_2, r_iret, r_bret_0, r_bret_1, v1, e12, Int.le_refl, ite]
    | succ k ih =>
      intro j hj h0
      have hgj := hg j h0 (by omega)
      rw [zb_82_1]
      simp (disch := first | assumption | exact rfl | omega) only [zb_82_2, zb_82_3, r_iconst, r_istore_2i, r_istore_2r, r_istore_2j, r_istore_3i, r_istore_3r, r_istore_3j, r_goto_w, r_iload_3, r_aload_0, r_gf_449, r_icmp_ge, r_gf_451, r_aaload, r_iaload, r_iload_1, r_icmp_ne, r_iinc_2i, r_iinc_2r, r_iinc_2j, r_iinc_3i, r_iinc_3r, r_iinc_3j, r_goto, r_iload_2, r_iret, r_bret_0, r_bret_1, v1, v3, v11, e12]
      rw [if_neg (by omega : ¬ m ≤ j)]
      have hj1 : (j + 1).toNat = j.toNat + 1 := by omega
      have ih1 := ih (j + 1) (by omega) (by omega)
      rw [hj1] at ih1
      have e1 : ((j.toNat : Nat) : Int) = j := by omega
      split
      · rename_i hc
        rw [show tcnt g x (j.toNat + 1) = tcnt g x j.toNat by simp only [tcnt, e1]; rw [if_neg hc]; omega] at ih1
        exact ih1
      · rename_i hc
        rw [show tcnt g x (j.toNat + 1) = tcnt g x j.toNat + 1 by simp only [tcnt, e1]; rw [if_pos (by omega)]] at ih1
        exact ih1
  exact loop m.toNat 0 (by omega) (by omega)
