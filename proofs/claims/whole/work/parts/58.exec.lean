/-! One instruction: the class's execute, the reference's instruction. -/
/-- how an instruction ended: done; invalid; a call of the kernel -/
def ex_ok (cb : Nat → Int32) (a b d c x y u s p : Int32) (so sv tl su qu : Nat → Int32) (wa ru : Int32) (r py' : Int32) (cb' : Nat → Int32) (g' : R9) (m : Option MS) : Prop :=
  (r = -1 ∧ okB cb' ∧ og_ g' ∧ m = some (cb', rg_ g', so, sv, tl, su, qu, wa, ru, py', false)) ∨
  (r = -2 ∧ py' = 1 ∧ okB cb' ∧ ∃ g0 : R9, m = (mo_end ru 255 cb' (rg_ g0) so sv tl su qu wa ru 1).bind fun z8 => some (cb', z8.1, z8.2.1, sv, z8.2.2.1, z8.2.2.2.1, z8.2.2.2.2.1, z8.2.2.2.2.2.1, z8.2.2.2.2.2.2.1, z8.2.2.2.2.2.2.2, true)) ∨
  (r = rd_ cb ((p + 1) &&& 65535) ∧ py' = 2 ∧ cb' = cb ∧ g' = (a, b, d, c, x, y, u, s, (p + 2) &&& 65535) ∧ m = (mo_kernel cb (rf_ a b d c x y u s ((p + 1) &&& 65535)) so sv tl su qu wa ru 1).bind fun z27 => some (z27.1, z27.2.1, z27.2.2.1, z27.2.2.2.1, z27.2.2.2.2.1, z27.2.2.2.2.2.1, z27.2.2.2.2.2.2.1, z27.2.2.2.2.2.2.2.1, z27.2.2.2.2.2.2.2.2.1, z27.2.2.2.2.2.2.2.2.2, false))
section EX
variable {cb : Nat → Int32} {a b d c x y u s p : Int32} {so sv tl su qu : Nat → Int32} {wa ru : Int32}
theorem fin_cp {z : Int32 × Int32 × (Nat → Int32) × R9} {m : Option ((Nat → Int32) × (Nat → Int32) × Int32 × Bool)} (h : cp_ok z m) : ∃ (r py' : Int32) (cb' : Nat → Int32) (g' : R9), tc_P_execute_j168 z.1 z.2.1 z.2.2.1 z.2.2.2.1 z.2.2.2.2.1 z.2.2.2.2.2.1 z.2.2.2.2.2.2.1 z.2.2.2.2.2.2.2.1 z.2.2.2.2.2.2.2.2.1 z.2.2.2.2.2.2.2.2.2.1 z.2.2.2.2.2.2.2.2.2.2.1 z.2.2.2.2.2.2.2.2.2.2.2 = some (r, py', r, cb', g') ∧ ex_ok cb a b d c x y u s p so sv tl su qu wa ru r py' cb' g' (m.bind fun z13 => mo_instruction_j88 ru z13.1 z13.2.1 so sv tl su qu wa ru z13.2.2.1 z13.2.2.2) := by
  obtain ⟨py1, po, cb1, g⟩ := z
  unfold tc_P_execute_j168
  rcases h with ⟨h1, h2, h3, h4⟩ | ⟨h1, h2, g0, sp, h4⟩
  · dsimp only at h1 h2 h3 h4 ⊢
    subst h1
    rw [if_neg (by decide), h4]
    exact ⟨_, _, _, g, rfl, Or.inl ⟨rfl, h2, h3, rfl⟩⟩
  · dsimp only at h1 h2 h4 ⊢
    subst h1
    rw [if_pos rfl, h4]
    exact ⟨_, _, _, g, rfl, Or.inr (Or.inl ⟨rfl, rfl, h2, g0, rfl⟩)⟩
theorem fin_sg {z : Int32 × Int32 × (Nat → Int32) × R9} {m : Option MS} (h : sg_ok so sv tl su qu wa ru z m) : ∃ (r py' : Int32) (cb' : Nat → Int32) (g' : R9), tc_P_execute_j168 z.1 z.2.1 z.2.2.1 z.2.2.2.1 z.2.2.2.2.1 z.2.2.2.2.2.1 z.2.2.2.2.2.2.1 z.2.2.2.2.2.2.2.1 z.2.2.2.2.2.2.2.2.1 z.2.2.2.2.2.2.2.2.2.1 z.2.2.2.2.2.2.2.2.2.2.1 z.2.2.2.2.2.2.2.2.2.2.2 = some (r, py', r, cb', g') ∧ ex_ok cb a b d c x y u s p so sv tl su qu wa ru r py' cb' g' (m.bind fun z9 => mo_instruction_j88 ru z9.1 z9.2.1 z9.2.2.1 z9.2.2.2.1 z9.2.2.2.2.1 z9.2.2.2.2.2.1 z9.2.2.2.2.2.2.1 z9.2.2.2.2.2.2.2.1 z9.2.2.2.2.2.2.2.2.1 z9.2.2.2.2.2.2.2.2.2.1 z9.2.2.2.2.2.2.2.2.2.2) := by
  obtain ⟨py1, po, cb1, g⟩ := z
  unfold tc_P_execute_j168
  rcases h with ⟨h1, h2, h3, h4⟩ | ⟨h1, h2, g0, sp, h4⟩
  · dsimp only at h1 h2 h3 h4 ⊢
    subst h1
    rw [if_neg (by decide), h4]
    exact ⟨_, _, _, g, rfl, Or.inl ⟨rfl, h2, h3, rfl⟩⟩
  · dsimp only at h1 h2 h4 ⊢
    subst h1
    rw [if_pos rfl, h4]
    exact ⟨_, _, _, g, rfl, Or.inr (Or.inl ⟨rfl, rfl, h2, g0, rfl⟩)⟩
theorem g1_all (n : Nat) (hn : n < 256) (h : nI n >>> ((4 : Int32) &&& 31) = 1) (h16 : ¬ nI n = 16) : (nI n = 17 ∨ nI n = 18 ∨ nI n = 19 ∨ nI n = 20 ∨ nI n = 21 ∨ nI n = 22 ∨ nI n = 23 ∨ nI n = 24 ∨ nI n = 25 ∨ nI n = 26 ∨ nI n = 27 ∨ nI n = 28 ∨ nI n = 29 ∨ nI n = 30 ∨ nI n = 31) := by
  rw [pk_shrN (by omega) _ 4 (by decide), show (1 : Int32) = nI 1 by decide, nI_eq (by omega) (by omega)] at h
  rw [show (16 : Int32) = nI 16 by decide, nI_eq (by omega) (by omega)] at h16
  have : n = 17 ∨ n = 18 ∨ n = 19 ∨ n = 20 ∨ n = 21 ∨ n = 22 ∨ n = 23 ∨ n = 24 ∨ n = 25 ∨ n = 26 ∨ n = 27 ∨ n = 28 ∨ n = 29 ∨ n = 30 ∨ n = 31 := by omega
  rcases this with rfl | rfl | rfl | rfl | rfl | rfl | rfl | rfl | rfl | rfl | rfl | rfl | rfl | rfl | rfl
  · exact Or.inl (by decide)
  · exact Or.inr (Or.inl (by decide))
  · exact Or.inr (Or.inr (Or.inl (by decide)))
  · exact Or.inr (Or.inr (Or.inr (Or.inl (by decide))))
  · exact Or.inr (Or.inr (Or.inr (Or.inr (Or.inl (by decide)))))
  · exact Or.inr (Or.inr (Or.inr (Or.inr (Or.inr (Or.inl (by decide))))))
  · exact Or.inr (Or.inr (Or.inr (Or.inr (Or.inr (Or.inr (Or.inl (by decide)))))))
  · exact Or.inr (Or.inr (Or.inr (Or.inr (Or.inr (Or.inr (Or.inr (Or.inl (by decide))))))))
  · exact Or.inr (Or.inr (Or.inr (Or.inr (Or.inr (Or.inr (Or.inr (Or.inr (Or.inl (by decide)))))))))
  · exact Or.inr (Or.inr (Or.inr (Or.inr (Or.inr (Or.inr (Or.inr (Or.inr (Or.inr (Or.inl (by decide))))))))))
  · exact Or.inr (Or.inr (Or.inr (Or.inr (Or.inr (Or.inr (Or.inr (Or.inr (Or.inr (Or.inr (Or.inl (by decide)))))))))))
  · exact Or.inr (Or.inr (Or.inr (Or.inr (Or.inr (Or.inr (Or.inr (Or.inr (Or.inr (Or.inr (Or.inr (Or.inl (by decide))))))))))))
  · exact Or.inr (Or.inr (Or.inr (Or.inr (Or.inr (Or.inr (Or.inr (Or.inr (Or.inr (Or.inr (Or.inr (Or.inr (Or.inl (by decide)))))))))))))
  · exact Or.inr (Or.inr (Or.inr (Or.inr (Or.inr (Or.inr (Or.inr (Or.inr (Or.inr (Or.inr (Or.inr (Or.inr (Or.inr (Or.inl (by decide))))))))))))))
  · exact Or.inr (Or.inr (Or.inr (Or.inr (Or.inr (Or.inr (Or.inr (Or.inr (Or.inr (Or.inr (Or.inr (Or.inr (Or.inr (Or.inr ((by decide)))))))))))))))
theorem g3_all (n : Nat) (hn : n < 256) (h : nI n >>> ((4 : Int32) &&& 31) = 3) : (nI n = 48 ∨ nI n = 49 ∨ nI n = 50 ∨ nI n = 51 ∨ nI n = 52 ∨ nI n = 53 ∨ nI n = 54 ∨ nI n = 55 ∨ nI n = 56 ∨ nI n = 57 ∨ nI n = 58 ∨ nI n = 59 ∨ nI n = 60 ∨ nI n = 61 ∨ nI n = 62) ∨ nI n = 63 := by
  rw [pk_shrN (by omega) _ 4 (by decide), show (3 : Int32) = nI 3 by decide, nI_eq (by omega) (by omega)] at h
  have : n = 48 ∨ n = 49 ∨ n = 50 ∨ n = 51 ∨ n = 52 ∨ n = 53 ∨ n = 54 ∨ n = 55 ∨ n = 56 ∨ n = 57 ∨ n = 58 ∨ n = 59 ∨ n = 60 ∨ n = 61 ∨ n = 62 ∨ n = 63 := by omega
  rcases this with rfl | rfl | rfl | rfl | rfl | rfl | rfl | rfl | rfl | rfl | rfl | rfl | rfl | rfl | rfl | rfl
  · exact Or.inl (Or.inl (by decide))
  · exact Or.inl (Or.inr (Or.inl (by decide)))
  · exact Or.inl (Or.inr (Or.inr (Or.inl (by decide))))
  · exact Or.inl (Or.inr (Or.inr (Or.inr (Or.inl (by decide)))))
  · exact Or.inl (Or.inr (Or.inr (Or.inr (Or.inr (Or.inl (by decide))))))
  · exact Or.inl (Or.inr (Or.inr (Or.inr (Or.inr (Or.inr (Or.inl (by decide)))))))
  · exact Or.inl (Or.inr (Or.inr (Or.inr (Or.inr (Or.inr (Or.inr (Or.inl (by decide))))))))
  · exact Or.inl (Or.inr (Or.inr (Or.inr (Or.inr (Or.inr (Or.inr (Or.inr (Or.inl (by decide)))))))))
  · exact Or.inl (Or.inr (Or.inr (Or.inr (Or.inr (Or.inr (Or.inr (Or.inr (Or.inr (Or.inl (by decide))))))))))
  · exact Or.inl (Or.inr (Or.inr (Or.inr (Or.inr (Or.inr (Or.inr (Or.inr (Or.inr (Or.inr (Or.inl (by decide)))))))))))
  · exact Or.inl (Or.inr (Or.inr (Or.inr (Or.inr (Or.inr (Or.inr (Or.inr (Or.inr (Or.inr (Or.inr (Or.inl (by decide))))))))))))
  · exact Or.inl (Or.inr (Or.inr (Or.inr (Or.inr (Or.inr (Or.inr (Or.inr (Or.inr (Or.inr (Or.inr (Or.inr (Or.inl (by decide)))))))))))))
  · exact Or.inl (Or.inr (Or.inr (Or.inr (Or.inr (Or.inr (Or.inr (Or.inr (Or.inr (Or.inr (Or.inr (Or.inr (Or.inr (Or.inl (by decide))))))))))))))
  · exact Or.inl (Or.inr (Or.inr (Or.inr (Or.inr (Or.inr (Or.inr (Or.inr (Or.inr (Or.inr (Or.inr (Or.inr (Or.inr (Or.inr (Or.inl (by decide)))))))))))))))
  · exact Or.inl (Or.inr (Or.inr (Or.inr (Or.inr (Or.inr (Or.inr (Or.inr (Or.inr (Or.inr (Or.inr (Or.inr (Or.inr (Or.inr (Or.inr ((by decide))))))))))))))))
  · exact Or.inr (by decide)
theorem hi_all : ∀ n, n < 256 → (nI n >>> ((4 : Int32) &&& 31) = 0 ∧ nI n < 128 ∧ ¬ nI n = 16) ∨ (nI n >>> ((4 : Int32) &&& 31) = 1 ∧ nI n < 128) ∨ (nI n >>> ((4 : Int32) &&& 31) = 2 ∧ nI n < 128 ∧ ¬ nI n = 16) ∨ (nI n >>> ((4 : Int32) &&& 31) = 3 ∧ nI n < 128 ∧ ¬ nI n = 16) ∨ (nI n >>> ((4 : Int32) &&& 31) = 4 ∧ nI n < 128 ∧ ¬ nI n = 16) ∨ (nI n >>> ((4 : Int32) &&& 31) = 5 ∧ nI n < 128 ∧ ¬ nI n = 16) ∨ (nI n >>> ((4 : Int32) &&& 31) = 6 ∧ nI n < 128 ∧ ¬ nI n = 16) ∨ (nI n >>> ((4 : Int32) &&& 31) = 7 ∧ nI n < 128 ∧ ¬ nI n = 16) ∨ (¬ nI n < 128) := by decide +kernel
theorem up_all : ∀ n, n < 256 → ¬ nI n < 128 → ¬ nI n >>> ((4 : Int32) &&& 31) = 0 ∧ ¬ nI n >>> ((4 : Int32) &&& 31) = 1 ∧ ¬ nI n >>> ((4 : Int32) &&& 31) = 2 ∧ ¬ nI n >>> ((4 : Int32) &&& 31) = 3 ∧ ¬ nI n >>> ((4 : Int32) &&& 31) = 4 ∧ ¬ nI n >>> ((4 : Int32) &&& 31) = 5 ∧ ¬ nI n >>> ((4 : Int32) &&& 31) = 6 ∧ ¬ nI n >>> ((4 : Int32) &&& 31) = 7 := by decide +kernel
theorem lw_eq {op gv : Int32} (h : op >>> ((4 : Int32) &&& 31) = gv) (h4 : ¬ gv = 4) (h5 : ¬ gv = 5) (me rg : Nat → Int32) (sp : Int32) (iv : Bool) : mo_lower op me rg sp iv = mo_lower_j24 (op &&& 15) gv false me rg sp iv := by
  unfold mo_lower
  rw [h, if_neg h4, if_neg h5]
theorem lw_eq2 {op gv : Int32} (h : op >>> ((4 : Int32) &&& 31) = gv) (h4 : gv = 4 ∨ gv = 5) (me rg : Nat → Int32) (sp : Int32) (iv : Bool) : mo_lower op me rg sp iv = mo_lower_j24 (op &&& 15) gv true me rg sp iv := by
  unfold mo_lower
  rw [h]
  rcases h4 with rfl | rfl
  · rw [if_pos rfl]
    rfl
  · rw [if_neg (by decide), if_pos rfl]
    rfl
theorem exec_ok (hB : okB cb) (ho : ok_ a b d c x y u s p) (py0 po0 sp : Int32) (iv : Bool) : ∃ (r py' : Int32) (cb' : Nat → Int32) (g' : R9), tc_P_execute py0 po0 cb a b d c x y u s p = some (r, py', r, cb', g') ∧ ex_ok cb a b d c x y u s p so sv tl su qu wa ru r py' cb' g' (mo_instruction cb (rf_ a b d c x y u s p) so sv tl su qu wa ru sp iv) := by
  obtain ⟨n, hn, en⟩ := rd_ok hB p
  have ho' := ok_p ho (p + 1)
  unfold tc_P_execute mo_instruction
  rw [tc_fetch1, mo_fetch_eq, Option.bind_some, Option.bind_some]
  dsimp only
  rw [en, show (0 : Int32) + 1 = 1 by decide]
  rcases hi_all n hn with ⟨h, hl, h16⟩ | ⟨h, hl⟩ | ⟨h, hl, h16⟩ | ⟨h, hl, h16⟩ | ⟨h, hl, h16⟩ | ⟨h, hl, h16⟩ | ⟨h, hl, h16⟩ | ⟨h, hl, h16⟩ | hl
  · rw [if_pos h, if_pos hl, if_neg h16, lw_eq h (by decide) (by decide), h, if_neg (by decide), if_neg (by decide), if_neg (by decide)]
    obtain ⟨z, h1, h2⟩ := cm_ok hB ho' (nI n) 1 (Or.inl ⟨rfl, rfl⟩)
    rw [h1, Option.bind_some]
    exact fin_cp h2
  · rw [h, if_neg (by decide), if_pos rfl, if_pos hl]
    by_cases h16 : nI n = 16
    · rw [if_pos h16, if_pos h16, tc_fetch1, Option.bind_some]
      unfold mo_second
      rw [mo_fetch_eq, Option.bind_some]
      dsimp only
      have key : ∃ z, tc_P_doSecondPage (rd_ cb ((p + 1) &&& 65535)) (1 + 1) (-1) cb a b d c x y u s ((((p + 1) &&& 65535) + 1) &&& 65535) = some z ∧ cp_ok z (if (192 : Int32) ≤ rd_ cb ((p + 1) &&& 65535) then mo_second_j28 (rd_ cb ((p + 1) &&& 65535)) ((rd_ cb ((p + 1) &&& 65535) >>> ((4 : Int32) &&& 31)) &&& 3) (rd_ cb ((p + 1) &&& 65535) &&& 15) false cb (rf_ a b d c x y u s ((((p + 1) &&& 65535) + 1) &&& 65535)) (1 + 1) false else mo_second_j28 (rd_ cb ((p + 1) &&& 65535)) ((rd_ cb ((p + 1) &&& 65535) >>> ((4 : Int32) &&& 31)) &&& 3) (rd_ cb ((p + 1) &&& 65535) &&& 15) true cb (rf_ a b d c x y u s ((((p + 1) &&& 65535) + 1) &&& 65535)) (1 + 1) false) := by
        unfold tc_P_doSecondPage
        by_cases h192 : (192 : Int32) ≤ rd_ cb ((p + 1) &&& 65535)
        · rw [if_neg (Int32.not_lt.mpr h192), if_pos h192]
          exact sp_in hB (ok_p ho _) _ false (md_of _)
        · rw [if_pos (Int32.not_le.mp h192), if_neg h192]
          exact sp_in hB (ok_p ho _) _ true (md_of _)
      obtain ⟨z, h1, h2⟩ := key
      rw [h1, Option.bind_some]
      exact fin_cp h2
    · rw [if_neg h16, if_neg h16, if_neg (by decide), if_pos rfl]
      obtain ⟨py', po', g', h1, h2⟩ := g1_ok (so := so) (sv := sv) (tl := tl) (su := su) (qu := qu) (wa := wa) (ru := ru) hB ho' (nI n) 1 (g1_all n hn h h16)
      rw [h1, Option.bind_some]
      unfold mo_instruction_j75
      exact fin_sg h2
  · rw [h, if_neg (by decide), if_neg (by decide), if_pos rfl, if_pos hl, if_neg h16, if_pos rfl]
    obtain ⟨py', p', h1, h2, h3⟩ := br_ok hB ho' (nI n) 1
    rw [h1, h3, Option.bind_some, Option.bind_some]
    refine ⟨_, _, _, (a, b, d, c, x, y, u, s, p'), rfl, Or.inl ⟨rfl, hB, ?_, rfl⟩⟩
    obtain ⟨ha, hb, hd, hc, hx, hy, hu, hs, -⟩ := ho
    exact ⟨ha, hb, hd, hc, hx, hy, hu, hs, h2⟩
  · rw [h, if_neg (by decide), if_neg (by decide), if_neg (by decide), if_pos rfl, if_pos hl, if_neg h16, if_neg (by decide), if_neg (by decide), if_pos rfl]
    unfold mo_instruction_j75
    rcases g3_all n hn h with h3 | h63
    · obtain ⟨z, h1, h2⟩ := g3_ok (so := so) (sv := sv) (tl := tl) (su := su) (qu := qu) (wa := wa) (ru := ru) hB ho' (nI n) 1 h3
      rw [h1, Option.bind_some]
      exact fin_sg h2
    · rw [h63, dg_63, sl_63, tc_fetch1, Option.bind_some]
      unfold mo_single_j223
      rw [if_neg (by decide), if_neg (by decide), if_neg (by decide), if_pos rfl, Option.bind_some, Option.bind_assoc]
      obtain ⟨k, hk, ek⟩ := rd_ok hB ((p + 1) &&& 65535)
      unfold tc_P_execute_j168
      dsimp only
      rw [if_neg (by rw [ek]; exact (by decide +kernel : ∀ k, k < 256 → ¬ nI k = -2) k hk)]
      refine ⟨_, _, _, (a, b, d, c, x, y, u, s, (((p + 1) &&& 65535) + 1) &&& 65535), rfl, Or.inr (Or.inr ⟨rfl, rfl, rfl, ?_, rfl⟩)⟩
      rw [mask_add, i_11]
  · rw [lw_eq2 h (Or.inl rfl), h, if_neg (by decide), if_neg (by decide), if_neg (by decide), if_neg (by decide), if_pos rfl, if_pos hl, if_neg h16, if_neg (by decide), if_neg (by decide), if_neg (by decide)]
    obtain ⟨po', g', h1, h2⟩ := cr_ok (cb := cb) ho' (nI n) 1 (Or.inl ⟨rfl, rfl⟩)
    rw [h1, Option.bind_some]
    have : cp_ok (1, po', cb, g') (mo_lower_j24 (nI n &&& 15) 4 true cb (rf_ a b d c x y u s ((p + 1) &&& 65535)) 1 false) := by
      rcases h2 with ⟨k1, k2, k3⟩ | ⟨k1, g0, sp, k3⟩
      · exact Or.inl ⟨k1, hB, k2, k3⟩
      · exact Or.inr ⟨k1, hB, g0, sp, k3⟩
    exact fin_cp this
  · rw [lw_eq2 h (Or.inr rfl), h, if_neg (by decide), if_neg (by decide), if_neg (by decide), if_neg (by decide), if_neg (by decide), if_pos rfl, if_pos hl, if_neg h16, if_neg (by decide), if_neg (by decide), if_neg (by decide)]
    obtain ⟨po', g', h1, h2⟩ := cr_ok (cb := cb) ho' (nI n) 1 (Or.inr ⟨rfl, rfl⟩)
    rw [h1, Option.bind_some]
    have : cp_ok (1, po', cb, g') (mo_lower_j24 (nI n &&& 15) 5 true cb (rf_ a b d c x y u s ((p + 1) &&& 65535)) 1 false) := by
      rcases h2 with ⟨k1, k2, k3⟩ | ⟨k1, g0, sp, k3⟩
      · exact Or.inl ⟨k1, hB, k2, k3⟩
      · exact Or.inr ⟨k1, hB, g0, sp, k3⟩
    exact fin_cp this
  · unfold tc_P_execute_j147
    rw [lw_eq h (by decide) (by decide), h, if_neg (by decide), if_neg (by decide), if_neg (by decide), if_neg (by decide), if_neg (by decide), if_neg (by decide), if_pos rfl, if_pos hl, if_neg h16, if_neg (by decide), if_neg (by decide), if_neg (by decide)]
    obtain ⟨z, h1, h2⟩ := cm_ok hB ho' (nI n) 1 (Or.inr (Or.inl ⟨rfl, (by decide : (6 : Int32) &&& 3 = 2)⟩))
    rw [h1, Option.bind_some]
    exact fin_cp h2
  · unfold tc_P_execute_j147
    rw [lw_eq h (by decide) (by decide), h, if_neg (by decide), if_neg (by decide), if_neg (by decide), if_neg (by decide), if_neg (by decide), if_neg (by decide), if_neg (by decide), if_pos rfl, if_pos hl, if_neg h16, if_neg (by decide), if_neg (by decide), if_neg (by decide)]
    obtain ⟨z, h1, h2⟩ := cm_ok hB ho' (nI n) 1 (Or.inr (Or.inr ⟨rfl, (by decide : (7 : Int32) &&& 3 = 3)⟩))
    rw [h1, Option.bind_some]
    exact fin_cp h2
  · obtain ⟨u0, u1, u2, u3, u4, u5, u6, u7⟩ := up_all n hn hl
    rw [if_neg u0, if_neg u1, if_neg u2, if_neg u3, if_neg u4, if_neg u5, if_neg u6, if_neg u7, if_neg hl]
    have key : ∃ z, tc_P_doMainPage (nI n) 1 (-1) cb a b d c x y u s ((p + 1) &&& 65535) = some z ∧ cp_ok z (mo_upper (nI n) cb (rf_ a b d c x y u s ((p + 1) &&& 65535)) 1 false) := by
      unfold tc_P_doMainPage mo_upper
      by_cases h192 : (192 : Int32) ≤ nI n
      · rw [if_neg (Int32.not_lt.mpr h192), if_pos h192]
        exact mp_in hB ho' 1 false (md_of _) ⟨fun _ => rfl, fun _ => h192⟩
      · rw [if_pos (Int32.not_le.mp h192), if_neg h192]
        exact mp_in hB ho' 1 true (md_of _) ⟨fun q => absurd q h192, fun q => Bool.noConfusion q⟩
    obtain ⟨z, h1, h2⟩ := key
    rw [h1, Option.bind_some]
    exact fin_cp h2
end EX
