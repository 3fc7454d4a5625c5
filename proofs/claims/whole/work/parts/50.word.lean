/-! Words: loads, compares, sums of D; stores. -/
def wq_ (q : Int32) : Prop := q = 0 ∨ q = 1 ∨ q = 2 ∨ q = 3 ∨ q = 4
section W16
variable {cb : Nat → Int32} {a b d c x y u s p : Int32}
theorem gw_ (ho : ok_ a b d c x y u s p) {q : Int32} (hq : wq_ q) : ∃ r, tc_G_get q a b d c x y u s p = some r ∧ rw_ r ∧ mo_get q (rf_ a b d c x y u s p) = some r ∧ vk_ q ∧ tc_G_sizeOf q = some 2 := by
  obtain ⟨ha, hb, hd, hc, hx, hy, hu, hs, hp⟩ := ho
  have hv : vk_ q := by rcases hq with rfl | rfl | rfl | rfl | rfl <;> (unfold vk_; decide)
  have e := get_eq (d := d) (c := c) (x := x) (y := y) (u := u) (s := s) (p := p) hv ha hb
  rcases hq with rfl | rfl | rfl | rfl | rfl
  · refine ⟨_, rfl, ?_, e, hv, rfl⟩
    rw [hl_eq ha hb]
    exact hl_rw ha hb
  · exact ⟨_, rfl, hx, e, hv, rfl⟩
  · exact ⟨_, rfl, hy, e, hv, rfl⟩
  · exact ⟨_, rfl, hu, e, hv, rfl⟩
  · exact ⟨_, rfl, hs, e, hv, rfl⟩
theorem wl_ok (hB : okB cb) (ho : ok_ a b d c x y u s p) {q mode : Int32} (py : Int32) (hq : wq_ q) (hm : md_ mode) : ∃ z, tc_P_operate 6 q mode py (-1) cb a b d c x y u s p = some z ∧ cp_ok z ((mo_wordOp q mode false cb (rf_ a b d c x y u s p) py false).bind fun t => some (cb, t.1, t.2.1, t.2.2)) := by
  obtain ⟨-, -, -, -, -, hsz⟩ := gw_ ho hq
  have e1 : tc_P_operate 6 q mode py (-1) cb a b d c x y u s p = tc_P_operate_j23 6 q mode 2 py (-1) cb a b d c x y u s p := by
    unfold tc_P_operate
    rw [hsz, Option.bind_some, if_neg (by decide)]
  obtain ⟨z, h1, h2⟩ := on_ok hB ho mode py true hm
  have h1 : tc_P_operandAddress mode 2 py (-1) cb a b d c x y u s p = some z := h1
  rw [e1]
  unfold tc_P_operate_j23 mo_wordOp
  rw [h1, Option.bind_some]
  obtain ⟨ad, py1, po, a', b', d', c1, x', y', u', s', p'⟩ := z
  rcases h2 with ⟨g1, g2, m, py', g3, g4, g5⟩ | ⟨g1, w, rg, sp, g5⟩
  · dsimp only at g1 g2 g3 g5 ⊢
    have g3 : tc_P_load ad 2 py1 cb = some (m, py') := g3
    have g4 : rw_ m := g4
    obtain ⟨r, r1, r2, r3, r4, -⟩ := gw_ g2 hq
    obtain ⟨c', k1, k2, k3⟩ := plain16 g4 g2.2.2.2.1 a' b' d' x' y' u' s' p'
    have hg' : ok_ a' b' d' c' x' y' u' s' p' := ⟨g2.1, g2.2.1, g2.2.2.1, k2, g2.2.2.2.2⟩
    obtain ⟨g9, n1, n2, n3⟩ := set_eq (v := m) r4 hg'
    have ec : tc_P_calculate 6 r m 2 c1 = some (m, c') := by
      show ((tc_C_plain m 2 c1).bind _) = _
      rw [k1]; rfl
    rw [g5, Option.bind_some, if_neg (by rw [g1]; decide), if_neg (by decide), g3, Option.bind_some, r1, Option.bind_some]
    dsimp only
    rw [ec, Option.bind_some, if_neg (by decide), if_neg (by decide), n1, if_pos (show bz_i false = 0 from rfl), if_pos (show bz_i false = 0 from rfl), k3, Option.bind_some, Option.bind_some]
    dsimp only
    rw [n2]
    exact ⟨_, rfl, Or.inl ⟨g1, hB, n3, rfl⟩⟩
  · dsimp only at g1 g5 ⊢
    rw [if_pos g1, g5]
    exact ⟨_, rfl, Or.inr ⟨g1, hB, rg, sp, rfl⟩⟩
theorem wc_ok (hB : okB cb) (ho : ok_ a b d c x y u s p) {q mode : Int32} (py : Int32) (hq : wq_ q) (hm : md_ mode) : ∃ z, tc_P_operate 1 q mode py (-1) cb a b d c x y u s p = some z ∧ cp_ok z ((mo_wordOp q mode true cb (rf_ a b d c x y u s p) py false).bind fun t => some (cb, t.1, t.2.1, t.2.2)) := by
  obtain ⟨-, -, -, -, -, hsz⟩ := gw_ ho hq
  have e1 : tc_P_operate 1 q mode py (-1) cb a b d c x y u s p = tc_P_operate_j23 1 q mode 2 py (-1) cb a b d c x y u s p := by
    unfold tc_P_operate
    rw [hsz, Option.bind_some, if_neg (by decide)]
  obtain ⟨z, h1, h2⟩ := on_ok hB ho mode py true hm
  have h1 : tc_P_operandAddress mode 2 py (-1) cb a b d c x y u s p = some z := h1
  rw [e1]
  unfold tc_P_operate_j23 mo_wordOp
  rw [h1, Option.bind_some]
  obtain ⟨ad, py1, po, a', b', d', c1, x', y', u', s', p'⟩ := z
  rcases h2 with ⟨g1, g2, m, py', g3, g4, g5⟩ | ⟨g1, w, rg, sp, g5⟩
  · dsimp only at g1 g2 g3 g5 ⊢
    have g3 : tc_P_load ad 2 py1 cb = some (m, py') := g3
    have g4 : rw_ m := g4
    obtain ⟨r, r1, r2, r3, r4, -⟩ := gw_ g2 hq
    obtain ⟨v, c', k1, k2, k3, k4, -⟩ := diff16 r2 g4 (Or.inl rfl) g2.2.2.2.1 a' b' d' x' y' u' s' p'
    have hg' : ok_ a' b' d' c' x' y' u' s' p' := ⟨g2.1, g2.2.1, g2.2.2.1, k3, g2.2.2.2.2⟩
    have ec : tc_P_calculate 1 r m 2 c1 = some (v, c') := by
      show ((tc_C_difference r m 0 2 c1).bind _) = _
      rw [k1]; rfl
    rw [g5, Option.bind_some, if_neg (by rw [g1]; decide), if_neg (by decide), g3, Option.bind_some, r1, Option.bind_some]
    dsimp only
    rw [ec, Option.bind_some, if_pos rfl, if_pos (show bz_i false = 0 from rfl), if_neg (by decide), r3, Option.bind_some, k4]
    exact ⟨_, rfl, Or.inl ⟨g1, hB, hg', rfl⟩⟩
  · dsimp only at g1 g5 ⊢
    rw [if_pos g1, g5]
    exact ⟨_, rfl, Or.inr ⟨g1, hB, rg, sp, rfl⟩⟩
/-- D and a word: SUBD (low), ADDD -/
theorem wd_ok (hB : okB cb) (ho : ok_ a b d c x y u s p) {mode : Int32} (py : Int32) (low : Bool) (hm : md_ mode) : ∃ z, tc_P_operate (bif low then 0 else 11) 0 mode py (-1) cb a b d c x y u s p = some z ∧ cp_ok z ((mo_operand mode true cb (rf_ a b d c x y u s p) py false).bind fun z30 => (mo_get 0 z30.2.1).bind fun z31 => if (bz_i z30.2.2.2) = 0 then if (bz_i low) = 0 then (mo_sum z31 z30.1 0 16 z30.2.1).bind fun z32 => mo_upper_j141 z32.1 cb z32.2 z30.2.2.1 z30.2.2.2 else (mo_difference z31 z30.1 0 16 z30.2.1).bind fun z33 => mo_upper_j141 z33.1 cb z33.2 z30.2.2.1 z30.2.2.2 else some (cb, z30.2.1, z30.2.2.1, z30.2.2.2)) := by
  have e1 : tc_P_operate (bif low then 0 else 11) 0 mode py (-1) cb a b d c x y u s p = tc_P_operate_j23 (bif low then 0 else 11) 0 mode 2 py (-1) cb a b d c x y u s p := by
    cases low <;> rfl
  obtain ⟨z, h1, h2⟩ := on_ok hB ho mode py true hm
  have h1 : tc_P_operandAddress mode 2 py (-1) cb a b d c x y u s p = some z := h1
  rw [e1]
  unfold tc_P_operate_j23
  rw [h1, Option.bind_some]
  obtain ⟨ad, py1, po, a', b', d', c1, x', y', u', s', p'⟩ := z
  rcases h2 with ⟨g1, g2, m, py', g3, g4, g5⟩ | ⟨g1, w, rg, sp, g5⟩
  · dsimp only at g1 g2 g3 g5 ⊢
    have g3 : tc_P_load ad 2 py1 cb = some (m, py') := g3
    have g4 : rw_ m := g4
    obtain ⟨r, r1, r2, r3, r4, -⟩ := gw_ g2 (Or.inl rfl)
    rw [g5, Option.bind_some, if_neg (by rw [g1]; decide), if_neg (by cases low <;> decide), g3, Option.bind_some, r1, Option.bind_some]
    dsimp only
    rw [r3, Option.bind_some, if_pos (show bz_i false = 0 from rfl)]
    cases low with
    | true =>
      obtain ⟨v, c', k1, k2, k3, k4, -⟩ := diff16 r2 g4 (Or.inl rfl) g2.2.2.2.1 a' b' d' x' y' u' s' p'
      have hg' : ok_ a' b' d' c' x' y' u' s' p' := ⟨g2.1, g2.2.1, g2.2.2.1, k3, g2.2.2.2.2⟩
      obtain ⟨g9, n1, n2, n3⟩ := set_eq (v := v) r4 hg'
      have ec : tc_P_calculate 0 r m 2 c1 = some (v, c') := by
        show ((tc_C_difference r m 0 2 c1).bind _) = _
        rw [k1]; rfl
      rw [show (bif true then (0 : Int32) else 11) = 0 from rfl, ec, Option.bind_some, if_neg (by decide), if_neg (by decide), n1, if_neg (show ¬ bz_i true = 0 by decide), k4, Option.bind_some, Option.bind_some]
      unfold mo_upper_j141
      dsimp only
      rw [n2]
      exact ⟨_, rfl, Or.inl ⟨g1, hB, n3, rfl⟩⟩
    | false =>
      obtain ⟨v, c', k1, k2, k3, k4⟩ := sum16 r2 g4 (Or.inl rfl) g2.2.2.2.1 a' b' d' x' y' u' s' p'
      have hg' : ok_ a' b' d' c' x' y' u' s' p' := ⟨g2.1, g2.2.1, g2.2.2.1, k3, g2.2.2.2.2⟩
      obtain ⟨g9, n1, n2, n3⟩ := set_eq (v := v) r4 hg'
      have ec : tc_P_calculate 11 r m 2 c1 = some (v, c') := by
        show ((tc_C_sum r m 0 2 c1).bind _) = _
        rw [k1]; rfl
      rw [show (bif false then (0 : Int32) else 11) = 11 from rfl, ec, Option.bind_some, if_neg (by decide), if_neg (by decide), n1, if_pos (show bz_i false = 0 from rfl), k4, Option.bind_some, Option.bind_some]
      unfold mo_upper_j141
      dsimp only
      rw [n2]
      exact ⟨_, rfl, Or.inl ⟨g1, hB, n3, rfl⟩⟩
  · dsimp only at g1 g5 ⊢
    rw [if_pos g1, g5]
    exact ⟨_, rfl, Or.inr ⟨g1, hB, rg, sp, rfl⟩⟩
/-- stores -/
theorem sv_bad (hB : okB cb) (q py : Int32) (hq : vk_ q) : ∃ z, tc_P_operate 7 q 0 py (-1) cb a b d c x y u s p = some z ∧ cp_ok z (mo_save 0 q cb (rf_ a b d c x y u s p) py false) := by
  refine ⟨(py, -2, cb, a, b, d, c, x, y, u, s, p), ?_, Or.inr ⟨rfl, hB, (a, b, d, c, x, y, u, s, p), py, rfl⟩⟩
  unfold tc_P_operate
  rw [show tc_G_sizeOf q = some (if 5 < q then 1 else 2) by unfold tc_G_sizeOf; split <;> rfl]
  rfl
theorem sv16 (hB : okB cb) (ho : ok_ a b d c x y u s p) {q mode : Int32} (py : Int32) (hq : wq_ q) (hm : mode = 1 ∨ mode = 2 ∨ mode = 3) : ∃ z, tc_P_operate 7 q mode py (-1) cb a b d c x y u s p = some z ∧ cp_ok z (mo_save mode q cb (rf_ a b d c x y u s p) py false) := by
  obtain ⟨-, -, -, -, -, hsz⟩ := gw_ ho hq
  have hm0 : ¬ mode = 0 := by rcases hm with rfl | rfl | rfl <;> decide
  have e1 : tc_P_operate 7 q mode py (-1) cb a b d c x y u s p = tc_P_operate_j23 7 q mode 2 py (-1) cb a b d c x y u s p := by
    unfold tc_P_operate
    rw [hsz, Option.bind_some, if_pos rfl, if_neg hm0]
  have e2 : mo_save mode q cb (rf_ a b d c x y u s p) py false = (mo_address mode cb (rf_ a b d c x y u s p) py false).bind fun z11 => mo_save_j36 q z11.1 cb z11.2.1 z11.2.2.1 z11.2.2.2 := by
    unfold mo_save
    rw [if_pos (show bz_i false = 0 from rfl), if_neg hm0]
    rfl
  obtain ⟨z, h1, h2⟩ := oa_ok hB ho mode 2 py hm
  rw [e1, e2]
  unfold tc_P_operate_j23
  rw [h1, Option.bind_some]
  obtain ⟨ad, py1, po, a', b', d', c1, x', y', u', s', p'⟩ := z
  rcases h2 with ⟨g1, g2, g3, g4⟩ | ⟨g1, w, rg, sp, g4⟩
  · dsimp only at g1 g2 g3 g4 ⊢
    obtain ⟨r, r1, r2, r3, r4, -⟩ := gw_ g3 hq
    obtain ⟨c', k1, k2, k3⟩ := plain16 r2 g3.2.2.2.1 a' b' d' x' y' u' s' p'
    have hg' : ok_ a' b' d' c' x' y' u' s' p' := ⟨g3.1, g3.2.1, g3.2.2.1, k2, g3.2.2.2.2⟩
    rw [g4, Option.bind_some, if_neg (by rw [g1]; decide), if_pos rfl, r1, Option.bind_some, k1, Option.bind_some]
    dsimp only
    unfold tc_P_store mo_save_j36
    rw [tc_store2, Option.bind_some, Option.bind_some, if_pos (show bz_i false = 0 from rfl), r3, Option.bind_some, if_neg (by rcases hq with rfl | rfl | rfl | rfl | rfl <;> decide)]
    unfold mo_save_j67
    rw [mo_store2, Option.bind_some, if_neg (by rcases hq with rfl | rfl | rfl | rfl | rfl <;> decide)]
    unfold mo_save_j86
    rw [k3]
    exact ⟨_, rfl, Or.inl ⟨g1, wr2_ok hB _ _, hg', rfl⟩⟩
  · dsimp only at g1 g4 ⊢
    rw [if_pos g1, g4]
    exact ⟨_, rfl, Or.inr ⟨g1, hB, rg, sp, rfl⟩⟩
theorem sv8 (hB : okB cb) (ho : ok_ a b d c x y u s p) {q mode : Int32} (py : Int32) (hq : q = 8 ∨ q = 9) (hm : mode = 1 ∨ mode = 2 ∨ mode = 3) : ∃ z, tc_P_operate 7 q mode py (-1) cb a b d c x y u s p = some z ∧ cp_ok z (mo_save mode q cb (rf_ a b d c x y u s p) py false) := by
  have hm0 : ¬ mode = 0 := by rcases hm with rfl | rfl | rfl <;> decide
  have e1 : tc_P_operate 7 q mode py (-1) cb a b d c x y u s p = tc_P_operate_j23 7 q mode 1 py (-1) cb a b d c x y u s p := by
    unfold tc_P_operate
    rw [show tc_G_sizeOf q = some 1 by rcases hq with rfl | rfl <;> rfl, Option.bind_some, if_pos rfl, if_neg hm0]
  have e2 : mo_save mode q cb (rf_ a b d c x y u s p) py false = (mo_address mode cb (rf_ a b d c x y u s p) py false).bind fun z11 => mo_save_j36 q z11.1 cb z11.2.1 z11.2.2.1 z11.2.2.2 := by
    unfold mo_save
    rw [if_pos (show bz_i false = 0 from rfl), if_neg hm0]
    rfl
  obtain ⟨z, h1, h2⟩ := oa_ok hB ho mode 1 py hm
  rw [e1, e2]
  unfold tc_P_operate_j23
  rw [h1, Option.bind_some]
  obtain ⟨ad, py1, po, a', b', d', c1, x', y', u', s', p'⟩ := z
  rcases h2 with ⟨g1, g2, g3, g4⟩ | ⟨g1, w, rg, sp, g4⟩
  · dsimp only at g1 g2 g3 g4 ⊢
    have hr : ∃ r, tc_G_get q a' b' d' c1 x' y' u' s' p' = some r ∧ rb_ r ∧ mo_get q (rf_ a' b' d' c1 x' y' u' s' p') = some r := by
      rcases hq with rfl | rfl
      · exact ⟨a', rfl, g3.1, rfl⟩
      · exact ⟨b', rfl, g3.2.1, rfl⟩
    obtain ⟨r, r1, r2, r3⟩ := hr
    obtain ⟨c', k1, k2, k3⟩ := plain8 r2 g3.2.2.2.1 a' b' d' x' y' u' s' p'
    have hg' : ok_ a' b' d' c' x' y' u' s' p' := ⟨g3.1, g3.2.1, g3.2.2.1, k2, g3.2.2.2.2⟩
    rw [g4, Option.bind_some, if_neg (by rw [g1]; decide), if_pos rfl, r1, Option.bind_some, k1, Option.bind_some]
    dsimp only
    unfold tc_P_store mo_save_j36
    rw [tc_store1, Option.bind_some, Option.bind_some, if_pos (show bz_i false = 0 from rfl), r3, Option.bind_some, if_pos (by rcases hq with rfl | rfl <;> decide)]
    unfold mo_save_j67
    rw [mo_store1, Option.bind_some, if_pos (by rcases hq with rfl | rfl <;> decide)]
    unfold mo_save_j86
    rw [k3]
    exact ⟨_, rfl, Or.inl ⟨g1, wr_ok hB _ _, hg', rfl⟩⟩
  · dsimp only at g1 g4 ⊢
    rw [if_pos g1, g4]
    exact ⟨_, rfl, Or.inr ⟨g1, hB, rg, sp, rfl⟩⟩
end W16
