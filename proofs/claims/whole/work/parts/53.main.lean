/-! Calls, the main page, the second page. -/
theorem pu_128 (me rg : Nat → Int32) (sp : Int32) : pu_ 4 128 8 me rg sp = (mo_push 4 5 me rg sp).bind fun z => some (z.1, z.2.1, z.2.2) := rfl
theorem pl_128 (me rg : Nat → Int32) (sp : Int32) : pl_ 4 128 8 me rg sp = (mo_pull 4 5 me rg sp).bind fun z => some (z.1, z.2) := rfl
section MAIN
variable {cb : Nat → Int32} {a b d c x y u s p : Int32}
/-- the class's push of a list, with cycles; the reference's -/
theorem tp_push (hB : okB cb) {st ch : Int32} (hs : ts_ st) (g : R9) (py : Int32) : ∃ (py' : Int32) (g' : R9) (cb' : Nat → Int32), tc_P_push st ch py cb g.1 g.2.1 g.2.2.1 g.2.2.2.1 g.2.2.2.2.1 g.2.2.2.2.2.1 g.2.2.2.2.2.2.1 g.2.2.2.2.2.2.2.1 g.2.2.2.2.2.2.2.2 = some (py', cb', g') ∧ okB cb' ∧ (og_ g → og_ g') ∧ pu_ st ch 8 cb (rg_ g) py = some (cb', rg_ g', py') := by
  obtain ⟨mv', g', cb', h1, h2, h3, h4⟩ := push_loop (ch := ch) hs 8 (by omega) 0 g cb hB
  refine ⟨py + mv', g', cb', ?_, h2, h3, ?_⟩
  · unfold tc_P_push tc_G_push
    rw [show (7 : Int32) = dn_ 8 by decide, h1]
    rfl
  · have := h4 py
    rwa [i_a0] at this
theorem tp_pull (hB : okB cb) {st ch : Int32} (hs : ts_ st) (g : R9) (py : Int32) : ∃ (py' : Int32) (g' : R9), tc_P_pull st ch py cb g.1 g.2.1 g.2.2.1 g.2.2.2.1 g.2.2.2.2.1 g.2.2.2.2.2.1 g.2.2.2.2.2.2.1 g.2.2.2.2.2.2.2.1 g.2.2.2.2.2.2.2.2 = some (py', g') ∧ (og_ g → og_ g') ∧ pl_ st ch 8 cb (rg_ g) py = some (rg_ g', py') := by
  obtain ⟨mv', g', h1, h2, h3, -⟩ := pull_loop (ch := ch) hs hB 8 (by omega) 0 g
  refine ⟨py + mv', g', ?_, ?_, ?_⟩
  · unfold tc_P_pull tc_G_pull
    rw [show (0 : Int32) = nI (8 - 8) by decide]
    rw [show tc_G_pull_l6 9 st ch (nI (8 - 8)) (nI (8 - 8)) g.1 g.2.1 g.2.2.1 g.2.2.2.1 g.2.2.2.2.1 g.2.2.2.2.2.1 g.2.2.2.2.2.2.1 g.2.2.2.2.2.2.2.1 g.2.2.2.2.2.2.2.2 cb = _ from h1]
    rfl
  · intro h
    obtain ⟨k1, k2, k3, k4, k5, k8, k9, k10, k11⟩ := og_N h
    exact og_of (h2 _ k1) (h2 _ k2) (h2 _ k3) (h2 _ k4) (h2 _ k5) (h2 _ k8) (h2 _ k9) (h2 _ k10) (h2 _ k11)
  · have := h3 py
    rwa [i_a0] at this
theorem mo_push_of {me rg me' rg' : Nat → Int32} {sp sp' : Int32} (h : pu_ 4 128 8 me rg sp = some (me', rg', sp')) : mo_push 4 5 me rg sp = some (me', rg', sp') := by
  rw [pu_128] at h
  obtain ⟨z, h1, h2⟩ := Option.bind_eq_some_iff.mp h
  rw [h1]
  exact h2
theorem mo_pull_of {me rg rg' : Nat → Int32} {sp sp' : Int32} (h : pl_ 4 128 8 me rg sp = some (rg', sp')) : mo_pull 4 5 me rg sp = some (rg', sp') := by
  rw [pl_128] at h
  obtain ⟨z, h1, h2⟩ := Option.bind_eq_some_iff.mp h
  rw [h1]
  exact h2
theorem call_in (hB : okB cb) (g : R9) (hg : og_ g) (v w py : Int32) (hw : v = w &&& 65535) : ∃ z, tc_P_callAt_j35 v py (-1) cb g.1 g.2.1 g.2.2.1 g.2.2.2.1 g.2.2.2.2.1 g.2.2.2.2.2.1 g.2.2.2.2.2.2.1 g.2.2.2.2.2.2.2.1 g.2.2.2.2.2.2.2.2 = some z ∧ cp_ok z (mo_call_j32 w cb (rg_ g) py false) := by
  obtain ⟨py', g', cb', h1, h2, h3, h4⟩ := tp_push (ch := 128) hB (Or.inl rfl) g py
  unfold tc_P_callAt_j35 mo_call_j32
  rw [if_neg (by decide), h1, if_pos (show bz_i false = 0 from rfl), mo_push_of h4, Option.bind_some, Option.bind_some]
  dsimp only
  rw [mo_set5, ← hw]
  refine ⟨_, rfl, Or.inl ⟨rfl, h2, ?_, rfl⟩⟩
  rw [hw]
  exact ok_p (h3 hg) w
theorem call_ok (hB : okB cb) (ho : ok_ a b d c x y u s p) {mode : Int32} (py : Int32) (hm : md_ mode) : ∃ z, tc_P_callAt mode py (-1) cb a b d c x y u s p = some z ∧ cp_ok z (mo_call mode cb (rf_ a b d c x y u s p) py false) := by
  rcases hm with rfl | hm
  · have e1 : tc_P_callAt 0 py (-1) cb a b d c x y u s p = tc_P_callAt_j35 (((rd_ cb p).toInt8.toInt32 + ((p + 1) &&& 65535)) &&& 65535) (py + 1) (-1) cb a b d c x y u s ((p + 1) &&& 65535) := by
      show ((tc_P_fetch 1 py cb p).bind _) = _
      rw [tc_fetch1]
      rfl
    have e2 : mo_call 0 cb (rf_ a b d c x y u s p) py false = mo_call_j32 (((p + 1) &&& 65535) + (rd_ cb p).toInt8.toInt32) cb (rf_ a b d c x y u s ((p + 1) &&& 65535)) (py + 1) false := by
      show ((mo_fetch cb _ py).bind _) = _
      rw [mo_fetch_eq, Option.bind_some, mo_signed_eq (rd_ok hB _)]
      rfl
    rw [e1, e2]
    exact call_in hB (a, b, d, c, x, y, u, s, (p + 1) &&& 65535) (ok_p ho _) _ _ _ (by rw [Int32.add_comm])
  · have hm0 : ¬ mode = 0 := by rcases hm with rfl | rfl | rfl <;> decide
    obtain ⟨z, h1, h2⟩ := oa_ok hB ho mode 1 py hm
    unfold tc_P_callAt mo_call
    rw [if_neg hm0, if_neg hm0, h1, Option.bind_some]
    obtain ⟨ad, py1, po, g⟩ := z
    rcases h2 with ⟨g1, g2, g3, g4⟩ | ⟨g1, w, g0, sp, g4⟩
    · dsimp only at g1 g2 g3 g4 ⊢
      rw [g4, Option.bind_some, g1]
      exact call_in hB g g3 ad ad py1 (rw_id g2).symm
    · dsimp only at g1 g4 ⊢
      rw [g4, Option.bind_some, g1]
      refine ⟨(py1, -2, cb, g), ?_, Or.inr ⟨rfl, hB, g0, sp, rfl⟩⟩
      rfl
theorem mp_in (hB : okB cb) (ho : ok_ a b d c x y u s p) {op mode : Int32} (py : Int32) (low : Bool) (hm : md_ mode) (hl : (192 : Int32) ≤ op ↔ low = false) : ∃ z, tc_P_doMainPage_j18 op mode (!low) py (-1) cb a b d c x y u s p = some z ∧ cp_ok z (mo_upper_j18 op mode low cb (rf_ a b d c x y u s p) py false) := by
  have byte : ∀ k, a8_ k → op &&& 15 = k → ∃ z, tc_P_doMainPage_j193 op mode (!low) py (-1) cb a b d c x y u s p = some z ∧ cp_ok z (mo_upper_j240 op mode cb (rf_ a b d c x y u s p) py false) := by
    intro k hk h
    cases low with
    | true =>
      obtain ⟨z, h1, h2⟩ := op8_ok hB ho py hk (Or.inl rfl) hm h
      refine ⟨z, ?_, ?_⟩
      · show ((tc_P_operate (op &&& 15) 8 mode py (-1) cb a b d c x y u s p).bind _) = _
        rw [h, h1]
        rfl
      · unfold mo_upper_j240 mo_byteOp
        rw [if_neg (fun q => Bool.noConfusion (hl.mp q))]
        exact h2
    | false =>
      obtain ⟨z, h1, h2⟩ := op8_ok hB ho py hk (Or.inr rfl) hm h
      refine ⟨z, ?_, ?_⟩
      · show ((tc_P_operate (op &&& 15) 9 mode py (-1) cb a b d c x y u s p).bind _) = _
        rw [h, h1]
        rfl
      · unfold mo_upper_j240 mo_byteOp
        rw [if_pos (hl.mpr rfl)]
        exact h2
  have save : ∀ q, (wq_ q ∨ q = 8 ∨ q = 9) → ∃ z, ((tc_P_operate 7 q mode py (-1) cb a b d c x y u s p).bind fun z17 => some (z17.1, z17.2.1, z17.2.2.1, z17.2.2.2.1, z17.2.2.2.2.1, z17.2.2.2.2.2.1, z17.2.2.2.2.2.2.1, z17.2.2.2.2.2.2.2.1, z17.2.2.2.2.2.2.2.2.1, z17.2.2.2.2.2.2.2.2.2.1, z17.2.2.2.2.2.2.2.2.2.2.1, z17.2.2.2.2.2.2.2.2.2.2.2)) = some z ∧ cp_ok z ((mo_save mode q cb (rf_ a b d c x y u s p) py false).bind fun z => some (z.1, z.2.1, z.2.2.1, z.2.2.2)) := by
    intro q hq
    have key : ∃ z, tc_P_operate 7 q mode py (-1) cb a b d c x y u s p = some z ∧ cp_ok z (mo_save mode q cb (rf_ a b d c x y u s p) py false) := by
      rcases hm with rfl | hm
      · refine sv_bad hB q py ?_
        rcases hq with hq | hq
        · rcases hq with rfl | rfl | rfl | rfl | rfl <;> (unfold vk_; decide)
        · rcases hq with rfl | rfl <;> (unfold vk_; decide)
      · rcases hq with hq | hq
        · exact sv16 hB ho py hq hm
        · exact sv8 hB ho py hq hm
    obtain ⟨z, h1, h2⟩ := key
    refine ⟨z, by rw [h1]; rfl, ?_⟩
    have e : ∀ o : Option ((Nat → Int32) × (Nat → Int32) × Int32 × Bool), (o.bind fun z => some (z.1, z.2.1, z.2.2.1, z.2.2.2)) = o := by
      intro o
      cases o <;> rfl
    rw [e]
    exact h2
  have hw1 : wq_ 1 := Or.inr (Or.inl rfl)
  have hw0 : wq_ 0 := Or.inl rfl
  have hw3 : wq_ 3 := Or.inr (Or.inr (Or.inr (Or.inl rfl)))
  rcases c16 op with h | h | h | h | h | h | h | h | h | h | h | h | h | h | h | h
  · have := byte 0 (Or.inl rfl) h
    unfold tc_P_doMainPage_j18 mo_upper_j18
    rw [h]
    exact this
  · have := byte 1 (Or.inr (Or.inl rfl)) h
    unfold tc_P_doMainPage_j18 mo_upper_j18
    rw [h]
    exact this
  · have := byte 2 (Or.inr (Or.inr (Or.inl rfl))) h
    unfold tc_P_doMainPage_j18 mo_upper_j18
    rw [h]
    exact this
  · obtain ⟨z, h1, h2⟩ := wd_ok hB ho py low hm
    refine ⟨z, ?_, ?_⟩
    · unfold tc_P_doMainPage_j18
      rw [h]
      cases low with
      | true =>
        show ((tc_P_operate 0 0 mode py (-1) cb a b d c x y u s p).bind _) = _
        rw [show tc_P_operate 0 0 mode py (-1) cb a b d c x y u s p = some z from h1]
        rfl
      | false =>
        show ((tc_P_operate 11 0 mode py (-1) cb a b d c x y u s p).bind _) = _
        rw [show tc_P_operate 11 0 mode py (-1) cb a b d c x y u s p = some z from h1]
        rfl
    · unfold mo_upper_j18
      rw [h]
      exact h2
  · have := byte 4 (Or.inr (Or.inr (Or.inr (Or.inl rfl)))) h
    unfold tc_P_doMainPage_j18 mo_upper_j18
    rw [h]
    exact this
  · have := byte 5 (Or.inr (Or.inr (Or.inr (Or.inr (Or.inl rfl))))) h
    unfold tc_P_doMainPage_j18 mo_upper_j18
    rw [h]
    exact this
  · have := byte 6 (Or.inr (Or.inr (Or.inr (Or.inr (Or.inr (Or.inl rfl)))))) h
    unfold tc_P_doMainPage_j18 mo_upper_j18
    rw [h]
    exact this
  · unfold tc_P_doMainPage_j18 mo_upper_j18
    rw [h]
    cases low with
    | true =>
      have := save 8 (Or.inr (Or.inl rfl))
      show ∃ z, tc_P_doMainPage_j209 mode 8 (op &&& 15) py (-1) cb a b d c x y u s p = some z ∧ _
      unfold tc_P_doMainPage_j209
      rw [h]
      exact this
    | false =>
      have := save 9 (Or.inr (Or.inr rfl))
      show ∃ z, tc_P_doMainPage_j209 mode 9 (op &&& 15) py (-1) cb a b d c x y u s p = some z ∧ _
      unfold tc_P_doMainPage_j209
      rw [h]
      exact this
  · have := byte 8 (Or.inr (Or.inr (Or.inr (Or.inr (Or.inr (Or.inr (Or.inl rfl))))))) h
    unfold tc_P_doMainPage_j18 mo_upper_j18
    rw [h]
    exact this
  · have := byte 9 (Or.inr (Or.inr (Or.inr (Or.inr (Or.inr (Or.inr (Or.inr (Or.inl rfl)))))))) h
    unfold tc_P_doMainPage_j18 mo_upper_j18
    rw [h]
    exact this
  · have := byte 10 (Or.inr (Or.inr (Or.inr (Or.inr (Or.inr (Or.inr (Or.inr (Or.inr (Or.inl rfl))))))))) h
    unfold tc_P_doMainPage_j18 mo_upper_j18
    rw [h]
    exact this
  · have := byte 11 (Or.inr (Or.inr (Or.inr (Or.inr (Or.inr (Or.inr (Or.inr (Or.inr (Or.inr rfl))))))))) h
    unfold tc_P_doMainPage_j18 mo_upper_j18
    rw [h]
    exact this
  · unfold tc_P_doMainPage_j18 mo_upper_j18
    rw [h]
    cases low with
    | true =>
      obtain ⟨z, h1, h2⟩ := wc_ok hB ho py hw1 hm
      refine ⟨z, ?_, h2⟩
      show ((tc_P_operate 1 1 mode py (-1) cb a b d c x y u s p).bind _) = _
      rw [h1]
      rfl
    | false =>
      obtain ⟨z, h1, h2⟩ := wl_ok hB ho py hw0 hm
      refine ⟨z, ?_, h2⟩
      show ((tc_P_operate 6 0 mode py (-1) cb a b d c x y u s p).bind _) = _
      rw [h1]
      rfl
  · unfold tc_P_doMainPage_j18 mo_upper_j18
    rw [h]
    cases low with
    | true =>
      obtain ⟨z, h1, h2⟩ := call_ok hB ho py hm
      refine ⟨z, ?_, ?_⟩
      · show ((tc_P_callAt mode py (-1) cb a b d c x y u s p).bind _) = _
        rw [h1]
        rfl
      · have e : ∀ o : Option ((Nat → Int32) × (Nat → Int32) × Int32 × Bool), (o.bind fun z => some (z.1, z.2.1, z.2.2.1, z.2.2.2)) = o := by
          intro o
          cases o <;> rfl
        show cp_ok z ((mo_call mode cb (rf_ a b d c x y u s p) py false).bind _)
        rw [e]
        exact h2
    | false => exact save 0 (Or.inl hw0)
  · unfold tc_P_doMainPage_j18 mo_upper_j18
    rw [h]
    cases low with
    | true =>
      obtain ⟨z, h1, h2⟩ := wl_ok hB ho py hw1 hm
      refine ⟨z, ?_, h2⟩
      show ((tc_P_operate 6 1 mode py (-1) cb a b d c x y u s p).bind _) = _
      rw [h1]
      rfl
    | false =>
      obtain ⟨z, h1, h2⟩ := wl_ok hB ho py hw3 hm
      refine ⟨z, ?_, h2⟩
      show ((tc_P_operate 6 3 mode py (-1) cb a b d c x y u s p).bind _) = _
      rw [h1]
      rfl
  · unfold tc_P_doMainPage_j18 mo_upper_j18
    rw [h]
    cases low with
    | true => exact save 1 (Or.inl hw1)
    | false => exact save 3 (Or.inl hw3)
end MAIN
