/-! Operands: their addresses and values; what is done with a register and an operand. -/
def md_ (m : Int32) : Prop := m = 0 ∨ m = 1 ∨ m = 2 ∨ m = 3
theorem md_of (v : Int32) : md_ (v &&& 3) := c4 v
section OPA
variable {cb : Nat → Int32} {a b d c x y u s p : Int32}
theorem oa_ok (hB : okB cb) (ho : ok_ a b d c x y u s p) (mode size py : Int32) (hm : mode = 1 ∨ mode = 2 ∨ mode = 3) : ∃ z, tc_P_operandAddress mode size py (-1) cb a b d c x y u s p = some z ∧ ad_ok z (mo_address mode cb (rf_ a b d c x y u s p) py false) := by
  rcases hm with rfl | rfl | rfl
  · refine ⟨(256 * d + rd_ cb p, py + 1, -1, a, b, d, c, x, y, u, s, (p + 1) &&& 65535), ?_, Or.inl ⟨rfl, hl_rw ho.2.2.1 (rd_ok hB _), ok_p ho _, ?_⟩⟩
    · show ((tc_P_fetch 1 py cb p).bind _) = _
      rw [tc_fetch1, Option.bind_some, hl_eq ho.2.2.1 (rd_ok hB _)]
    · show ((mo_fetch cb _ py).bind _) = _
      rw [mo_fetch_eq]
      rfl
  · obtain ⟨z, h1, h2⟩ := ix_ok hB ho py
    refine ⟨z, ?_, h2⟩
    show ((tc_P_indexedAddress py (-1) cb a b d c x y u s p).bind _) = _
    rw [h1]
    rfl
  · refine ⟨(rd2_ cb p, py + 2, -1, a, b, d, c, x, y, u, s, (p + 2) &&& 65535), ?_, Or.inl ⟨rfl, rd2_ok hB _, ok_p ho _, ?_⟩⟩
    · show ((tc_P_fetch 2 py cb p).bind _) = _
      rw [tc_fetch2 hB]
      rfl
    · show ((mo_fetchWord cb _ py).bind _) = _
      rw [mo_fetchWord_eq]
      rfl
/-- the operand itself: address, then load (the class); operand (the reference) -/
theorem on_ok (hB : okB cb) (ho : ok_ a b d c x y u s p) (mode py : Int32) (word : Bool) (hm : md_ mode) : ∃ z, tc_P_operandAddress mode (bif word then 2 else 1) py (-1) cb a b d c x y u s p = some z ∧
    ((z.2.2.1 = -1 ∧ og_ z.2.2.2 ∧ ∃ m py', tc_P_load z.1 (bif word then 2 else 1) z.2.1 cb = some (m, py') ∧ (bif word then rw_ m else rb_ m) ∧ mo_operand mode word cb (rf_ a b d c x y u s p) py false = some (m, rg_ z.2.2.2, py', false)) ∨
     (z.2.2.1 = -2 ∧ ∃ (w : Int32) (g0 : R9) (sp : Int32), mo_operand mode word cb (rf_ a b d c x y u s p) py false = some (w, rg_ g0, sp, true))) := by
  rcases hm with rfl | hm
  · cases word with
    | false =>
      refine ⟨(p, py, -1, a, b, d, c, x, y, u, s, (p + 1) &&& 65535), rfl, Or.inl ⟨rfl, ok_p ho _, rd_ cb p, py + 1, ?_, rd_ok hB _, ?_⟩⟩
      · show ((tc_Y_load p 1 cb).bind _) = _
        rw [tc_load1]
        rfl
      · show ((mo_fetch cb _ py).bind _) = _
        rw [mo_fetch_eq]
        rfl
    | true =>
      refine ⟨(p, py, -1, a, b, d, c, x, y, u, s, (p + 2) &&& 65535), rfl, Or.inl ⟨rfl, ok_p ho _, rd2_ cb p, py + 2, ?_, rd2_ok hB _, ?_⟩⟩
      · show ((tc_Y_load p 2 cb).bind _) = _
        rw [tc_load2' hB]
        rfl
      · show ((mo_fetchWord cb _ py).bind _) = _
        rw [mo_fetchWord_eq]
        rfl
  · obtain ⟨z, h1, h2⟩ := oa_ok hB ho mode (bif word then 2 else 1) py hm
    refine ⟨z, h1, ?_⟩
    have e : mo_operand mode word cb (rf_ a b d c x y u s p) py false = (mo_address mode cb (rf_ a b d c x y u s p) py false).bind fun z5 => if (bz_i z5.2.2.2) = (0 : Int32) then (mo_load z5.1 word cb z5.2.2.1).bind fun z6 => some (z6.1, z5.2.1, z6.2, z5.2.2.2) else some ((0 : Int32), z5.2.1, z5.2.2.1, z5.2.2.2) := by
      unfold mo_operand
      rw [if_neg (by rcases hm with rfl | rfl | rfl <;> decide)]
    rw [e]
    rcases h2 with ⟨g1, g2, g3, g4⟩ | ⟨g1, w, rg, sp, g4⟩
    · refine Or.inl ⟨g1, g3, ?_⟩
      rw [g4]
      cases word with
      | false =>
        refine ⟨rd_ cb z.1, z.2.1 + 1, ?_, rd_ok hB _, ?_⟩
        · show ((tc_Y_load z.1 1 cb).bind _) = _
          rw [tc_load1]
          rfl
        · show ((mo_load z.1 false cb z.2.1).bind _) = _
          rw [mo_load1]
          rfl
      | true =>
        refine ⟨rd2_ cb z.1, z.2.1 + 2, ?_, rd2_ok hB _, ?_⟩
        · show ((tc_Y_load z.1 2 cb).bind _) = _
          rw [tc_load2' hB]
          rfl
        · show ((mo_load z.1 true cb z.2.1).bind _) = _
          rw [mo_load2]
          rfl
    · refine Or.inr ⟨g1, 0, rg, sp, ?_⟩
      rw [g4]
      rfl
end OPA
theorem rb_band {x y : Int32} (hx : rb_ x) (hy : rb_ y) : rb_ (x &&& y) := by
  obtain ⟨a, ha, rfl⟩ := hx
  obtain ⟨b, hb, rfl⟩ := hy
  exact ⟨a &&& b, Nat.lt_of_le_of_lt Nat.and_le_left ha, nx_and a b⟩
theorem rb_bor {x y : Int32} (hx : rb_ x) (hy : rb_ y) : rb_ (x ||| y) := by
  obtain ⟨a, ha, rfl⟩ := hx
  obtain ⟨b, hb, rfl⟩ := hy
  exact ⟨a ||| b, Nat.or_lt_two_pow (n := 8) ha hb, nI_or a b⟩
theorem rb_bxor {x y : Int32} (hx : rb_ x) (hy : rb_ y) : rb_ (x ^^^ y) := by
  obtain ⟨a, ha, rfl⟩ := hx
  obtain ⟨b, hb, rfl⟩ := hy
  exact ⟨a ^^^ b, Nat.xor_lt_two_pow (n := 8) ha hb, nx_xor a b⟩
def a8_ (k : Int32) : Prop := k = 0 ∨ k = 1 ∨ k = 2 ∨ k = 4 ∨ k = 5 ∨ k = 6 ∨ k = 8 ∨ k = 9 ∨ k = 10 ∨ k = 11
theorem cy_01 (q : Bool) : bz_i q = 0 ∨ bz_i q = 1 := by cases q; exact Or.inl rfl; exact Or.inr rfl
/-- a calculation in 8 bits: the class's calculate; the reference's byteOp behind its operand -/
theorem cal8 {k r m c : Int32} (hk : a8_ k) (hr : rb_ r) (hm : rb_ m) (hc : rb_ c) (q : Int32) (me : Nat → Int32) (a b d x y u s p sp : Int32) : ∃ v c', tc_P_calculate k r m 1 c = some (v, c') ∧ rb_ v ∧ rb_ c' ∧ mo_byteOp_j58 q k m r (yc_ c) me (rf_ a b d c x y u s p) sp false = mo_byteOp_j202 q k v me (rf_ a b d c' x y u s p) sp false := by
  have hcy := cy_eq hc
  rcases hk with rfl | rfl | rfl | rfl | rfl | rfl | rfl | rfl | rfl | rfl
  · obtain ⟨v, c', h1, h2, h3, h4, -⟩ := diff8 hr hm (Or.inl rfl) hc a b d x y u s p
    refine ⟨v, c', ?_, h2, h3, ?_⟩
    · show ((tc_C_difference r m 0 1 c).bind _) = _
      rw [h1]; rfl
    · show ((mo_difference r m 0 8 _).bind _) = _
      rw [h4]; rfl
  · obtain ⟨v, c', h1, h2, h3, h4, -⟩ := diff8 hr hm (Or.inl rfl) hc a b d x y u s p
    refine ⟨v, c', ?_, h2, h3, ?_⟩
    · show ((tc_C_difference r m 0 1 c).bind _) = _
      rw [h1]; rfl
    · show ((mo_difference r m 0 8 _).bind _) = _
      rw [h4]; rfl
  · obtain ⟨v, c', h1, h2, h3, h4, -⟩ := diff8 hr hm (cy_01 (yc_ c)) hc a b d x y u s p
    refine ⟨v, c', ?_, h2, h3, ?_⟩
    · have e : tc_P_calculate 2 r m 1 c = (tc_C_difference r m (c &&& 1) 1 c).bind fun z18 => some (z18.1, z18.2) := rfl
      rw [e, hcy, h1]; rfl
    · show ((mo_difference r m _ 8 _).bind _) = _
      rw [h4]; rfl
  · obtain ⟨c', h1, h2, h3⟩ := plain8 (rb_band hr hm) hc a b d x y u s p
    refine ⟨_, c', ?_, rb_band hr hm, h2, ?_⟩
    · show ((tc_C_plain (r &&& m) 1 c).bind _) = _
      rw [h1]; rfl
    · show ((mo_plain (r &&& m) 8 _).bind _) = _
      rw [h3]; rfl
  · obtain ⟨c', h1, h2, h3⟩ := plain8 (rb_band hr hm) hc a b d x y u s p
    refine ⟨_, c', ?_, rb_band hr hm, h2, ?_⟩
    · show ((tc_C_plain (r &&& m) 1 c).bind _) = _
      rw [h1]; rfl
    · show ((mo_plain (r &&& m) 8 _).bind _) = _
      rw [h3]; rfl
  · obtain ⟨c', h1, h2, h3⟩ := plain8 hm hc a b d x y u s p
    refine ⟨_, c', ?_, hm, h2, ?_⟩
    · show ((tc_C_plain m 1 c).bind _) = _
      rw [h1]; rfl
    · show ((mo_plain m 8 _).bind _) = _
      rw [h3]; rfl
  · obtain ⟨c', h1, h2, h3⟩ := plain8 (rb_bxor hr hm) hc a b d x y u s p
    refine ⟨_, c', ?_, rb_bxor hr hm, h2, ?_⟩
    · show ((tc_C_plain (r ^^^ m) 1 c).bind _) = _
      rw [h1]; rfl
    · show ((mo_plain (r ^^^ m) 8 _).bind _) = _
      rw [h3]; rfl
  · obtain ⟨v, c', h1, h2, h3, h4⟩ := sum8 hr hm (cy_01 (yc_ c)) hc a b d x y u s p
    refine ⟨v, c', ?_, h2, h3, ?_⟩
    · have e : tc_P_calculate 9 r m 1 c = (tc_C_sum r m (c &&& 1) 1 c).bind fun z18 => some (z18.1, z18.2) := rfl
      rw [e, hcy, h1]; rfl
    · show ((mo_sum r m _ 8 _).bind _) = _
      rw [h4]; rfl
  · obtain ⟨c', h1, h2, h3⟩ := plain8 (rb_bor hr hm) hc a b d x y u s p
    refine ⟨_, c', ?_, rb_bor hr hm, h2, ?_⟩
    · show ((tc_C_plain (r ||| m) 1 c).bind _) = _
      rw [h1]; rfl
    · show ((mo_plain (r ||| m) 8 _).bind _) = _
      rw [h3]; rfl
  · obtain ⟨v, c', h1, h2, h3, h4⟩ := sum8 hr hm (Or.inl rfl) hc a b d x y u s p
    refine ⟨v, c', ?_, h2, h3, ?_⟩
    · show ((tc_C_sum r m 0 1 c).bind _) = _
      rw [h1]; rfl
    · show ((mo_sum r m 0 8 _).bind _) = _
      rw [h4]; rfl
