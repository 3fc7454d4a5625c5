/-! The indexed address: the class's indexedAddress, the reference's address(2). -/
/-- what the reference says, given what the class said -/
def ad_ok (z : Int32 × Int32 × Int32 × R9) (m : Option (Int32 × (Nat → Int32) × Int32 × Bool)) : Prop :=
  (z.2.2.1 = -1 ∧ rw_ z.1 ∧ og_ z.2.2.2 ∧ m = some (z.1, rg_ z.2.2.2, z.2.1, false)) ∨ (z.2.2.1 = -2 ∧ ∃ (w : Int32) (g0 : R9) (sp : Int32), m = some (w, rg_ g0, sp, true))
theorem j327 {cb : Nat → Int32} (hB : okB cb) (v5 : Bool) (v6 py : Int32) {g : R9} (hg : og_ g) (me : Int32) (h : me = v6 &&& 65535 ∨ me = v6) : ∃ z, tc_P_indexedAddress_j327 v5 v6 py (-1) cb g.1 g.2.1 g.2.2.1 g.2.2.2.1 g.2.2.2.2.1 g.2.2.2.2.2.1 g.2.2.2.2.2.2.1 g.2.2.2.2.2.2.2.1 g.2.2.2.2.2.2.2.2 = some z ∧ ad_ok z (mo_address_j191 v5 me cb (rg_ g) py false) := by
  have hm : me &&& 65535 = v6 &&& 65535 := by
    rcases h with rfl | rfl
    · exact mask_id _
    · rfl
  unfold tc_P_indexedAddress_j327 mo_address_j191
  cases v5 with
  | false =>
    refine ⟨_, rfl, Or.inl ⟨rfl, rw_and _, hg, ?_⟩⟩
    simp only [bz_i, if_true, hm]
  | true =>
    refine ⟨(rd2_ cb v6, py + 2, -1, g), ?_, Or.inl ⟨rfl, rd2_ok hB _, hg, ?_⟩⟩
    · rw [if_neg (by decide)]
      simp only [tc_P_load, tc_load2' hB, Option.bind_some]
    · rw [if_neg (by decide), mo_load2, hm, rd2_mask]
      rfl
theorem st_1 (x : Int32) : x + 0 + 1 = x + (1 + (0 &&& 1)) := by
  rw [show (1 : Int32) + (0 &&& 1) = 1 by decide, i_a0]
theorem st_2 (x : Int32) : x + 1 + 1 = x + (1 + (1 &&& 1)) := by
  rw [i_11, show (1 : Int32) + (1 &&& 1) = 2 by decide]
theorem st_3 (x : Int32) : x - 2 + 1 = x - (1 + (2 &&& 1)) := by
  rw [show (1 : Int32) + (2 &&& 1) = 1 by decide, Int32.sub_eq_add_neg, Int32.sub_eq_add_neg, Int32.add_assoc]
  rfl
theorem st_4 (x : Int32) : x - 3 + 1 = x - (1 + (3 &&& 1)) := by
  rw [show (1 : Int32) + (3 &&& 1) = 2 by decide, Int32.sub_eq_add_neg, Int32.sub_eq_add_neg, Int32.add_assoc]
  rfl
section J63
variable {cb : Nat → Int32} {r a b d c x y u s p py : Int32}
theorem j63_bad (v4 : Int32) (s0 : Bool) (h1 : tc_P_isIndexedForm v4 s0 = some false) (h2 : mo_address_j99 r v4 s0 cb (rf_ a b d c x y u s p) py false = some (-1, rf_ a b d c x y u s p, py, true)) : ∃ z, tc_P_indexedAddress_j63 r (rf_ a b d c x y u s p r.toNatClampNeg) v4 s0 py (-1) cb a b d c x y u s p = some z ∧ ad_ok z (mo_address_j99 r v4 s0 cb (rf_ a b d c x y u s p) py false) := by
  refine ⟨(0, py, -2, a, b, d, c, x, y, u, s, p), ?_, Or.inr ⟨rfl, _, (a, b, d, c, x, y, u, s, p), _, h2⟩⟩
  unfold tc_P_indexedAddress_j63
  rw [h1]
  rfl
theorem j63_good (hB : okB cb) (v4 v6 py' me : Int32) (s0 : Bool) (g : R9) (hg : og_ g) (h : me = v6 &&& 65535 ∨ me = v6) (h1 : tc_P_indexedAddress_j63 r (rf_ a b d c x y u s p r.toNatClampNeg) v4 s0 py (-1) cb a b d c x y u s p = tc_P_indexedAddress_j327 s0 v6 py' (-1) cb g.1 g.2.1 g.2.2.1 g.2.2.2.1 g.2.2.2.2.1 g.2.2.2.2.2.1 g.2.2.2.2.2.2.1 g.2.2.2.2.2.2.2.1 g.2.2.2.2.2.2.2.2)
    (h2 : mo_address_j99 r v4 s0 cb (rf_ a b d c x y u s p) py false = mo_address_j191 s0 me cb (rg_ g) py' false) : ∃ z, tc_P_indexedAddress_j63 r (rf_ a b d c x y u s p r.toNatClampNeg) v4 s0 py (-1) cb a b d c x y u s p = some z ∧ ad_ok z (mo_address_j99 r v4 s0 cb (rf_ a b d c x y u s p) py false) := by
  rw [h1, h2]
  exact j327 hB s0 v6 py' hg me h
theorem jo_ (v4 : Int32) {s0 : Bool} {rg : Nat → Int32} (h0 : v4 ≠ 0) (h2 : v4 ≠ 2) (h7 : v4 ≠ 7) (h10 : v4 ≠ 10) (h14 : v4 ≠ 14) (h15 : v4 ≠ 15) (h4 : (4 : Int32) ≤ v4) : mo_address_j99 r v4 s0 cb rg py false = (mo_offset r v4 cb rg py).bind fun z11 => mo_address_j191 s0 z11.1 cb z11.2.1 z11.2.2 false := by
  simp only [mo_address_j99, mo_address_j139, mo_address_j151, mo_address_j155, mo_address_j156, if_neg h0, if_neg h2, if_neg h7, if_neg h10, if_neg h14, if_neg h15, if_pos h4, bz_i]
  cases s0 <;> rfl
theorem ok_p {a b d c x y u s p : Int32} (ho : ok_ a b d c x y u s p) (v : Int32) : ok_ a b d c x y u s (v &&& 65535) := by
  obtain ⟨ha, hb, hd, hc, hx, hy, hu, hs, hp⟩ := ho
  exact ⟨ha, hb, hd, hc, hx, hy, hu, hs, rw_and _⟩
theorem j63_ok (hB : okB cb) (hr : ir_ r) (ho : ok_ a b d c x y u s p) (v4 : Int32) (s0 : Bool) (h4 : v4 = 0 ∨ v4 = 1 ∨ v4 = 2 ∨ v4 = 3 ∨ v4 = 4 ∨ v4 = 5 ∨ v4 = 6 ∨ v4 = 7 ∨ v4 = 8 ∨ v4 = 9 ∨ v4 = 10 ∨ v4 = 11 ∨ v4 = 12 ∨ v4 = 13 ∨ v4 = 14 ∨ v4 = 15) : ∃ z, tc_P_indexedAddress_j63 r (rf_ a b d c x y u s p r.toNatClampNeg) v4 s0 py (-1) cb a b d c x y u s p = some z ∧ ad_ok z (mo_address_j99 r v4 s0 cb (rf_ a b d c x y u s p) py false) := by
  have hin := ir_in hr
  have hb := ho.2.1
  have ha := ho.1
  rcases h4 with rfl | rfl | rfl | rfl | rfl | rfl | rfl | rfl | rfl | rfl | rfl | rfl | rfl | rfl | rfl | rfl
  · cases s0 with
    | true => exact j63_bad _ _ rfl rfl
    | false =>
      obtain ⟨g, g1, g2, g3, g4⟩ := ir_set (v := rf_ a b d c x y u s p r.toNatClampNeg + 0 + 1) hr ho
      refine j63_good hB 0 (rf_ a b d c x y u s p r.toNatClampNeg) py _ false g g3 (Or.inr rfl) ?_ ?_
      · simp only [tc_P_indexedAddress_j63, tc_P_isIndexedForm, tc_P_isIndexedForm_j80, tc_P_indexedAddress_j160, g1, bz_i, Option.bind_some]
        rfl
      · rw [st_1] at g2
        show (mo_stepping r 0 _).bind _ = _
        unfold mo_stepping mo_stepping_j32
        rw [if_pos hin, if_neg (by decide), g2]
        rfl
  · obtain ⟨g, g1, g2, g3, g4⟩ := ir_set (v := rf_ a b d c x y u s p r.toNatClampNeg + 1 + 1) hr ho
    refine j63_good hB 1 (rf_ a b d c x y u s p r.toNatClampNeg) py _ s0 g g3 (Or.inr rfl) ?_ ?_
    · simp only [tc_P_indexedAddress_j63, tc_P_isIndexedForm, tc_P_isIndexedForm_j80, tc_P_indexedAddress_j160, g1, bz_i, Option.bind_some]
      rfl
    · rw [st_2] at g2
      have e : mo_address_j99 r 1 s0 cb (rf_ a b d c x y u s p) py false = (mo_stepping r 1 (rf_ a b d c x y u s p)).bind fun z12 => mo_address_j191 s0 z12.1 cb z12.2 py false := by cases s0 <;> rfl
      rw [e]
      unfold mo_stepping mo_stepping_j32
      rw [if_pos hin, if_neg (by decide), g2]
      rfl
  · cases s0 with
    | true => exact j63_bad _ _ rfl rfl
    | false =>
      obtain ⟨g, g1, g2, g3, g4⟩ := ir_set (v := rf_ a b d c x y u s p r.toNatClampNeg - 2 + 1) hr ho
      refine j63_good hB 2 (rf_ a b d c x y u s p r.toNatClampNeg - 2 + 1) py _ false g g3 (Or.inl g4) ?_ ?_
      · simp only [tc_P_indexedAddress_j63, tc_P_isIndexedForm, tc_P_isIndexedForm_j80, tc_P_indexedAddress_j177, g1, bz_i, Option.bind_some]
        rfl
      · rw [st_3] at g2
        show (mo_stepping r 2 _).bind _ = _
        unfold mo_stepping mo_stepping_j32
        rw [if_pos hin, if_pos (by decide), g2, Option.bind_some, if_pos (by decide), if_pos hin]
        rfl
  · obtain ⟨g, g1, g2, g3, g4⟩ := ir_set (v := rf_ a b d c x y u s p r.toNatClampNeg - 3 + 1) hr ho
    refine j63_good hB 3 (rf_ a b d c x y u s p r.toNatClampNeg - 3 + 1) py _ s0 g g3 (Or.inl g4) ?_ ?_
    · simp only [tc_P_indexedAddress_j63, tc_P_isIndexedForm, tc_P_isIndexedForm_j80, tc_P_indexedAddress_j177, g1, bz_i, Option.bind_some]
      rfl
    · rw [st_4] at g2
      have e : mo_address_j99 r 3 s0 cb (rf_ a b d c x y u s p) py false = (mo_stepping r 3 (rf_ a b d c x y u s p)).bind fun z12 => mo_address_j191 s0 z12.1 cb z12.2 py false := by cases s0 <;> rfl
      rw [e]
      unfold mo_stepping mo_stepping_j32
      rw [if_pos hin, if_pos (by decide), g2, Option.bind_some, if_pos (by decide), if_pos hin]
      rfl
  · refine j63_good hB 4 (rf_ a b d c x y u s p r.toNatClampNeg) py _ s0 (a, b, d, c, x, y, u, s, p) ho (Or.inr rfl) rfl ?_
    rw [jo_ 4 (by decide) (by decide) (by decide) (by decide) (by decide) (by decide) (by decide)]
    unfold mo_offset
    rw [if_pos hin]
    rfl
  · refine j63_good hB 5 (rf_ a b d c x y u s p r.toNatClampNeg + b.toInt8.toInt32) py _ s0 (a, b, d, c, x, y, u, s, p) ho (Or.inr rfl) rfl ?_
    rw [jo_ 5 (by decide) (by decide) (by decide) (by decide) (by decide) (by decide) (by decide)]
    unfold mo_offset
    rw [if_pos hin, if_pos rfl]
    show (((mo_signed b).bind _).bind _) = _
    rw [mo_signed_eq hb]
    rfl
  · refine j63_good hB 6 (rf_ a b d c x y u s p r.toNatClampNeg + a.toInt8.toInt32) py _ s0 (a, b, d, c, x, y, u, s, p) ho (Or.inr rfl) rfl ?_
    rw [jo_ 6 (by decide) (by decide) (by decide) (by decide) (by decide) (by decide) (by decide)]
    unfold mo_offset
    rw [if_pos hin, if_neg (by decide), if_pos rfl]
    show (((mo_signed a).bind _).bind _) = _
    rw [mo_signed_eq ha]
    rfl
  · exact j63_bad _ _ (by cases s0 <;> rfl) (by cases s0 <;> rfl)
  · refine j63_good hB 8 (rf_ a b d c x y u s p r.toNatClampNeg + (rd_ cb p).toInt8.toInt32) (py + 1) _ s0 (a, b, d, c, x, y, u, s, (p + 1) &&& 65535) (ok_p ho _) (Or.inr rfl) ?_ ?_
    · show ((tc_P_fetch 1 py cb p).bind _) = _
      rw [tc_fetch1]
      rfl
    · rw [jo_ 8 (by decide) (by decide) (by decide) (by decide) (by decide) (by decide) (by decide)]
      unfold mo_offset
      rw [if_pos hin]
      show (((mo_fetch _ _ _).bind _).bind _) = _
      rw [mo_fetch_eq, Option.bind_some, mo_signed_eq (rd_ok hB _)]
      rfl
  · refine j63_good hB 9 (rf_ a b d c x y u s p r.toNatClampNeg + rd2_ cb p) (py + 2) _ s0 (a, b, d, c, x, y, u, s, (p + 2) &&& 65535) (ok_p ho _) (Or.inr rfl) ?_ ?_
    · show ((tc_P_fetch 2 py cb p).bind _) = _
      rw [tc_fetch2 hB]
      rfl
    · rw [jo_ 9 (by decide) (by decide) (by decide) (by decide) (by decide) (by decide) (by decide)]
      unfold mo_offset
      rw [if_pos hin]
      show (((mo_fetchWord _ _ _).bind _).bind _) = _
      rw [mo_fetchWord_eq]
      rfl
  · exact j63_bad _ _ (by cases s0 <;> rfl) (by cases s0 <;> rfl)
  · refine j63_good hB 11 (rf_ a b d c x y u s p r.toNatClampNeg + ((a <<< ((8 : Int32) &&& 31)) ||| b)) py _ s0 (a, b, d, c, x, y, u, s, p) ho (Or.inr rfl) rfl ?_
    rw [jo_ 11 (by decide) (by decide) (by decide) (by decide) (by decide) (by decide) (by decide)]
    unfold mo_offset
    rw [if_pos hin, if_neg (by decide), if_neg (by decide), if_neg (by decide), if_neg (by decide), if_neg (by decide), if_neg (by decide), if_pos rfl, get_eq (Or.inl rfl) ha hb]
    rfl
  · refine j63_good hB 12 ((rd_ cb p).toInt8.toInt32 + ((p + 1) &&& 65535)) (py + 1) _ s0 (a, b, d, c, x, y, u, s, (p + 1) &&& 65535) (ok_p ho _) (Or.inr (Int32.add_comm _ _)) ?_ ?_
    · show ((tc_P_fetch 1 py cb p).bind _) = _
      rw [tc_fetch1]
      rfl
    · rw [jo_ 12 (by decide) (by decide) (by decide) (by decide) (by decide) (by decide) (by decide)]
      unfold mo_offset
      rw [if_pos hin]
      show (((mo_fetch _ _ _).bind _).bind _) = _
      rw [mo_fetch_eq, Option.bind_some, mo_signed_eq (rd_ok hB _)]
      rfl
  · refine j63_good hB 13 (rd2_ cb p + ((p + 2) &&& 65535)) (py + 2) _ s0 (a, b, d, c, x, y, u, s, (p + 2) &&& 65535) (ok_p ho _) (Or.inr (Int32.add_comm _ _)) ?_ ?_
    · show ((tc_P_fetch 2 py cb p).bind _) = _
      rw [tc_fetch2 hB]
      rfl
    · rw [jo_ 13 (by decide) (by decide) (by decide) (by decide) (by decide) (by decide) (by decide)]
      unfold mo_offset
      rw [if_pos hin]
      show (((mo_fetchWord _ _ _).bind _).bind _) = _
      rw [mo_fetchWord_eq]
      rfl
  · exact j63_bad _ _ (by cases s0 <;> rfl) (by cases s0 <;> rfl)
  · cases s0 with
    | false => exact j63_bad _ _ rfl rfl
    | true =>
      refine j63_good hB 15 (rd2_ cb p) (py + 2) _ true (a, b, d, c, x, y, u, s, (p + 2) &&& 65535) (ok_p ho _) (Or.inr rfl) ?_ ?_
      · show ((tc_P_fetch 2 py cb p).bind _) = _
        rw [tc_fetch2 hB]
        rfl
      · show ((mo_offset r 15 cb _ py).bind _) = _
        unfold mo_offset
        rw [if_pos hin]
        show (((mo_fetchWord _ _ _).bind _).bind _) = _
        rw [mo_fetchWord_eq]
        rfl
end J63
theorem i_s0 (x : Int32) : x - 0 = x := Int32.sub_zero x
theorem p5_ : ∀ n, n < 256 → (nI n &&& 16 = 0 → nI n &&& 31 = nI n &&& 15 ∧ nI n &&& 16 = 0) ∧ (¬ nI n &&& 16 = 0 → nI n &&& 31 = (nI n &&& 15) + 16 ∧ nI n &&& 16 = 16) := by decide +kernel
theorem off_eq (w : Int32) {v : Int32} (hv : rb_ v) : (w + (v &&& 15) - (v &&& 16)) = (if v &&& 16 = 0 then w + (v &&& 31) - 0 else w + (v &&& 31) - 32) := by
  obtain ⟨n, h, rfl⟩ := hv
  by_cases h16 : nI n &&& 16 = 0
  · rw [if_pos h16, ((p5_ n h).1 h16).1, h16]
  · rw [if_neg h16, ((p5_ n h).2 h16).1, ((p5_ n h).2 h16).2, Int32.sub_eq_add_neg, Int32.sub_eq_add_neg, Int32.add_assoc, Int32.add_assoc, Int32.add_assoc]
    rfl
theorem ix_ok {cb : Nat → Int32} (hB : okB cb) {a b d c x y u s p : Int32} (ho : ok_ a b d c x y u s p) (py : Int32) : ∃ z, tc_P_indexedAddress py (-1) cb a b d c x y u s p = some z ∧ ad_ok z (mo_address 2 cb (rf_ a b d c x y u s p) py false) := by
  have hv : rb_ (rd_ cb p) := rd_ok hB p
  have hr : ir_ (1 + ((rd_ cb p >>> ((5 : Int32) &&& 31)) &&& 3)) := ir_of _
  unfold tc_P_indexedAddress
  rw [show mo_address 2 cb (rf_ a b d c x y u s p) py false = ((mo_fetch cb (rf_ a b d c x y u s p) py).bind _) from rfl, tc_fetch1, mo_fetch_eq]
  simp only [Option.bind_some]
  rw [ir_get hr]
  simp only [Option.bind_some, if_pos (ir_in hr)]
  by_cases h128 : (128 : Int32) ≤ rd_ cb p
  · simp only [if_pos h128]
    by_cases h16 : rd_ cb p &&& 16 = 0
    · simp only [if_pos h16]
      exact j63_ok hB hr (ok_p ho _) _ _ (c16 _)
    · simp only [if_neg h16]
      exact j63_ok hB hr (ok_p ho _) _ _ (c16 _)
  · simp only [if_neg h128]
    refine ⟨_, rfl, Or.inl ⟨rfl, rw_and _, ok_p ho _, ?_⟩⟩
    rw [off_eq _ hv]
    by_cases h16 : rd_ cb p &&& 16 = 0
    · simp only [if_pos h16]
    · simp only [if_neg h16]
