/-! Fetches, signs. -/
theorem mask_id (x : Int32) : (x &&& 65535) &&& 65535 = x &&& 65535 := rw_id (rw_and x)
theorem rd_mask (cb : Nat → Int32) (a : Int32) : rd_ cb (a &&& 65535) = rd_ cb a := by
  unfold rd_
  rw [mask_id]
theorem mask_add (x y : Int32) : ((x &&& 65535) + y) &&& 65535 = (x + y) &&& 65535 := by
  rw [and_w, and_w (x + y), and_w x]
  congr 1
  rw [Int32.toBitVec_add, Int32.toBitVec_add, BitVec.toNat_add, BitVec.toNat_add]
  rw [show (nI (x.toBitVec.toNat % 65536)).toBitVec.toNat = x.toBitVec.toNat % 65536 from pk_tn (by omega)]
  omega
theorem rd_mask1 (cb : Nat → Int32) (a : Int32) : rd_ cb ((a &&& 65535) + 1) = rd_ cb (a + 1) := by
  unfold rd_
  rw [mask_add]
theorem rd2_mask (cb : Nat → Int32) (a : Int32) : rd2_ cb (a &&& 65535) = rd2_ cb a := by
  unfold rd2_
  rw [rd_mask, rd_mask1]
theorem i_11 (x : Int32) : x + 1 + 1 = x + 2 := by rw [Int32.add_assoc]; rfl
theorem tc_fetch1 (py p : Int32) (cb : Nat → Int32) : tc_P_fetch 1 py cb p = some (rd_ cb p, py + 1, (p + 1) &&& 65535) := by
  simp only [tc_P_fetch, tc_P_skip, tc_load1, Option.bind_some]
theorem tc_fetch2 {cb : Nat → Int32} (h : okB cb) (py p : Int32) : tc_P_fetch 2 py cb p = some (rd2_ cb p, py + 2, (p + 2) &&& 65535) := by
  simp only [tc_P_fetch, tc_P_skip, tc_load2' h, Option.bind_some]
theorem mo_set5 (v a b d c x y u s p : Int32) : mo_set 5 v (rf_ a b d c x y u s p) = some (rf_ a b d c x y u s (v &&& 65535)) := by
  show some (upd _ 5 _) = _
  rw [rf_5]
theorem mo_fetch_eq (me : Nat → Int32) (a b d c x y u s p sp : Int32) : mo_fetch me (rf_ a b d c x y u s p) sp = some (rd_ me p, rf_ a b d c x y u s ((p + 1) &&& 65535), sp + 1) := by
  simp only [mo_fetch, mo_load1, Option.bind_some, mo_set5]
  rfl
theorem mo_fetchWord_eq (me : Nat → Int32) (a b d c x y u s p sp : Int32) : mo_fetchWord me (rf_ a b d c x y u s p) sp = some (rd2_ me p, rf_ a b d c x y u s ((p + 2) &&& 65535), sp + 2) := by
  unfold mo_fetchWord
  rw [mo_fetch_eq]
  simp only [Option.bind_some, mo_fetch_eq, mask_add, i_11, rd_mask]
  rfl
theorem sg_all : ∀ n, n < 256 → mo_signed (nI n) = some (nI n).toInt8.toInt32 := by decide +kernel
theorem mo_signed_eq {v : Int32} (h : rb_ v) : mo_signed v = some v.toInt8.toInt32 := by
  obtain ⟨n, h1, rfl⟩ := h
  exact sg_all n h1
theorem tc_signed1 (v : Int32) : tc_C_signed v 1 = some v.toInt8.toInt32 := by rfl
theorem tc_signed2 (v : Int32) : tc_C_signed v 2 = some v.toInt16.toInt32 := by rfl
theorem c16 (v : Int32) : v &&& 15 = 0 ∨ v &&& 15 = 1 ∨ v &&& 15 = 2 ∨ v &&& 15 = 3 ∨ v &&& 15 = 4 ∨ v &&& 15 = 5 ∨ v &&& 15 = 6 ∨ v &&& 15 = 7 ∨ v &&& 15 = 8 ∨ v &&& 15 = 9 ∨ v &&& 15 = 10 ∨ v &&& 15 = 11 ∨ v &&& 15 = 12 ∨ v &&& 15 = 13 ∨ v &&& 15 = 14 ∨ v &&& 15 = 15 := by
  obtain ⟨j, h1, h2⟩ := pk_andE v (m := 15) 4 (by decide)
  rw [h2]
  exact (by decide +kernel : ∀ j, j < 2 ^ 4 → nI j = 0 ∨ nI j = 1 ∨ nI j = 2 ∨ nI j = 3 ∨ nI j = 4 ∨ nI j = 5 ∨ nI j = 6 ∨ nI j = 7 ∨ nI j = 8 ∨ nI j = 9 ∨ nI j = 10 ∨ nI j = 11 ∨ nI j = 12 ∨ nI j = 13 ∨ nI j = 14 ∨ nI j = 15) j h1
theorem c4 (v : Int32) : v &&& 3 = 0 ∨ v &&& 3 = 1 ∨ v &&& 3 = 2 ∨ v &&& 3 = 3 := by
  obtain ⟨j, h1, h2⟩ := pk_andE v (m := 3) 2 (by decide)
  rw [h2]
  exact (by decide +kernel : ∀ j, j < 2 ^ 2 → nI j = 0 ∨ nI j = 1 ∨ nI j = 2 ∨ nI j = 3) j h1
/-- the index registers -/
def ir_ (r : Int32) : Prop := r = 1 ∨ r = 2 ∨ r = 3 ∨ r = 4
theorem ir_of (v : Int32) : ir_ (1 + (v &&& 3)) := by
  rcases c4 v with h | h | h | h <;> rw [h]
  · exact Or.inl (by decide)
  · exact Or.inr (Or.inl (by decide))
  · exact Or.inr (Or.inr (Or.inl (by decide)))
  · exact Or.inr (Or.inr (Or.inr (by decide)))
theorem ir_in {r : Int32} (h : ir_ r) : in_b r 12 = true := by
  rcases h with rfl | rfl | rfl | rfl <;> decide
theorem ir_get {r a b d c x y u s p : Int32} (h : ir_ r) : tc_G_get r a b d c x y u s p = some (rf_ a b d c x y u s p r.toNatClampNeg) := by
  rcases h with rfl | rfl | rfl | rfl <;> rfl
theorem ir_set {r v a b d c x y u s p : Int32} (h : ir_ r) (ho : ok_ a b d c x y u s p) : ∃ g : R9, tc_G_set r v a b d c x y u s p = some g ∧ mo_set r v (rf_ a b d c x y u s p) = some (rg_ g) ∧ og_ g ∧ rg_ g r.toNatClampNeg = v &&& 65535 := by
  have hv : vk_ r := by
    rcases h with rfl | rfl | rfl | rfl <;> (unfold vk_; decide)
  obtain ⟨g, h1, h2, h3⟩ := set_eq (v := v) hv ho
  refine ⟨g, h1, h2, h3, ?_⟩
  rcases h with rfl | rfl | rfl | rfl <;> (cases h1; rfl)
