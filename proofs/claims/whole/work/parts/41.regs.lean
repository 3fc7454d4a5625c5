/-! Stores; the registers as one function. -/
theorem i_sub11 : (1 : Int32) - 1 = 0 := by decide
theorem i_sub21 : (2 : Int32) - 1 = 1 := by decide
theorem i_m1 : (0 : Int32) + Int32.ofInt (-1) = -1 := by decide
theorem i_m2 : (1 : Int32) + Int32.ofInt (-1) = 0 := by decide
theorem so_step (n : Nat) (a v i : Int32) (cb : Nat → Int32) (h : ¬ i < 0) : tc_Y_store_l8 (n + 1) a v i cb = tc_Y_store_l8 n a (v >>> ((8 : Int32) &&& 31)) (i + Int32.ofInt (-1)) (wr_ cb (a + i) v) := by
  rw [tc_Y_store_l8_s, if_neg h]
  unfold wr_ tc_Y_store_j43
  split
  · rfl
  · rename_i h2
    rw [if_pos (in_512 h2)]
theorem so_end (n : Nat) (a v i : Int32) (cb : Nat → Int32) (h : i < 0) : tc_Y_store_l8 (n + 1) a v i cb = some cb := by
  rw [tc_Y_store_l8_s, if_pos h]
theorem tc_store1 (a v : Int32) (cb : Nat → Int32) : tc_Y_store a v 1 cb = some (wr_ cb a v) := by
  unfold tc_Y_store
  rw [i_sub11, so_step _ _ _ _ _ (by decide), i_a0, i_m1, so_end _ _ _ _ _ (by decide)]
/-- the two bytes of a word lie at two places -/
theorem at_ne (a : Int32) : ((a + 1) &&& 65535).toNatClampNeg ≠ (a &&& 65535).toNatClampNeg := by
  rw [and_w, and_w, nI_clamp (by have := Nat.mod_lt (a + 1).toBitVec.toNat (show 0 < 65536 by decide); omega), nI_clamp (by have := Nat.mod_lt a.toBitVec.toNat (show 0 < 65536 by decide); omega)]
  have e : (a + 1).toBitVec.toNat = (a.toBitVec.toNat + 1) % 2 ^ 32 := by
    rw [Int32.toBitVec_add, BitVec.toNat_add]
    rfl
  rw [e]
  omega
theorem upd_comm {f : Nat → Int32} {i j : Nat} {x y : Int32} (h : i ≠ j) : upd (upd f i x) j y = upd (upd f j y) i x := by
  funext k
  unfold upd
  by_cases h1 : k = j
  · by_cases h2 : k = i
    · omega
    · simp [h1, h2]
      intro h3
      omega
  · by_cases h2 : k = i
    · simp [h1, h2]
      intro h3
      omega
    · simp [h1, h2]
theorem wr_comm (cb : Nat → Int32) (a v w : Int32) : wr_ (wr_ cb (a + 1) v) a w = wr_ (wr_ cb a w) (a + 1) v := by
  unfold wr_
  by_cases h1 : (512 : Int32) ≤ ((a + 1) &&& 65535)
  · simp only [h1, if_true]
  · by_cases h2 : (512 : Int32) ≤ (a &&& 65535)
    · simp only [h2, if_true]
    · simp only [h1, h2, if_false]
      exact upd_comm (at_ne a)
def wr2_ (cb : Nat → Int32) (a v : Int32) : Nat → Int32 := wr_ (wr_ cb a (v >>> ((8 : Int32) &&& 31))) (a + 1) v
theorem wr2_ok {cb : Nat → Int32} (h : okB cb) (a v : Int32) : okB (wr2_ cb a v) := wr_ok (wr_ok h _ _) _ _
theorem tc_store2 (a v : Int32) (cb : Nat → Int32) : tc_Y_store a v 2 cb = some (wr2_ cb a v) := by
  unfold tc_Y_store wr2_
  rw [i_sub21, so_step _ _ _ _ _ (by decide), i_m2, so_step _ _ _ _ _ (by decide), i_a0, i_m1, so_end _ _ _ _ _ (by decide), wr_comm]
theorem mo_store1 (a v : Int32) (me : Nat → Int32) (sp : Int32) : mo_store a v false me sp = some (wr_ me a v, sp + 1) := by
  simp [mo_store, mo_store_j14, bz_i, mo_put_eq]
theorem mo_store2 (a v : Int32) (me : Nat → Int32) (sp : Int32) : mo_store a v true me sp = some (wr2_ me a v, sp + 2) := by
  simp [mo_store, mo_store_j14, bz_i, mo_put_eq, wr2_]
/-- the registers by their numbers: a b dp cc x y u s pc -/
def rf_ (a b d c x y u s p : Int32) : Nat → Int32 := fun k => match k with
  | 1 => x
  | 2 => y
  | 3 => u
  | 4 => s
  | 5 => p
  | 8 => a
  | 9 => b
  | 10 => c
  | 11 => d
  | _ => 0
section RF
variable (a b d c x y u s p v : Int32)
theorem rf_1 : upd (rf_ a b d c x y u s p) 1 v = rf_ a b d c v y u s p := by
  funext k
  by_cases h : k = 1
  · subst h; rfl
  · simp only [upd, if_neg h]
    unfold rf_
    split <;> first | rfl | contradiction | simp_all
theorem rf_2 : upd (rf_ a b d c x y u s p) 2 v = rf_ a b d c x v u s p := by
  funext k
  by_cases h : k = 2
  · subst h; rfl
  · simp only [upd, if_neg h]
    unfold rf_
    split <;> first | rfl | contradiction | simp_all
theorem rf_3 : upd (rf_ a b d c x y u s p) 3 v = rf_ a b d c x y v s p := by
  funext k
  by_cases h : k = 3
  · subst h; rfl
  · simp only [upd, if_neg h]
    unfold rf_
    split <;> first | rfl | contradiction | simp_all
theorem rf_4 : upd (rf_ a b d c x y u s p) 4 v = rf_ a b d c x y u v p := by
  funext k
  by_cases h : k = 4
  · subst h; rfl
  · simp only [upd, if_neg h]
    unfold rf_
    split <;> first | rfl | contradiction | simp_all
theorem rf_5 : upd (rf_ a b d c x y u s p) 5 v = rf_ a b d c x y u s v := by
  funext k
  by_cases h : k = 5
  · subst h; rfl
  · simp only [upd, if_neg h]
    unfold rf_
    split <;> first | rfl | contradiction | simp_all
theorem rf_8 : upd (rf_ a b d c x y u s p) 8 v = rf_ v b d c x y u s p := by
  funext k
  by_cases h : k = 8
  · subst h; rfl
  · simp only [upd, if_neg h]
    unfold rf_
    split <;> first | rfl | contradiction | simp_all
theorem rf_9 : upd (rf_ a b d c x y u s p) 9 v = rf_ a v d c x y u s p := by
  funext k
  by_cases h : k = 9
  · subst h; rfl
  · simp only [upd, if_neg h]
    unfold rf_
    split <;> first | rfl | contradiction | simp_all
theorem rf_10 : upd (rf_ a b d c x y u s p) 10 v = rf_ a b d v x y u s p := by
  funext k
  by_cases h : k = 10
  · subst h; rfl
  · simp only [upd, if_neg h]
    unfold rf_
    split <;> first | rfl | contradiction | simp_all
theorem rf_11 : upd (rf_ a b d c x y u s p) 11 v = rf_ a b v c x y u s p := by
  funext k
  by_cases h : k = 11
  · subst h; rfl
  · simp only [upd, if_neg h]
    unfold rf_
    split <;> first | rfl | contradiction | simp_all
end RF
/-- register numbers that are -/
def vk_ (k : Int32) : Prop := k = 0 ∨ k = 1 ∨ k = 2 ∨ k = 3 ∨ k = 4 ∨ k = 5 ∨ k = 8 ∨ k = 9 ∨ k = 10 ∨ k = 11
def ok_ (a b d c x y u s p : Int32) : Prop := rb_ a ∧ rb_ b ∧ rb_ d ∧ rb_ c ∧ rw_ x ∧ rw_ y ∧ rw_ u ∧ rw_ s ∧ rw_ p
abbrev R9 : Type := Int32 × Int32 × Int32 × Int32 × Int32 × Int32 × Int32 × Int32 × Int32
abbrev rg_ (g : R9) : Nat → Int32 := rf_ g.1 g.2.1 g.2.2.1 g.2.2.2.1 g.2.2.2.2.1 g.2.2.2.2.2.1 g.2.2.2.2.2.2.1 g.2.2.2.2.2.2.2.1 g.2.2.2.2.2.2.2.2
abbrev og_ (g : R9) : Prop := ok_ g.1 g.2.1 g.2.2.1 g.2.2.2.1 g.2.2.2.2.1 g.2.2.2.2.2.1 g.2.2.2.2.2.2.1 g.2.2.2.2.2.2.2.1 g.2.2.2.2.2.2.2.2
theorem hi_b (v : Int32) : (v &&& 65535) >>> ((8 : Int32) &&& 31) = (v >>> ((8 : Int32) &&& 31)) &&& 255 := by
  apply b_ext
  intro i hi
  rw [b_sshr8 _ hi, b_and, b_and, b_and, b_65535, b_65535, b_255, b_sshr8 _ hi]
  by_cases h8 : i < 8
  · rw [if_pos (by omega), if_pos (by omega), decide_eq_true (show 8 + i < 16 by omega), decide_eq_true h8]
  · rw [decide_eq_false h8, Bool.and_false]
    split
    · rw [decide_eq_false (by omega), Bool.and_false]
    · rw [decide_eq_false (by omega), Bool.and_false]
theorem rb_hi (v : Int32) : rb_ ((v >>> ((8 : Int32) &&& 31)) &&& 255) := rb_and _
/-- a register's value: the class's and the reference's -/
theorem get_eq {k a b d c x y u s p : Int32} (hk : vk_ k) (ha : rb_ a) (hb : rb_ b) : mo_get k (rf_ a b d c x y u s p) = tc_G_get k a b d c x y u s p := by
  rcases hk with rfl | rfl | rfl | rfl | rfl | rfl | rfl | rfl | rfl | rfl
  · simp only [mo_get, tc_G_get, if_true, hl_eq ha hb]
    rfl
  all_goals rfl
theorem set_eq {k v a b d c x y u s p : Int32} (hk : vk_ k) (ho : ok_ a b d c x y u s p) : ∃ g : R9, tc_G_set k v a b d c x y u s p = some g ∧ mo_set k v (rf_ a b d c x y u s p) = some (rg_ g) ∧ og_ g := by
  obtain ⟨ha, hb, hd, hc, hx, hy, hu, hs, hp⟩ := ho
  rcases hk with rfl | rfl | rfl | rfl | rfl | rfl | rfl | rfl | rfl | rfl
  · refine ⟨_, rfl, ?_, ?_⟩
    · show some (upd (upd _ 8 _) 9 _) = _
      rw [rf_8, rf_9, ← hi_b]
    · exact ⟨by show rb_ ((v &&& 65535) >>> _); rw [hi_b]; exact rb_and _, rb_and _, hd, hc, hx, hy, hu, hs, hp⟩
  · exact ⟨_, rfl, congrArg some (rf_1 ..), ha, hb, hd, hc, rw_and _, hy, hu, hs, hp⟩
  · exact ⟨_, rfl, congrArg some (rf_2 ..), ha, hb, hd, hc, hx, rw_and _, hu, hs, hp⟩
  · exact ⟨_, rfl, congrArg some (rf_3 ..), ha, hb, hd, hc, hx, hy, rw_and _, hs, hp⟩
  · exact ⟨_, rfl, congrArg some (rf_4 ..), ha, hb, hd, hc, hx, hy, hu, rw_and _, hp⟩
  · exact ⟨_, rfl, congrArg some (rf_5 ..), ha, hb, hd, hc, hx, hy, hu, hs, rw_and _⟩
  · exact ⟨_, rfl, congrArg some (rf_8 ..), rb_and _, hb, hd, hc, hx, hy, hu, hs, hp⟩
  · exact ⟨_, rfl, congrArg some (rf_9 ..), ha, rb_and _, hd, hc, hx, hy, hu, hs, hp⟩
  · exact ⟨_, rfl, congrArg some (rf_10 ..), ha, hb, hd, rb_and _, hx, hy, hu, hs, hp⟩
  · exact ⟨_, rfl, congrArg some (rf_11 ..), ha, hb, rb_and _, hc, hx, hy, hu, hs, hp⟩
