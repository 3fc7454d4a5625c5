/-! Frames: all registers pushed, all pulled. -/
section FR
variable (me : Nat → Int32) (a b d c x y u s p sp : Int32)
theorem pl_cc (hB : okB me) : mo_pull 4 10 me (rf_ a b d c x y u s p) sp = some (rf_ a b d (rd_ me s) x y u ((s + 1) &&& 65535) p, sp + 1) := by
  unfold mo_pull
  rw [if_pos (by decide)]
  unfold mo_pull_j11 mo_pull_j42
  rw [if_pos (by decide), mo_load1, Option.bind_some, if_pos (show bz_i false = 0 from rfl)]
  show ((some (upd (rf_ a b d c x y u s p) 4 ((s + 1) &&& 65535))).bind fun z9 => ((some (upd z9 10 (rd_ me s &&& 255))).bind _)) = _
  rw [Option.bind_some, rf_4, rf_10, rb_id (rd_ok hB _)]
  rfl
theorem pl_a (hB : okB me) : mo_pull 4 8 me (rf_ a b d c x y u s p) sp = some (rf_ (rd_ me s) b d c x y u ((s + 1) &&& 65535) p, sp + 1) := by
  unfold mo_pull
  rw [if_pos (by decide)]
  unfold mo_pull_j11 mo_pull_j42
  rw [if_pos (by decide), mo_load1, Option.bind_some, if_pos (show bz_i false = 0 from rfl)]
  show ((some (upd (rf_ a b d c x y u s p) 4 ((s + 1) &&& 65535))).bind fun z9 => ((some (upd z9 8 (rd_ me s &&& 255))).bind _)) = _
  rw [Option.bind_some, rf_4, rf_8, rb_id (rd_ok hB _)]
  rfl
theorem pl_b (hB : okB me) : mo_pull 4 9 me (rf_ a b d c x y u s p) sp = some (rf_ a (rd_ me s) d c x y u ((s + 1) &&& 65535) p, sp + 1) := by
  unfold mo_pull
  rw [if_pos (by decide)]
  unfold mo_pull_j11 mo_pull_j42
  rw [if_pos (by decide), mo_load1, Option.bind_some, if_pos (show bz_i false = 0 from rfl)]
  show ((some (upd (rf_ a b d c x y u s p) 4 ((s + 1) &&& 65535))).bind fun z9 => ((some (upd z9 9 (rd_ me s &&& 255))).bind _)) = _
  rw [Option.bind_some, rf_4, rf_9, rb_id (rd_ok hB _)]
  rfl
theorem pl_d (hB : okB me) : mo_pull 4 11 me (rf_ a b d c x y u s p) sp = some (rf_ a b (rd_ me s) c x y u ((s + 1) &&& 65535) p, sp + 1) := by
  unfold mo_pull
  rw [if_pos (by decide)]
  unfold mo_pull_j11 mo_pull_j42
  rw [if_pos (by decide), mo_load1, Option.bind_some, if_pos (show bz_i false = 0 from rfl)]
  show ((some (upd (rf_ a b d c x y u s p) 4 ((s + 1) &&& 65535))).bind fun z9 => ((some (upd z9 11 (rd_ me s &&& 255))).bind _)) = _
  rw [Option.bind_some, rf_4, rf_11, rb_id (rd_ok hB _)]
  rfl
theorem pl_x (hB : okB me) : mo_pull 4 1 me (rf_ a b d c x y u s p) sp = some (rf_ a b d c (rd2_ me s) y u ((s + 2) &&& 65535) p, sp + 2) := by
  unfold mo_pull
  rw [if_neg (by decide)]
  unfold mo_pull_j11 mo_pull_j42
  rw [if_pos (by decide), mo_load2, Option.bind_some, if_neg (show ¬ bz_i true = 0 by decide)]
  show ((some (upd (rf_ a b d c x y u s p) 4 ((s + 2) &&& 65535))).bind fun z9 => ((some (upd z9 1 (rd2_ me s &&& 65535))).bind _)) = _
  rw [Option.bind_some, rf_4, rf_1, rw_id (rd2_ok hB _)]
  rfl
theorem pl_y (hB : okB me) : mo_pull 4 2 me (rf_ a b d c x y u s p) sp = some (rf_ a b d c x (rd2_ me s) u ((s + 2) &&& 65535) p, sp + 2) := by
  unfold mo_pull
  rw [if_neg (by decide)]
  unfold mo_pull_j11 mo_pull_j42
  rw [if_pos (by decide), mo_load2, Option.bind_some, if_neg (show ¬ bz_i true = 0 by decide)]
  show ((some (upd (rf_ a b d c x y u s p) 4 ((s + 2) &&& 65535))).bind fun z9 => ((some (upd z9 2 (rd2_ me s &&& 65535))).bind _)) = _
  rw [Option.bind_some, rf_4, rf_2, rw_id (rd2_ok hB _)]
  rfl
theorem pl_u (hB : okB me) : mo_pull 4 3 me (rf_ a b d c x y u s p) sp = some (rf_ a b d c x y (rd2_ me s) ((s + 2) &&& 65535) p, sp + 2) := by
  unfold mo_pull
  rw [if_neg (by decide)]
  unfold mo_pull_j11 mo_pull_j42
  rw [if_pos (by decide), mo_load2, Option.bind_some, if_neg (show ¬ bz_i true = 0 by decide)]
  show ((some (upd (rf_ a b d c x y u s p) 4 ((s + 2) &&& 65535))).bind fun z9 => ((some (upd z9 3 (rd2_ me s &&& 65535))).bind _)) = _
  rw [Option.bind_some, rf_4, rf_3, rw_id (rd2_ok hB _)]
  rfl
theorem pl_p (hB : okB me) : mo_pull 4 5 me (rf_ a b d c x y u s p) sp = some (rf_ a b d c x y u ((s + 2) &&& 65535) (rd2_ me s), sp + 2) := by
  unfold mo_pull
  rw [if_neg (by decide)]
  unfold mo_pull_j11 mo_pull_j42
  rw [if_pos (by decide), mo_load2, Option.bind_some, if_neg (show ¬ bz_i true = 0 by decide)]
  show ((some (upd (rf_ a b d c x y u s p) 4 ((s + 2) &&& 65535))).bind fun z9 => ((some (upd z9 5 (rd2_ me s &&& 65535))).bind _)) = _
  rw [Option.bind_some, rf_4, rf_5, rw_id (rd2_ok hB _)]
  rfl
theorem pl_255 (rg : Nat → Int32) : pl_ 4 255 8 me rg sp = (mo_pull 4 10 me rg sp).bind fun z => (mo_pull 4 8 me z.1 z.2).bind fun z => (mo_pull 4 9 me z.1 z.2).bind fun z => (mo_pull 4 11 me z.1 z.2).bind fun z => (mo_pull 4 1 me z.1 z.2).bind fun z => (mo_pull 4 2 me z.1 z.2).bind fun z => (mo_pull 4 3 me z.1 z.2).bind fun z => (mo_pull 4 5 me z.1 z.2).bind fun z => some (z.1, z.2) := rfl
theorem ma_ (s k j : Int32) : (((s + k) &&& 65535) + j) &&& 65535 = (s + (k + j)) &&& 65535 := by
  rw [mask_add, Int32.add_assoc]
theorem pl_all (hB : okB me) : pl_ 4 255 8 me (rf_ a b d c x y u s p) sp = some (rf_ (rd_ me (s + 1)) (rd_ me (s + 2)) (rd_ me (s + 3)) (rd_ me s) (rd2_ me (s + 4)) (rd2_ me (s + 6)) (rd2_ me (s + 8)) ((s + 12) &&& 65535) (rd2_ me (s + 10)), sp + 12) := by
  rw [pl_255]
  simp only [pl_cc _ _ _ _ _ _ _ _ _ _ _ hB, pl_a _ _ _ _ _ _ _ _ _ _ _ hB, pl_b _ _ _ _ _ _ _ _ _ _ _ hB, pl_d _ _ _ _ _ _ _ _ _ _ _ hB, pl_x _ _ _ _ _ _ _ _ _ _ _ hB, pl_y _ _ _ _ _ _ _ _ _ _ _ hB, pl_u _ _ _ _ _ _ _ _ _ _ _ hB, pl_p _ _ _ _ _ _ _ _ _ _ _ hB, Option.bind_some, ma_, rd_mask, rd2_mask]
  simp only [Int32.add_assoc]
  rfl
end FR
