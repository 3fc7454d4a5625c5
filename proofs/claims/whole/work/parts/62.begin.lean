/-! All registers pushed onto S; the frame of a new task. -/
section FP
variable (me : Nat → Int32) (a b d c x y u s p sp : Int32)
theorem pu_cc : mo_push 4 10 me (rf_ a b d c x y u s p) sp = some (wr_ me ((s - 1) &&& 65535) c, rf_ a b d c x y u ((s - 1) &&& 65535) p, sp + 1) := by
  unfold mo_push
  rw [if_pos (by decide)]
  unfold mo_push_j11 mo_push_j29
  rw [if_pos (by decide), if_pos (show bz_i false = 0 from rfl)]
  show ((some (upd (rf_ a b d c x y u s p) 4 ((s - 1) &&& 65535))).bind _) = _
  rw [Option.bind_some, rf_4, if_pos (by decide), if_pos (by decide)]
  show ((mo_store ((s - 1) &&& 65535) c false me sp).bind _) = _
  rw [mo_store1]
  rfl
theorem pu_a : mo_push 4 8 me (rf_ a b d c x y u s p) sp = some (wr_ me ((s - 1) &&& 65535) a, rf_ a b d c x y u ((s - 1) &&& 65535) p, sp + 1) := by
  unfold mo_push
  rw [if_pos (by decide)]
  unfold mo_push_j11 mo_push_j29
  rw [if_pos (by decide), if_pos (show bz_i false = 0 from rfl)]
  show ((some (upd (rf_ a b d c x y u s p) 4 ((s - 1) &&& 65535))).bind _) = _
  rw [Option.bind_some, rf_4, if_pos (by decide), if_pos (by decide)]
  show ((mo_store ((s - 1) &&& 65535) a false me sp).bind _) = _
  rw [mo_store1]
  rfl
theorem pu_b : mo_push 4 9 me (rf_ a b d c x y u s p) sp = some (wr_ me ((s - 1) &&& 65535) b, rf_ a b d c x y u ((s - 1) &&& 65535) p, sp + 1) := by
  unfold mo_push
  rw [if_pos (by decide)]
  unfold mo_push_j11 mo_push_j29
  rw [if_pos (by decide), if_pos (show bz_i false = 0 from rfl)]
  show ((some (upd (rf_ a b d c x y u s p) 4 ((s - 1) &&& 65535))).bind _) = _
  rw [Option.bind_some, rf_4, if_pos (by decide), if_pos (by decide)]
  show ((mo_store ((s - 1) &&& 65535) b false me sp).bind _) = _
  rw [mo_store1]
  rfl
theorem pu_d : mo_push 4 11 me (rf_ a b d c x y u s p) sp = some (wr_ me ((s - 1) &&& 65535) d, rf_ a b d c x y u ((s - 1) &&& 65535) p, sp + 1) := by
  unfold mo_push
  rw [if_pos (by decide)]
  unfold mo_push_j11 mo_push_j29
  rw [if_pos (by decide), if_pos (show bz_i false = 0 from rfl)]
  show ((some (upd (rf_ a b d c x y u s p) 4 ((s - 1) &&& 65535))).bind _) = _
  rw [Option.bind_some, rf_4, if_pos (by decide), if_pos (by decide)]
  show ((mo_store ((s - 1) &&& 65535) d false me sp).bind _) = _
  rw [mo_store1]
  rfl
theorem pu_x : mo_push 4 1 me (rf_ a b d c x y u s p) sp = some (wr2_ me ((s - 2) &&& 65535) x, rf_ a b d c x y u ((s - 2) &&& 65535) p, sp + 2) := by
  unfold mo_push
  rw [if_neg (by decide)]
  unfold mo_push_j11 mo_push_j29
  rw [if_pos (by decide), if_neg (show ¬ bz_i true = 0 by decide)]
  show ((some (upd (rf_ a b d c x y u s p) 4 ((s - 2) &&& 65535))).bind _) = _
  rw [Option.bind_some, rf_4, if_pos (by decide), if_pos (by decide)]
  show ((mo_store ((s - 2) &&& 65535) x true me sp).bind _) = _
  rw [mo_store2]
  rfl
theorem pu_y : mo_push 4 2 me (rf_ a b d c x y u s p) sp = some (wr2_ me ((s - 2) &&& 65535) y, rf_ a b d c x y u ((s - 2) &&& 65535) p, sp + 2) := by
  unfold mo_push
  rw [if_neg (by decide)]
  unfold mo_push_j11 mo_push_j29
  rw [if_pos (by decide), if_neg (show ¬ bz_i true = 0 by decide)]
  show ((some (upd (rf_ a b d c x y u s p) 4 ((s - 2) &&& 65535))).bind _) = _
  rw [Option.bind_some, rf_4, if_pos (by decide), if_pos (by decide)]
  show ((mo_store ((s - 2) &&& 65535) y true me sp).bind _) = _
  rw [mo_store2]
  rfl
theorem pu_u : mo_push 4 3 me (rf_ a b d c x y u s p) sp = some (wr2_ me ((s - 2) &&& 65535) u, rf_ a b d c x y u ((s - 2) &&& 65535) p, sp + 2) := by
  unfold mo_push
  rw [if_neg (by decide)]
  unfold mo_push_j11 mo_push_j29
  rw [if_pos (by decide), if_neg (show ¬ bz_i true = 0 by decide)]
  show ((some (upd (rf_ a b d c x y u s p) 4 ((s - 2) &&& 65535))).bind _) = _
  rw [Option.bind_some, rf_4, if_pos (by decide), if_pos (by decide)]
  show ((mo_store ((s - 2) &&& 65535) u true me sp).bind _) = _
  rw [mo_store2]
  rfl
theorem pu_p : mo_push 4 5 me (rf_ a b d c x y u s p) sp = some (wr2_ me ((s - 2) &&& 65535) p, rf_ a b d c x y u ((s - 2) &&& 65535) p, sp + 2) := by
  unfold mo_push
  rw [if_neg (by decide)]
  unfold mo_push_j11 mo_push_j29
  rw [if_pos (by decide), if_neg (show ¬ bz_i true = 0 by decide)]
  show ((some (upd (rf_ a b d c x y u s p) 4 ((s - 2) &&& 65535))).bind _) = _
  rw [Option.bind_some, rf_4, if_pos (by decide), if_pos (by decide)]
  show ((mo_store ((s - 2) &&& 65535) p true me sp).bind _) = _
  rw [mo_store2]
  rfl
theorem pu_255 (rg : Nat → Int32) : pu_ 4 255 8 me rg sp = (mo_push 4 5 me rg sp).bind fun z => (mo_push 4 3 z.1 z.2.1 z.2.2).bind fun z => (mo_push 4 2 z.1 z.2.1 z.2.2).bind fun z => (mo_push 4 1 z.1 z.2.1 z.2.2).bind fun z => (mo_push 4 11 z.1 z.2.1 z.2.2).bind fun z => (mo_push 4 9 z.1 z.2.1 z.2.2).bind fun z => (mo_push 4 8 z.1 z.2.1 z.2.2).bind fun z => (mo_push 4 10 z.1 z.2.1 z.2.2).bind fun z => some (z.1, z.2.1, z.2.2) := rfl
end FP
theorem sub_m {A k : Nat} (h : k ≤ A) (hA : A < 65536) : (nI A - nI k) &&& 65535 = nI (A - k) := by
  rw [pk_sub h]
  exact nI_w (by omega)
theorem pu_nI (me : Nat → Int32) (a b d c x y u p sp : Int32) {B : Nat} (hB : B + 12 < 65536) : pu_ 4 255 8 me (rf_ a b d c x y u (nI (B + 12)) p) sp = some (wr_ (wr_ (wr_ (wr_ (wr2_ (wr2_ (wr2_ (wr2_ me (nI (B + 10)) p) (nI (B + 8)) u) (nI (B + 6)) y) (nI (B + 4)) x) (nI (B + 3)) d) (nI (B + 2)) b) (nI (B + 1)) a) (nI B) c, rf_ a b d c x y u (nI B) p, sp + 12) := by
  have e1 : ∀ A, A < 65536 → 1 ≤ A → (nI A - 1) &&& 65535 = nI (A - 1) := fun A h1 h2 => sub_m (k := 1) h2 h1
  have e2 : ∀ A, A < 65536 → 2 ≤ A → (nI A - 2) &&& 65535 = nI (A - 2) := fun A h1 h2 => sub_m (k := 2) h2 h1
  rw [pu_255, pu_p, Option.bind_some]
  dsimp only
  rw [e2 _ (by omega) (by omega), show B + 12 - 2 = B + 10 by omega, pu_u, Option.bind_some]
  dsimp only
  rw [e2 _ (by omega) (by omega), show B + 10 - 2 = B + 8 by omega, pu_y, Option.bind_some]
  dsimp only
  rw [e2 _ (by omega) (by omega), show B + 8 - 2 = B + 6 by omega, pu_x, Option.bind_some]
  dsimp only
  rw [e2 _ (by omega) (by omega), show B + 6 - 2 = B + 4 by omega, pu_d, Option.bind_some]
  dsimp only
  rw [e1 _ (by omega) (by omega), show B + 4 - 1 = B + 3 by omega, pu_b, Option.bind_some]
  dsimp only
  rw [e1 _ (by omega) (by omega), show B + 3 - 1 = B + 2 by omega, pu_a, Option.bind_some]
  dsimp only
  rw [e1 _ (by omega) (by omega), show B + 2 - 1 = B + 1 by omega, pu_cc, Option.bind_some]
  dsimp only
  rw [e1 _ (by omega) (by omega), show B + 1 - 1 = B by omega]
  simp only [Int32.add_assoc]
  rfl
theorem wr_nI (me : Nat → Int32) {n : Nat} (h : n < 512) (v : Int32) : wr_ me (nI n) v = upd me n (v &&& 255) := by
  unfold wr_
  rw [nI_w (by omega), if_neg (by rw [nI_512 (by omega)]; omega), nI_clamp (by omega)]
theorem wr2_nI (me : Nat → Int32) {n : Nat} (h : n + 1 < 512) (v : Int32) : wr2_ me (nI n) v = upd (upd me n ((v >>> ((8 : Int32) &&& 31)) &&& 255)) (n + 1) (v &&& 255) := by
  unfold wr2_
  rw [wr_nI _ (by omega), nI_1, wr_nI _ h]
/-- the frame that begin writes: class and reference -/
theorem fr_eq (me : Nat → Int32) (a p : Int32) {B : Nat} (hB : B + 12 ≤ 512) : wr_ (wr_ (wr_ (wr_ (wr2_ (wr2_ (wr2_ (wr2_ me (nI (B + 10)) p) (nI (B + 8)) 0) (nI (B + 6)) 0) (nI (B + 4)) 0) (nI (B + 3)) 0) (nI (B + 2)) 0) (nI (B + 1)) a) (nI B) (0 ||| 128) =
    wr_ (wr_ (wr_ (wr_ (wr_ (wr_ (wr_ (wr_ (wr_ (wr_ (wr_ (wr_ (wr_ (wr_ (wr_ (wr_ me (nI (B + 0)) 0) (nI (B + 1)) 0) (nI (B + 2)) 0) (nI (B + 3)) 0) (nI (B + 4)) 0) (nI (B + 5)) 0) (nI (B + 6)) 0) (nI (B + 7)) 0) (nI (B + 8)) 0) (nI (B + 9)) 0) (nI (B + 10)) 0) (nI (B + 11)) 0) (nI (B + 0)) 128) (nI (B + 1)) a) (nI (B + 10)) (p >>> ((8 : Int32) &&& 31))) (nI (B + 11)) p := by
  rw [wr2_nI _ (by omega), wr2_nI _ (by omega), wr2_nI _ (by omega), wr2_nI _ (by omega)]
  repeat rw [wr_nI _ (by omega)]
  rw [show ((0 : Int32) ||| 128) &&& 255 = 128 by decide, show (128 : Int32) &&& 255 = 128 by decide, show (0 : Int32) &&& 255 = 0 by decide, show ((0 : Int32) >>> ((8 : Int32) &&& 31)) &&& 255 = 0 by decide]
  funext j
  by_cases hj : B ≤ j ∧ j < B + 12
  · obtain ⟨k, rfl⟩ : ∃ k, j = B + k := ⟨j - B, by omega⟩
    have hk : k = 0 ∨ k = 1 ∨ k = 2 ∨ k = 3 ∨ k = 4 ∨ k = 5 ∨ k = 6 ∨ k = 7 ∨ k = 8 ∨ k = 9 ∨ k = 10 ∨ k = 11 := by omega
    rcases hk with rfl | rfl | rfl | rfl | rfl | rfl | rfl | rfl | rfl | rfl | rfl | rfl <;> simp [upd]
  · simp only [upd]
    repeat rw [if_neg (by omega)]
