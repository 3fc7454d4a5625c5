/-! Changes of one operand: the class's changed, the reference's changed. -/
def kc_ (k : Int32) : Prop := k = 0 ∨ k = 3 ∨ k = 4 ∨ k = 6 ∨ k = 7 ∨ k = 8 ∨ k = 9 ∨ k = 10 ∨ k = 12 ∨ k = 13 ∨ k = 15
def yc_ (c : Int32) : Bool := decide (¬ (c &&& 1) = 0)
theorem mo_flag_eq (bit : Int32) (a b d c x y u s p : Int32) : mo_flag bit (rf_ a b d c x y u s p) = some (decide (¬ (c &&& bit) = 0)) := by
  unfold mo_flag
  show (if (c &&& bit) = 0 then _ else _) = _
  by_cases h : (c &&& bit) = 0
  · rw [if_pos h, decide_eq_false (not_not_intro h)]
  · rw [if_neg h, decide_eq_true h]
theorem cy_all : ∀ m, m < 256 → nI m &&& 1 = bz_i (yc_ (nI m)) := by decide +kernel
theorem cy_eq {c : Int32} (h : rb_ c) : c &&& 1 = bz_i (yc_ c) := by
  obtain ⟨m, h1, rfl⟩ := h
  exact cy_all m h1
theorem mo_changed_eq (k m : Int32) (a b d c x y u s p : Int32) : mo_changed k m (rf_ a b d c x y u s p) = mo_changed_j13 k m (yc_ c) (rf_ a b d c x y u s p) := by
  unfold mo_changed yc_
  rw [mo_flag_eq, Option.bind_some]
  by_cases h : (c &&& 1) = 0
  · rw [decide_eq_false (not_not_intro h)]; rfl
  · rw [decide_eq_true h]; rfl
section CH
variable (a b d c x y u s p : Int32)
theorem sr_eq (k m v : Int32) (hk : k = 4 ∨ k = 6 ∨ k = 7) : mo_changed_j187 k m v (rf_ a b d c x y u s p) = some (v, rf_ a b d (mk_ 1 (decide ((m &&& 1) = 1)) (mk_ 4 (sz_ v 8) (mk_ 8 (sn_ v 8) c))) x y u s p) := by
  have e : mo_changed_j187 k m v (rf_ a b d c x y u s p) = (mo_sign v 8 (rf_ a b d c x y u s p)).bind fun z => if (m &&& 1) = 1 then (mo_mark 1 true z).bind fun w => some (v, w) else (mo_mark 1 false z).bind fun w => some (v, w) := by
    rcases hk with rfl | rfl | rfl <;> rfl
  rw [e, mo_sign_eq, Option.bind_some]
  by_cases h : (m &&& 1) = 1
  · rw [if_pos h, mo_mark_eq, decide_eq_true h]; rfl
  · rw [if_neg h, mo_mark_eq, decide_eq_false h]; rfl
theorem sl_eq (k m v : Int32) (hk : k = 8 ∨ k = 9) : mo_changed_j187 k m v (rf_ a b d c x y u s p) = some (v, rf_ a b d (mk_ 2 (decide (¬ decide (¬ (mk_ 1 (decide (¬ m ≤ 127)) (mk_ 4 (sz_ v 8) (mk_ 8 (sn_ v 8) c)) &&& 8) = 0) = decide (¬ (mk_ 1 (decide (¬ m ≤ 127)) (mk_ 4 (sz_ v 8) (mk_ 8 (sn_ v 8) c)) &&& 1) = 0))) (mk_ 1 (decide (¬ m ≤ 127)) (mk_ 4 (sz_ v 8) (mk_ 8 (sn_ v 8) c)))) x y u s p) := by
  have e : mo_changed_j187 k m v (rf_ a b d c x y u s p) = (mo_sign v 8 (rf_ a b d c x y u s p)).bind fun z => if m ≤ 127 then mo_changed_j273 k m v false z else mo_changed_j273 k m v true z := by
    rcases hk with rfl | rfl <;> rfl
  have e2 : ∀ t z, mo_changed_j297 k m v t z = (mo_mark 2 t z).bind fun w => some (v, w) := by
    rcases hk with rfl | rfl <;> (intro t z; rfl)
  have e3 : ∀ (q : Bool) (c1 : Int32), mo_changed_j273 k m v q (rf_ a b d c1 x y u s p) = some (v, rf_ a b d (mk_ 2 (decide (¬ decide (¬ (mk_ 1 q c1 &&& 8) = 0) = decide (¬ (mk_ 1 q c1 &&& 1) = 0))) (mk_ 1 q c1)) x y u s p) := by
    intro q c1
    unfold mo_changed_j273
    rw [mo_mark_eq, Option.bind_some, mo_flag_eq, Option.bind_some, mo_flag_eq, Option.bind_some, e2, e2, mo_mark_eq, mo_mark_eq]
    cases decide (¬ (mk_ 1 q c1 &&& 8) = 0) <;> cases decide (¬ (mk_ 1 q c1 &&& 1) = 0) <;> rfl
  rw [e, mo_sign_eq, Option.bind_some, e3, e3]
  by_cases h : m ≤ 127
  · rw [if_pos h, decide_eq_false (not_not_intro h)]
  · rw [if_neg h, decide_eq_true h]
theorem dc_eq (m v : Int32) : mo_changed_j187 10 m v (rf_ a b d c x y u s p) = some (v, rf_ a b d (mk_ 2 (decide (m = 128)) (mk_ 4 (sz_ v 8) (mk_ 8 (sn_ v 8) c))) x y u s p) := by
  have e : mo_changed_j187 10 m v (rf_ a b d c x y u s p) = (mo_sign v 8 (rf_ a b d c x y u s p)).bind fun z => if m = 128 then (mo_mark 2 true z).bind fun w => some (v, w) else (mo_mark 2 false z).bind fun w => some (v, w) := rfl
  rw [e, mo_sign_eq, Option.bind_some]
  by_cases h : m = 128
  · rw [if_pos h, mo_mark_eq, decide_eq_true h]; rfl
  · rw [if_neg h, mo_mark_eq, decide_eq_false h]; rfl
theorem ic_eq (m v : Int32) : mo_changed_j187 12 m v (rf_ a b d c x y u s p) = some (v, rf_ a b d (mk_ 2 (decide (m = 127)) (mk_ 4 (sz_ v 8) (mk_ 8 (sn_ v 8) c))) x y u s p) := by
  have e : mo_changed_j187 12 m v (rf_ a b d c x y u s p) = (mo_sign v 8 (rf_ a b d c x y u s p)).bind fun z => if m = 127 then (mo_mark 2 true z).bind fun w => some (v, w) else (mo_mark 2 false z).bind fun w => some (v, w) := rfl
  rw [e, mo_sign_eq, Option.bind_some]
  by_cases h : m = 127
  · rw [if_pos h, mo_mark_eq, decide_eq_true h]; rfl
  · rw [if_neg h, mo_mark_eq, decide_eq_false h]; rfl
theorem pl_eq (k m v : Int32) (hk : k = 0 ∨ k = 13) : mo_changed_j187 k m v (rf_ a b d c x y u s p) = some (v, rf_ a b d (mk_ 4 (sz_ v 8) (mk_ 8 (sn_ v 8) c)) x y u s p) := by
  have e : mo_changed_j187 k m v (rf_ a b d c x y u s p) = (mo_sign v 8 (rf_ a b d c x y u s p)).bind fun z => some (v, z) := by
    rcases hk with rfl | rfl <;> rfl
  rw [e, mo_sign_eq, Option.bind_some]
theorem cm_eq3 (m v : Int32) : mo_changed_j187 3 m v (rf_ a b d c x y u s p) = some (v, rf_ a b d (mk_ 1 true (mk_ 4 (sz_ v 8) (mk_ 8 (sn_ v 8) c))) x y u s p) := by
  have e : mo_changed_j187 3 m v (rf_ a b d c x y u s p) = (mo_sign v 8 (rf_ a b d c x y u s p)).bind fun z => (mo_mark 1 true z).bind fun w => some (v, w) := rfl
  rw [e, mo_sign_eq, Option.bind_some, mo_mark_eq, Option.bind_some]
theorem cl_eq15 (m v : Int32) : mo_changed_j187 15 m v (rf_ a b d c x y u s p) = some (v, rf_ a b d (mk_ 1 false (mk_ 4 (sz_ v 8) (mk_ 8 (sn_ v 8) c))) x y u s p) := by
  have e : mo_changed_j187 15 m v (rf_ a b d c x y u s p) = (mo_sign v 8 (rf_ a b d c x y u s p)).bind fun z => (mo_mark 1 false z).bind fun w => some (v, w) := rfl
  rw [e, mo_sign_eq, Option.bind_some, mo_mark_eq, Option.bind_some]
end CH
theorem fl13_all : ∀ m, m < 256 → ∀ n z k : Bool, (z = true → n = false) → mk_ 1 k (mk_ 4 z (mk_ 8 n (nI m))) = (nI m &&& ((13 : Int32) ^^^ -1)) ||| (fl_ n z ||| bz_i k) := by decide +kernel
theorem fl14_all : ∀ m, m < 256 → ∀ n z v : Bool, (z = true → n = false) → mk_ 2 v (mk_ 4 z (mk_ 8 n (nI m))) = (nI m &&& ((14 : Int32) ^^^ -1)) ||| (fl_ n z ||| (bif v then 2 else 0)) := by decide +kernel
theorem fl15_all : ∀ m, m < 256 → ∀ n z k : Bool, (z = true → n = false) → mk_ 1 k (mk_ 4 z (mk_ 8 n (mk_ 2 false (mk_ 4 z (mk_ 8 n (nI m)))))) = (nI m &&& ((15 : Int32) ^^^ -1)) ||| (fl_ n z ||| bz_i k) := by decide +kernel
theorem flS_all : ∀ m, m < 256 → ∀ n z k : Bool, (z = true → n = false) → mk_ 2 (decide (¬ decide (¬ (mk_ 1 k (mk_ 4 z (mk_ 8 n (nI m))) &&& 8) = 0) = decide (¬ (mk_ 1 k (mk_ 4 z (mk_ 8 n (nI m))) &&& 1) = 0))) (mk_ 1 k (mk_ 4 z (mk_ 8 n (nI m)))) = (nI m &&& ((15 : Int32) ^^^ -1)) ||| ((fl_ n z ||| (bif n ^^ k then 2 else 0)) ||| bz_i k) := by decide +kernel
theorem flI_all : ∀ m, m < 256 → ∀ n z v k : Bool, mk_ 4 z (mk_ 8 n (mk_ 2 v (mk_ 1 k (mk_ 4 z (mk_ 8 n (nI m)))))) = mk_ 2 v (mk_ 1 k (mk_ 4 z (mk_ 8 n (nI m)))) := by decide +kernel
theorem flJ_all : ∀ m, m < 256 → ∀ n z v : Bool, mk_ 4 z (mk_ 8 n (mk_ 2 v (mk_ 4 z (mk_ 8 n (nI m))))) = mk_ 2 v (mk_ 4 z (mk_ 8 n (nI m))) := by decide +kernel
