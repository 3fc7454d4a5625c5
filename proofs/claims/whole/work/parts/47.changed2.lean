theorem sr_all : ∀ n, n < 256 → (nI n >>> ((1 : Int32) &&& 31)) ||| 0 = nI n / 2 ∧ (nI n >>> ((1 : Int32) &&& 31)) ||| (nI n &&& 128) = nI n / 2 + (nI n &&& 128) ∧ (∀ q : Bool, (nI n >>> ((1 : Int32) &&& 31)) ||| (bz_i q <<< ((7 : Int32) &&& 31)) = nI n / 2 + 128 * bz_i q) ∧ (nI n / 2).toBitVec.toNat < 256 ∧ (nI n / 2 + (nI n &&& 128)).toBitVec.toNat < 256 ∧ (∀ q : Bool, (nI n / 2 + 128 * bz_i q).toBitVec.toNat < 256) ∧ nI n &&& 1 = bz_i (decide ((nI n &&& 1) = 1)) := by decide +kernel
theorem sl_all : ∀ n, n < 256 → ∀ q : Bool, ((nI n <<< ((1 : Int32) &&& 31)) &&& 255) ||| bz_i q = ((2 * nI n) &&& 255) + bz_i q ∧ (((2 * nI n) &&& 255) + bz_i q).toBitVec.toNat < 256 ∧ nI n >>> ((7 : Int32) &&& 31) = bz_i (decide (¬ nI n ≤ 127)) ∧ ((((((2 * nI n) &&& 255) + bz_i q) >>> ((7 : Int32) &&& 31)) ^^^ (nI n >>> ((7 : Int32) &&& 31))) = 1 ↔ (sn_ (((2 * nI n) &&& 255) + bz_i q) 8 ^^ decide (¬ nI n ≤ 127)) = true) := by decide +kernel
theorem ot_all : ∀ n, n < 256 → (255 : Int32) - nI n = nI n ^^^ 255 ∧ (nI n ^^^ 255).toBitVec.toNat < 256 ∧ (nI n - 1) &&& 255 = (nI n + 255) &&& 255 := by decide +kernel
theorem fl13 {c : Int32} (h : rb_ c) (n z k : Bool) (hz : z = true → n = false) : mk_ 1 k (mk_ 4 z (mk_ 8 n c)) = (c &&& ((13 : Int32) ^^^ -1)) ||| (fl_ n z ||| bz_i k) := by
  obtain ⟨m, h1, rfl⟩ := h
  exact fl13_all m h1 n z k hz
/-- shifts to the right -/
theorem sr_ok {m c h v : Int32} (hm : rb_ m) (hc : rb_ c) (hv : (m >>> ((1 : Int32) &&& 31)) ||| h = v) (hb : rb_ v) : tc_C_shiftRight m h c = some (v, mk_ 1 (decide ((m &&& 1) = 1)) (mk_ 4 (sz_ v 8) (mk_ 8 (sn_ v 8) c))) := by
  unfold tc_C_shiftRight tc_G_setFlags
  rw [hv, (so8 hb).1, Option.bind_some, Option.bind_some, fl13 hc _ _ _ (so8 hb).2]
  obtain ⟨n, h1, rfl⟩ := hm
  rw [← (sr_all n h1).2.2.2.2.2.2]
theorem sl_ok {m c : Int32} {q : Bool} (hm : rb_ m) (hc : rb_ c) : tc_C_shiftLeft m (bz_i q) c = some (((2 * m) &&& 255) + bz_i q, mk_ 2 (decide (¬ decide (¬ (mk_ 1 (decide (¬ m ≤ 127)) (mk_ 4 (sz_ (((2 * m) &&& 255) + bz_i q) 8) (mk_ 8 (sn_ (((2 * m) &&& 255) + bz_i q) 8) c)) &&& 8) = 0) = decide (¬ (mk_ 1 (decide (¬ m ≤ 127)) (mk_ 4 (sz_ (((2 * m) &&& 255) + bz_i q) 8) (mk_ 8 (sn_ (((2 * m) &&& 255) + bz_i q) 8) c)) &&& 1) = 0))) (mk_ 1 (decide (¬ m ≤ 127)) (mk_ 4 (sz_ (((2 * m) &&& 255) + bz_i q) 8) (mk_ 8 (sn_ (((2 * m) &&& 255) + bz_i q) 8) c)))) := by
  obtain ⟨n, h1, rfl⟩ := hm
  obtain ⟨k, h2, rfl⟩ := hc
  obtain ⟨e1, e2, e3, e4⟩ := sl_all n h1 q
  have hb : rb_ (((2 * nI n) &&& 255) + bz_i q) := rb_of e2
  rw [flS_all k h2 _ _ _ (so8 hb).2]
  unfold tc_C_shiftLeft tc_C_shiftLeft_j32 tc_G_setFlags
  rw [e1, (so8 hb).1]
  simp only [Option.bind_some]
  by_cases h : ((((((2 * nI n) &&& 255) + bz_i q) >>> ((7 : Int32) &&& 31)) ^^^ (nI n >>> ((7 : Int32) &&& 31))) = 1)
  · rw [if_pos h, e4.mp h, e3]
    rfl
  · rw [if_neg h, eq_false_of_ne_true (fun z => h (e4.mpr z)), e3]
    rfl
theorem ch_ok {k m c : Int32} (hk : kc_ k) (hm : rb_ m) (hc : rb_ c) (a b d x y u s p : Int32) : ∃ v c', tc_P_changed k m c = some (v, c') ∧ rb_ v ∧ rb_ c' ∧ mo_changed k m (rf_ a b d c x y u s p) = some (v, rf_ a b d c' x y u s p) := by
  rw [mo_changed_eq]
  have hcy := cy_eq hc
  rcases hk with rfl | rfl | rfl | rfl | rfl | rfl | rfl | rfl | rfl | rfl | rfl
  · obtain ⟨v, c', h1, h2, h3, h4, V, q, h5⟩ := diff8 rb_0 hm (Or.inl rfl) hc a b d x y u s p
    refine ⟨v, c', ?_, h2, h3, ?_⟩
    · show ((tc_C_difference 0 m 0 1 c).bind _) = _
      rw [h1]; rfl
    · show ((mo_difference 0 m 0 8 _).bind _) = _
      rw [h4, Option.bind_some, pl_eq _ _ _ _ _ _ _ _ _ 0 m v (Or.inl rfl), h5]
      obtain ⟨n, hn, rfl⟩ := hc
      rw [flI_all n hn]
  · obtain ⟨n, h1, rfl⟩ := hm
    obtain ⟨e1, e2, e3⟩ := ot_all n h1
    have hb : rb_ (nI n ^^^ 255) := rb_of e2
    refine ⟨nI n ^^^ 255, mk_ 1 true (mk_ 4 (sz_ (nI n ^^^ 255) 8) (mk_ 8 (sn_ (nI n ^^^ 255) 8) (mk_ 2 false (mk_ 4 (sz_ (nI n ^^^ 255) 8) (mk_ 8 (sn_ (nI n ^^^ 255) 8) c))))), ?_, hb, rb_mk1 (rb_mk4 (rb_mk8 (rb_mk2 (rb_mk4 (rb_mk8 hc _) _) _) _) _) _, ?_⟩
    · obtain ⟨j, h2, rfl⟩ := hc
      rw [fl15_all j h2 _ _ _ (so8 hb).2]
      show ((tc_C_plainWithCarry _ 1 _).bind _) = _
      unfold tc_C_plainWithCarry tc_G_setFlags
      rw [(so8 hb).1]
      rfl
    · show ((mo_plain (255 - nI n) 8 _).bind _) = _
      rw [e1, mo_plain_eq, Option.bind_some, cm_eq3]
  · obtain ⟨n, h1, rfl⟩ := hm
    obtain ⟨e1, e2, e3, e4, e5, e6, e7⟩ := sr_all n h1
    refine ⟨_, _, ?_, rb_of e4, rb_mk1 (rb_mk4 (rb_mk8 hc _) _) _, sr_eq _ _ _ _ _ _ _ _ _ 4 _ _ (Or.inl rfl)⟩
    show ((tc_C_shiftRight _ 0 _).bind _) = _
    rw [sr_ok ⟨n, h1, rfl⟩ hc e1 (rb_of e4)]
    rfl
  · obtain ⟨n, h1, rfl⟩ := hm
    obtain ⟨e1, e2, e3, e4, e5, e6, e7⟩ := sr_all n h1
    refine ⟨_, _, ?_, rb_of (e6 (yc_ c)), rb_mk1 (rb_mk4 (rb_mk8 hc _) _) _, sr_eq _ _ _ _ _ _ _ _ _ 6 _ _ (Or.inr (Or.inl rfl))⟩
    have e : tc_P_changed 6 (nI n) c = (tc_C_shiftRight (nI n) ((c &&& 1) <<< ((7 : Int32) &&& 31)) c).bind fun z26 => some (z26.1, z26.2) := rfl
    rw [e, hcy, sr_ok ⟨n, h1, rfl⟩ hc (e3 (yc_ c)) (rb_of (e6 (yc_ c)))]
    rfl
  · obtain ⟨n, h1, rfl⟩ := hm
    obtain ⟨e1, e2, e3, e4, e5, e6, e7⟩ := sr_all n h1
    refine ⟨_, _, ?_, rb_of e5, rb_mk1 (rb_mk4 (rb_mk8 hc _) _) _, sr_eq _ _ _ _ _ _ _ _ _ 7 _ _ (Or.inr (Or.inr rfl))⟩
    show ((tc_C_shiftRight _ _ _).bind _) = _
    rw [sr_ok ⟨n, h1, rfl⟩ hc e2 (rb_of e5)]
    rfl
  · have hz : ((2 * m) &&& 255) + bz_i false = (2 * m) &&& 255 := Int32.add_zero _
    refine ⟨_, _, ?_, ?_, ?_, sl_eq _ _ _ _ _ _ _ _ _ 8 _ _ (Or.inl rfl)⟩
    · show ((tc_C_shiftLeft m (bz_i false) _).bind _) = _
      rw [sl_ok hm hc, hz]
      rfl
    · exact rb_and _
    · exact rb_mk2 (rb_mk1 (rb_mk4 (rb_mk8 hc _) _) _) _
  · refine ⟨_, _, ?_, ?_, ?_, sl_eq _ _ _ _ _ _ _ _ _ 9 _ _ (Or.inr rfl)⟩
    · have e : tc_P_changed 9 m c = (tc_C_shiftLeft m (c &&& 1) c).bind fun z26 => some (z26.1, z26.2) := rfl
      rw [e, hcy, sl_ok hm hc]
      rfl
    · obtain ⟨n, h1, rfl⟩ := hm
      exact rb_of (sl_all n h1 (yc_ c)).2.1
    · exact rb_mk2 (rb_mk1 (rb_mk4 (rb_mk8 hc _) _) _) _
  · obtain ⟨n, h1, rfl⟩ := hm
    obtain ⟨e1, e2, e3⟩ := ot_all n h1
    refine ⟨_, _, ?_, rb_and _, rb_mk2 (rb_mk4 (rb_mk8 hc _) _) _, dc_eq _ _ _ _ _ _ _ _ _ _ _⟩
    obtain ⟨j, h2, rfl⟩ := hc
    rw [fl14_all j h2 _ _ _ (so8 (rb_and _)).2]
    show ((tc_C_decrement _ _).bind _) = _
    unfold tc_C_decrement tc_C_decrement_j31 tc_G_setFlags
    rw [e3, (so8 (rb_and _)).1]
    simp only [Option.bind_some]
    by_cases h : nI n = 128
    · rw [if_pos h, decide_eq_true h]; rfl
    · rw [if_neg h, decide_eq_false h]; rfl
  · obtain ⟨n, h1, rfl⟩ := hm
    refine ⟨_, _, ?_, rb_and _, rb_mk2 (rb_mk4 (rb_mk8 hc _) _) _, ic_eq _ _ _ _ _ _ _ _ _ _ _⟩
    obtain ⟨j, h2, rfl⟩ := hc
    rw [fl14_all j h2 _ _ _ (so8 (rb_and _)).2]
    show ((tc_C_increment _ _).bind _) = _
    unfold tc_C_increment tc_C_increment_j30 tc_G_setFlags
    rw [(so8 (rb_and _)).1]
    simp only [Option.bind_some]
    by_cases h : nI n = 127
    · rw [if_pos h, decide_eq_true h]; rfl
    · rw [if_neg h, decide_eq_false h]; rfl
  · obtain ⟨c', h1, h2, h3⟩ := plain8 hm hc a b d x y u s p
    have h4 := mo_plain_eq a b d c x y u s p m 8
    refine ⟨m, mk_ 2 false (mk_ 4 (sz_ m 8) (mk_ 8 (sn_ m 8) c)), ?_, hm, rb_mk2 (rb_mk4 (rb_mk8 hc _) _) _, ?_⟩
    · show ((tc_C_plain _ 1 _).bind _) = _
      unfold tc_C_plain tc_G_setFlags
      rw [(so8 hm).1, fl3 hc _ _ (so8 hm).2]
      rfl
    · show ((mo_plain m 8 _).bind _) = _
      rw [h4, Option.bind_some, pl_eq _ _ _ _ _ _ _ _ _ 13 m m (Or.inr rfl)]
      obtain ⟨n, hn, rfl⟩ := hc
      rw [flJ_all n hn]
  · refine ⟨0, mk_ 1 false (mk_ 4 (sz_ 0 8) (mk_ 8 (sn_ 0 8) (mk_ 2 false (mk_ 4 (sz_ 0 8) (mk_ 8 (sn_ 0 8) c))))), ?_, rb_0, rb_mk1 (rb_mk4 (rb_mk8 (rb_mk2 (rb_mk4 (rb_mk8 hc _) _) _) _) _) _, ?_⟩
    · obtain ⟨j, h2, rfl⟩ := hc
      rw [fl15_all j h2 _ _ _ (so8 rb_0).2]
      show ((tc_C_plainWithCarry 0 0 _).bind _) = _
      unfold tc_C_plainWithCarry tc_G_setFlags
      rw [(so8 rb_0).1]
      rfl
    · have e : ∀ rg, mo_changed_j13 15 m (yc_ c) rg = (mo_plain 0 8 rg).bind fun z37 => mo_changed_j187 15 m z37.1 z37.2 := fun rg => rfl
      rw [e, mo_plain_eq, Option.bind_some, cl_eq15]
