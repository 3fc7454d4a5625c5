/-! Sums and differences in 8 and 16 bits. -/
theorem num8 {n : Nat} (h : n < 256) : mo_number (nI n) 8 = some (iI (s8_ n)) := by
  unfold mo_number s8_
  rw [pk_shrN (by omega) _ 7 (by decide), show (1 : Int32) <<< ((8 : Int32) &&& 31) = iI 256 by decide, ← nI_0]
  by_cases h2 : n < 128
  · rw [if_pos ((nI_eq (by omega) (by decide)).mpr (by omega)), if_pos h2, nI_iI]
  · rw [if_neg (fun q => h2 (by have := (nI_eq (by omega) (by decide)).mp q; omega)), if_neg h2, nI_iI, iI_sub]
theorem sum8 {x y k c : Int32} (hx : rb_ x) (hy : rb_ y) (hk : k = 0 ∨ k = 1) (hc : rb_ c) (a b d x' y' u s p : Int32) : ∃ v c', tc_C_sum x y k 1 c = some (v, c') ∧ rb_ v ∧ rb_ c' ∧ mo_sum x y k 8 (rf_ a b d c x' y' u s p) = some (v, rf_ a b d c' x' y' u s p) := by
  obtain ⟨X, hX, rfl⟩ := hx
  obtain ⟨Y, hY, rfl⟩ := hy
  obtain ⟨K, hK, rfl⟩ : ∃ K : Nat, K ≤ 1 ∧ k = nI K := by
    rcases hk with rfl | rfl
    · exact ⟨0, by omega, by decide⟩
    · exact ⟨1, by omega, by decide⟩
  have hs1 : -128 ≤ s8_ X ∧ s8_ X < 128 := by unfold s8_; split <;> omega
  have hs2 : -128 ≤ s8_ Y ∧ s8_ Y < 128 := by unfold s8_; split <;> omega
  have hs3 : -128 ≤ s8_ ((X + Y + K) % 256) ∧ s8_ ((X + Y + K) % 256) < 128 := by unfold s8_; split <;> omega
  have eT : nI X + nI Y + nI K = nI (X + Y + K) := by rw [nI_add, nI_add]
  have eE : iI (s8_ X) + iI (s8_ Y) + nI K = iI (s8_ X + s8_ Y + K) := by rw [nI_iI, iI_add, iI_add]
  have hv : rb_ (nI ((X + Y + K) % 256)) := ⟨_, Nat.mod_lt _ (by decide), rfl⟩
  have key : (s8_ X + s8_ Y + K = s8_ ((X + Y + K) % 256)) ↔ ¬ (s8_ X + s8_ Y + K < -128 ∨ 128 ≤ s8_ X + s8_ Y + K) := by
    unfold s8_
    split <;> split <;> split <;> omega
  have so := so8 hv
  refine ⟨nI ((X + Y + K) % 256), mk_ 2 (decide (¬ (s8_ X + s8_ Y + K = s8_ ((X + Y + K) % 256)))) (mk_ 1 (decide (256 ≤ X + Y + K)) (mk_ 4 (sz_ (nI ((X + Y + K) % 256)) 8) (mk_ 8 (sn_ (nI ((X + Y + K) % 256)) 8) c))), ?_, hv, rb_mk2 (rb_mk1 (rb_mk4 (rb_mk8 hc _) _) _) _, ?_⟩
  · rw [fl4 hc _ _ _ _ so.2]
    unfold tc_C_sum tc_C_sum_j42 tc_C_sum_j73 tc_G_setFlags
    rw [show tc_C_maskOf 1 = some 255 from rfl, Option.bind_some, eT, pk_andN (by omega) 8 (by decide), show (2 : Nat) ^ 8 = 256 by decide, so.1, Option.bind_some]
    simp only [tc_signed1, Option.bind_some, t8_ _ hX, t8_ _ hY, t8_ _ (Nat.mod_lt (X + Y + K) (show 0 < 256 by decide)), eE]
    rw [show (255 : Int32) = nI 255 by decide]
    by_cases h1 : 256 ≤ X + Y + K <;> by_cases h2 : s8_ X + s8_ Y + K = s8_ ((X + Y + K) % 256)
    · rw [if_neg (by rw [nI_leI (by omega) (by omega)]; omega), if_pos ((iI_eq (by omega) (by omega) (by omega) (by omega)).mpr h2), decide_eq_true h1, decide_eq_false (not_not_intro h2)]
      rfl
    · rw [if_neg (by rw [nI_leI (by omega) (by omega)]; omega), if_neg (fun q => h2 ((iI_eq (by omega) (by omega) (by omega) (by omega)).mp q)), decide_eq_true h1, decide_eq_true h2]
      rfl
    · rw [if_pos (by rw [nI_leI (by omega) (by omega)]; omega), if_pos ((iI_eq (by omega) (by omega) (by omega) (by omega)).mpr h2), decide_eq_false h1, decide_eq_false (not_not_intro h2)]
      rfl
    · rw [if_pos (by rw [nI_leI (by omega) (by omega)]; omega), if_neg (fun q => h2 ((iI_eq (by omega) (by omega) (by omega) (by omega)).mp q)), decide_eq_false h1, decide_eq_true h2]
      rfl
  · unfold mo_sum mo_sum_j58 mo_sum_j82 mo_sum_j87
    rw [num8 hX, num8 hY, show (1 : Int32) <<< ((8 : Int32) &&& 31) = nI 256 by decide, eT, pk_rem (by omega) (by decide) (by decide)]
    simp only [Option.bind_some, mo_sign_eq, mo_mark_eq, eE]
    rw [if_neg (by decide), show (-(nI 256)) / (2 : Int32) = iI (-128) by decide, show nI 256 / (2 : Int32) = iI 128 by decide]
    by_cases h1 : 256 ≤ X + Y + K
    · rw [if_neg (by rw [nI_ltI (by omega) (by omega)]; omega), decide_eq_true h1]
      by_cases h2 : s8_ X + s8_ Y + K < -128
      · rw [if_pos ((iI_lt (by omega) (by omega) (by omega) (by omega)).mpr h2), decide_eq_true (mt key.mp (not_not_intro (Or.inl h2)))]
      · rw [if_neg (fun q => h2 ((iI_lt (by omega) (by omega) (by omega) (by omega)).mp q))]
        by_cases h3 : 128 ≤ s8_ X + s8_ Y + K
        · rw [if_neg (fun q => by have := (iI_lt (by omega) (by omega) (by omega) (by omega)).mp q; omega), decide_eq_true (mt key.mp (not_not_intro (Or.inr h3)))]
        · rw [if_pos ((iI_lt (by omega) (by omega) (by omega) (by omega)).mpr (by omega)), decide_eq_false (not_not_intro (key.mpr (by omega)))]
    · rw [if_pos (by rw [nI_ltI (by omega) (by omega)]; omega), decide_eq_false h1]
      by_cases h2 : s8_ X + s8_ Y + K < -128
      · rw [if_pos ((iI_lt (by omega) (by omega) (by omega) (by omega)).mpr h2), decide_eq_true (mt key.mp (not_not_intro (Or.inl h2)))]
      · rw [if_neg (fun q => h2 ((iI_lt (by omega) (by omega) (by omega) (by omega)).mp q))]
        by_cases h3 : 128 ≤ s8_ X + s8_ Y + K
        · rw [if_neg (fun q => by have := (iI_lt (by omega) (by omega) (by omega) (by omega)).mp q; omega), decide_eq_true (mt key.mp (not_not_intro (Or.inr h3)))]
        · rw [if_pos ((iI_lt (by omega) (by omega) (by omega) (by omega)).mpr (by omega)), decide_eq_false (not_not_intro (key.mpr (by omega)))]
theorem and_a8 (w : Int32) : (w + nI (2 * 256)) &&& 255 = w &&& 255 := by
  rw [and_b, and_b w]
  refine congrArg nI ?_
  rw [Int32.toBitVec_add, BitVec.toNat_add, show (nI (2 * 256)).toBitVec.toNat = 2 * 256 from pk_tn (by decide)]
  omega
theorem diff8 {x y k c : Int32} (hx : rb_ x) (hy : rb_ y) (hk : k = 0 ∨ k = 1) (hc : rb_ c) (a b d x' y' u s p : Int32) : ∃ v c', tc_C_difference x y k 1 c = some (v, c') ∧ rb_ v ∧ rb_ c' ∧ mo_difference x y k 8 (rf_ a b d c x' y' u s p) = some (v, rf_ a b d c' x' y' u s p) ∧ ∃ V q : Bool, c' = mk_ 2 V (mk_ 1 q (mk_ 4 (sz_ v 8) (mk_ 8 (sn_ v 8) c))) := by
  obtain ⟨X, hX, rfl⟩ := hx
  obtain ⟨Y, hY, rfl⟩ := hy
  obtain ⟨K, hK, rfl⟩ : ∃ K : Nat, K ≤ 1 ∧ k = nI K := by
    rcases hk with rfl | rfl
    · exact ⟨0, by omega, by decide⟩
    · exact ⟨1, by omega, by decide⟩
  obtain ⟨T, hT⟩ : ∃ T : Nat, T = X + 2 * 256 - Y - K := ⟨_, rfl⟩
  have hs1 : -128 ≤ s8_ X ∧ s8_ X < 128 := by unfold s8_; split <;> omega
  have hs2 : -128 ≤ s8_ Y ∧ s8_ Y < 128 := by unfold s8_; split <;> omega
  have hs3 : -128 ≤ s8_ (T % 256) ∧ s8_ (T % 256) < 128 := by unfold s8_; split <;> omega
  have eT : nI X - nI Y - nI K + nI (2 * 256) = nI T := by
    rw [nI_iI, nI_iI, nI_iI, nI_iI, nI_iI, iI_sub, iI_sub, iI_add]
    congr 1
    omega
  have eA : (nI X - nI Y - nI K) &&& 255 = nI (T % 256) := by
    rw [← and_a8, eT, pk_andN (by omega) 8 (by decide)]
  have eE : iI (s8_ X) - iI (s8_ Y) - nI K = iI (s8_ X - s8_ Y - K) := by rw [nI_iI, iI_sub, iI_sub]
  have hv : rb_ (nI (T % 256)) := ⟨_, Nat.mod_lt _ (by decide), rfl⟩
  have key : (s8_ X - s8_ Y - K = s8_ (T % 256)) ↔ ¬ (s8_ X - s8_ Y - K < -128 ∨ 128 ≤ s8_ X - s8_ Y - K) := by
    unfold s8_
    split <;> split <;> split <;> omega
  have so := so8 hv
  refine ⟨nI (T % 256), mk_ 2 (decide (¬ (s8_ X - s8_ Y - K = s8_ (T % 256)))) (mk_ 1 (decide (¬ (Y + K ≤ X))) (mk_ 4 (sz_ (nI (T % 256)) 8) (mk_ 8 (sn_ (nI (T % 256)) 8) c))), ?_, hv, rb_mk2 (rb_mk1 (rb_mk4 (rb_mk8 hc _) _) _) _, ?_, _, _, rfl⟩
  · rw [fl4 hc _ _ _ _ so.2]
    unfold tc_C_difference tc_C_difference_j35 tc_C_difference_j66 tc_G_setFlags
    rw [show tc_C_maskOf 1 = some 255 from rfl, Option.bind_some, eA, so.1, Option.bind_some, nI_add]
    simp only [tc_signed1, Option.bind_some, t8_ _ hX, t8_ _ hY, t8_ _ (Nat.mod_lt T (show 0 < 256 by decide)), eE]
    by_cases h1 : Y + K ≤ X <;> by_cases h2 : s8_ X - s8_ Y - K = s8_ (T % 256)
    · rw [if_pos ((nI_leI (by omega) (by omega)).mpr h1), if_pos ((iI_eq (by omega) (by omega) (by omega) (by omega)).mpr h2), decide_eq_false (not_not_intro h1), decide_eq_false (not_not_intro h2)]
      rfl
    · rw [if_pos ((nI_leI (by omega) (by omega)).mpr h1), if_neg (fun q => h2 ((iI_eq (by omega) (by omega) (by omega) (by omega)).mp q)), decide_eq_false (not_not_intro h1), decide_eq_true h2]
      rfl
    · rw [if_neg (fun q => h1 ((nI_leI (by omega) (by omega)).mp q)), if_pos ((iI_eq (by omega) (by omega) (by omega) (by omega)).mpr h2), decide_eq_true h1, decide_eq_false (not_not_intro h2)]
      rfl
    · rw [if_neg (fun q => h1 ((nI_leI (by omega) (by omega)).mp q)), if_neg (fun q => h2 ((iI_eq (by omega) (by omega) (by omega) (by omega)).mp q)), decide_eq_true h1, decide_eq_true h2]
      rfl
  · unfold mo_difference mo_difference_j60 mo_difference_j84 mo_difference_j89
    rw [num8 hX, num8 hY, show (1 : Int32) <<< ((8 : Int32) &&& 31) = nI 256 by decide, show (2 : Int32) * nI 256 = nI (2 * 256) by decide, eT, pk_rem (by omega) (by decide) (by decide), nI_add]
    simp only [Option.bind_some, mo_sign_eq, mo_mark_eq, eE]
    rw [if_neg (by decide), show (-(nI 256)) / (2 : Int32) = iI (-128) by decide, show nI 256 / (2 : Int32) = iI 128 by decide]
    by_cases h1 : Y + K ≤ X
    · rw [if_pos ((nI_leI (by omega) (by omega)).mpr h1), decide_eq_false (not_not_intro h1)]
      by_cases h2 : s8_ X - s8_ Y - K < -128
      · rw [if_pos ((iI_lt (by omega) (by omega) (by omega) (by omega)).mpr h2), decide_eq_true (mt key.mp (not_not_intro (Or.inl h2)))]
      · rw [if_neg (fun q => h2 ((iI_lt (by omega) (by omega) (by omega) (by omega)).mp q))]
        by_cases h3 : 128 ≤ s8_ X - s8_ Y - K
        · rw [if_neg (fun q => by have := (iI_lt (by omega) (by omega) (by omega) (by omega)).mp q; omega), decide_eq_true (mt key.mp (not_not_intro (Or.inr h3)))]
        · rw [if_pos ((iI_lt (by omega) (by omega) (by omega) (by omega)).mpr (by omega)), decide_eq_false (not_not_intro (key.mpr (by omega)))]
    · rw [if_neg (fun q => h1 ((nI_leI (by omega) (by omega)).mp q)), decide_eq_true h1]
      by_cases h2 : s8_ X - s8_ Y - K < -128
      · rw [if_pos ((iI_lt (by omega) (by omega) (by omega) (by omega)).mpr h2), decide_eq_true (mt key.mp (not_not_intro (Or.inl h2)))]
      · rw [if_neg (fun q => h2 ((iI_lt (by omega) (by omega) (by omega) (by omega)).mp q))]
        by_cases h3 : 128 ≤ s8_ X - s8_ Y - K
        · rw [if_neg (fun q => by have := (iI_lt (by omega) (by omega) (by omega) (by omega)).mp q; omega), decide_eq_true (mt key.mp (not_not_intro (Or.inr h3)))]
        · rw [if_pos ((iI_lt (by omega) (by omega) (by omega) (by omega)).mpr (by omega)), decide_eq_false (not_not_intro (key.mpr (by omega)))]
theorem num16 {n : Nat} (h : n < 65536) : mo_number (nI n) 16 = some (iI (s16_ n)) := by
  unfold mo_number s16_
  rw [pk_shrN (by omega) _ 15 (by decide), show (1 : Int32) <<< ((16 : Int32) &&& 31) = iI 65536 by decide, ← nI_0]
  by_cases h2 : n < 32768
  · rw [if_pos ((nI_eq (by omega) (by decide)).mpr (by omega)), if_pos h2, nI_iI]
  · rw [if_neg (fun q => h2 (by have := (nI_eq (by omega) (by decide)).mp q; omega)), if_neg h2, nI_iI, iI_sub]
theorem sum16 {x y k c : Int32} (hx : rw_ x) (hy : rw_ y) (hk : k = 0 ∨ k = 1) (hc : rb_ c) (a b d x' y' u s p : Int32) : ∃ v c', tc_C_sum x y k 2 c = some (v, c') ∧ rw_ v ∧ rb_ c' ∧ mo_sum x y k 16 (rf_ a b d c x' y' u s p) = some (v, rf_ a b d c' x' y' u s p) := by
  obtain ⟨X, hX, rfl⟩ := hx
  obtain ⟨Y, hY, rfl⟩ := hy
  obtain ⟨K, hK, rfl⟩ : ∃ K : Nat, K ≤ 1 ∧ k = nI K := by
    rcases hk with rfl | rfl
    · exact ⟨0, by omega, by decide⟩
    · exact ⟨1, by omega, by decide⟩
  have hs1 : -32768 ≤ s16_ X ∧ s16_ X < 32768 := by unfold s16_; split <;> omega
  have hs2 : -32768 ≤ s16_ Y ∧ s16_ Y < 32768 := by unfold s16_; split <;> omega
  have hs3 : -32768 ≤ s16_ ((X + Y + K) % 65536) ∧ s16_ ((X + Y + K) % 65536) < 32768 := by unfold s16_; split <;> omega
  have eT : nI X + nI Y + nI K = nI (X + Y + K) := by rw [nI_add, nI_add]
  have eE : iI (s16_ X) + iI (s16_ Y) + nI K = iI (s16_ X + s16_ Y + K) := by rw [nI_iI, iI_add, iI_add]
  have hv : rw_ (nI ((X + Y + K) % 65536)) := ⟨_, Nat.mod_lt _ (by decide), rfl⟩
  have key : (s16_ X + s16_ Y + K = s16_ ((X + Y + K) % 65536)) ↔ ¬ (s16_ X + s16_ Y + K < -32768 ∨ 32768 ≤ s16_ X + s16_ Y + K) := by
    unfold s16_
    split <;> split <;> split <;> omega
  have so := so16 hv
  refine ⟨nI ((X + Y + K) % 65536), mk_ 2 (decide (¬ (s16_ X + s16_ Y + K = s16_ ((X + Y + K) % 65536)))) (mk_ 1 (decide (65536 ≤ X + Y + K)) (mk_ 4 (sz_ (nI ((X + Y + K) % 65536)) 16) (mk_ 8 (sn_ (nI ((X + Y + K) % 65536)) 16) c))), ?_, hv, rb_mk2 (rb_mk1 (rb_mk4 (rb_mk8 hc _) _) _) _, ?_⟩
  · rw [fl4 hc _ _ _ _ so.2]
    unfold tc_C_sum tc_C_sum_j42 tc_C_sum_j73 tc_G_setFlags
    rw [show tc_C_maskOf 2 = some 65535 from rfl, Option.bind_some, eT, pk_andN (by omega) 16 (by decide), show (2 : Nat) ^ 16 = 65536 by decide, so.1, Option.bind_some]
    simp only [tc_signed2, Option.bind_some, t16_ hX, t16_ hY, t16_ (Nat.mod_lt (X + Y + K) (show 0 < 65536 by decide)), eE]
    rw [show (65535 : Int32) = nI 65535 by decide]
    by_cases h1 : 65536 ≤ X + Y + K <;> by_cases h2 : s16_ X + s16_ Y + K = s16_ ((X + Y + K) % 65536)
    · rw [if_neg (by rw [nI_leI (by omega) (by omega)]; omega), if_pos ((iI_eq (by omega) (by omega) (by omega) (by omega)).mpr h2), decide_eq_true h1, decide_eq_false (not_not_intro h2)]
      rfl
    · rw [if_neg (by rw [nI_leI (by omega) (by omega)]; omega), if_neg (fun q => h2 ((iI_eq (by omega) (by omega) (by omega) (by omega)).mp q)), decide_eq_true h1, decide_eq_true h2]
      rfl
    · rw [if_pos (by rw [nI_leI (by omega) (by omega)]; omega), if_pos ((iI_eq (by omega) (by omega) (by omega) (by omega)).mpr h2), decide_eq_false h1, decide_eq_false (not_not_intro h2)]
      rfl
    · rw [if_pos (by rw [nI_leI (by omega) (by omega)]; omega), if_neg (fun q => h2 ((iI_eq (by omega) (by omega) (by omega) (by omega)).mp q)), decide_eq_false h1, decide_eq_true h2]
      rfl
  · unfold mo_sum mo_sum_j58 mo_sum_j82 mo_sum_j87
    rw [num16 hX, num16 hY, show (1 : Int32) <<< ((16 : Int32) &&& 31) = nI 65536 by decide, eT, pk_rem (by omega) (by decide) (by decide)]
    simp only [Option.bind_some, mo_sign_eq, mo_mark_eq, eE]
    rw [if_neg (by decide), show (-(nI 65536)) / (2 : Int32) = iI (-32768) by decide, show nI 65536 / (2 : Int32) = iI 32768 by decide]
    by_cases h1 : 65536 ≤ X + Y + K
    · rw [if_neg (by rw [nI_ltI (by omega) (by omega)]; omega), decide_eq_true h1]
      by_cases h2 : s16_ X + s16_ Y + K < -32768
      · rw [if_pos ((iI_lt (by omega) (by omega) (by omega) (by omega)).mpr h2), decide_eq_true (mt key.mp (not_not_intro (Or.inl h2)))]
      · rw [if_neg (fun q => h2 ((iI_lt (by omega) (by omega) (by omega) (by omega)).mp q))]
        by_cases h3 : 32768 ≤ s16_ X + s16_ Y + K
        · rw [if_neg (fun q => by have := (iI_lt (by omega) (by omega) (by omega) (by omega)).mp q; omega), decide_eq_true (mt key.mp (not_not_intro (Or.inr h3)))]
        · rw [if_pos ((iI_lt (by omega) (by omega) (by omega) (by omega)).mpr (by omega)), decide_eq_false (not_not_intro (key.mpr (by omega)))]
    · rw [if_pos (by rw [nI_ltI (by omega) (by omega)]; omega), decide_eq_false h1]
      by_cases h2 : s16_ X + s16_ Y + K < -32768
      · rw [if_pos ((iI_lt (by omega) (by omega) (by omega) (by omega)).mpr h2), decide_eq_true (mt key.mp (not_not_intro (Or.inl h2)))]
      · rw [if_neg (fun q => h2 ((iI_lt (by omega) (by omega) (by omega) (by omega)).mp q))]
        by_cases h3 : 32768 ≤ s16_ X + s16_ Y + K
        · rw [if_neg (fun q => by have := (iI_lt (by omega) (by omega) (by omega) (by omega)).mp q; omega), decide_eq_true (mt key.mp (not_not_intro (Or.inr h3)))]
        · rw [if_pos ((iI_lt (by omega) (by omega) (by omega) (by omega)).mpr (by omega)), decide_eq_false (not_not_intro (key.mpr (by omega)))]
theorem and_a16 (w : Int32) : (w + nI (2 * 65536)) &&& 65535 = w &&& 65535 := by
  rw [and_w, and_w w]
  refine congrArg nI ?_
  rw [Int32.toBitVec_add, BitVec.toNat_add, show (nI (2 * 65536)).toBitVec.toNat = 2 * 65536 from pk_tn (by decide)]
  omega
theorem diff16 {x y k c : Int32} (hx : rw_ x) (hy : rw_ y) (hk : k = 0 ∨ k = 1) (hc : rb_ c) (a b d x' y' u s p : Int32) : ∃ v c', tc_C_difference x y k 2 c = some (v, c') ∧ rw_ v ∧ rb_ c' ∧ mo_difference x y k 16 (rf_ a b d c x' y' u s p) = some (v, rf_ a b d c' x' y' u s p) ∧ ∃ V q : Bool, c' = mk_ 2 V (mk_ 1 q (mk_ 4 (sz_ v 16) (mk_ 8 (sn_ v 16) c))) := by
  obtain ⟨X, hX, rfl⟩ := hx
  obtain ⟨Y, hY, rfl⟩ := hy
  obtain ⟨K, hK, rfl⟩ : ∃ K : Nat, K ≤ 1 ∧ k = nI K := by
    rcases hk with rfl | rfl
    · exact ⟨0, by omega, by decide⟩
    · exact ⟨1, by omega, by decide⟩
  obtain ⟨T, hT⟩ : ∃ T : Nat, T = X + 2 * 65536 - Y - K := ⟨_, rfl⟩
  have hs1 : -32768 ≤ s16_ X ∧ s16_ X < 32768 := by unfold s16_; split <;> omega
  have hs2 : -32768 ≤ s16_ Y ∧ s16_ Y < 32768 := by unfold s16_; split <;> omega
  have hs3 : -32768 ≤ s16_ (T % 65536) ∧ s16_ (T % 65536) < 32768 := by unfold s16_; split <;> omega
  have eT : nI X - nI Y - nI K + nI (2 * 65536) = nI T := by
    rw [nI_iI, nI_iI, nI_iI, nI_iI, nI_iI, iI_sub, iI_sub, iI_add]
    congr 1
    omega
  have eA : (nI X - nI Y - nI K) &&& 65535 = nI (T % 65536) := by
    rw [← and_a16, eT, pk_andN (by omega) 16 (by decide)]
  have eE : iI (s16_ X) - iI (s16_ Y) - nI K = iI (s16_ X - s16_ Y - K) := by rw [nI_iI, iI_sub, iI_sub]
  have hv : rw_ (nI (T % 65536)) := ⟨_, Nat.mod_lt _ (by decide), rfl⟩
  have key : (s16_ X - s16_ Y - K = s16_ (T % 65536)) ↔ ¬ (s16_ X - s16_ Y - K < -32768 ∨ 32768 ≤ s16_ X - s16_ Y - K) := by
    unfold s16_
    split <;> split <;> split <;> omega
  have so := so16 hv
  refine ⟨nI (T % 65536), mk_ 2 (decide (¬ (s16_ X - s16_ Y - K = s16_ (T % 65536)))) (mk_ 1 (decide (¬ (Y + K ≤ X))) (mk_ 4 (sz_ (nI (T % 65536)) 16) (mk_ 8 (sn_ (nI (T % 65536)) 16) c))), ?_, hv, rb_mk2 (rb_mk1 (rb_mk4 (rb_mk8 hc _) _) _) _, ?_, _, _, rfl⟩
  · rw [fl4 hc _ _ _ _ so.2]
    unfold tc_C_difference tc_C_difference_j35 tc_C_difference_j66 tc_G_setFlags
    rw [show tc_C_maskOf 2 = some 65535 from rfl, Option.bind_some, eA, so.1, Option.bind_some, nI_add]
    simp only [tc_signed2, Option.bind_some, t16_ hX, t16_ hY, t16_ (Nat.mod_lt T (show 0 < 65536 by decide)), eE]
    by_cases h1 : Y + K ≤ X <;> by_cases h2 : s16_ X - s16_ Y - K = s16_ (T % 65536)
    · rw [if_pos ((nI_leI (by omega) (by omega)).mpr h1), if_pos ((iI_eq (by omega) (by omega) (by omega) (by omega)).mpr h2), decide_eq_false (not_not_intro h1), decide_eq_false (not_not_intro h2)]
      rfl
    · rw [if_pos ((nI_leI (by omega) (by omega)).mpr h1), if_neg (fun q => h2 ((iI_eq (by omega) (by omega) (by omega) (by omega)).mp q)), decide_eq_false (not_not_intro h1), decide_eq_true h2]
      rfl
    · rw [if_neg (fun q => h1 ((nI_leI (by omega) (by omega)).mp q)), if_pos ((iI_eq (by omega) (by omega) (by omega) (by omega)).mpr h2), decide_eq_true h1, decide_eq_false (not_not_intro h2)]
      rfl
    · rw [if_neg (fun q => h1 ((nI_leI (by omega) (by omega)).mp q)), if_neg (fun q => h2 ((iI_eq (by omega) (by omega) (by omega) (by omega)).mp q)), decide_eq_true h1, decide_eq_true h2]
      rfl
  · unfold mo_difference mo_difference_j60 mo_difference_j84 mo_difference_j89
    rw [num16 hX, num16 hY, show (1 : Int32) <<< ((16 : Int32) &&& 31) = nI 65536 by decide, show (2 : Int32) * nI 65536 = nI (2 * 65536) by decide, eT, pk_rem (by omega) (by decide) (by decide), nI_add]
    simp only [Option.bind_some, mo_sign_eq, mo_mark_eq, eE]
    rw [if_neg (by decide), show (-(nI 65536)) / (2 : Int32) = iI (-32768) by decide, show nI 65536 / (2 : Int32) = iI 32768 by decide]
    by_cases h1 : Y + K ≤ X
    · rw [if_pos ((nI_leI (by omega) (by omega)).mpr h1), decide_eq_false (not_not_intro h1)]
      by_cases h2 : s16_ X - s16_ Y - K < -32768
      · rw [if_pos ((iI_lt (by omega) (by omega) (by omega) (by omega)).mpr h2), decide_eq_true (mt key.mp (not_not_intro (Or.inl h2)))]
      · rw [if_neg (fun q => h2 ((iI_lt (by omega) (by omega) (by omega) (by omega)).mp q))]
        by_cases h3 : 32768 ≤ s16_ X - s16_ Y - K
        · rw [if_neg (fun q => by have := (iI_lt (by omega) (by omega) (by omega) (by omega)).mp q; omega), decide_eq_true (mt key.mp (not_not_intro (Or.inr h3)))]
        · rw [if_pos ((iI_lt (by omega) (by omega) (by omega) (by omega)).mpr (by omega)), decide_eq_false (not_not_intro (key.mpr (by omega)))]
    · rw [if_neg (fun q => h1 ((nI_leI (by omega) (by omega)).mp q)), decide_eq_true h1]
      by_cases h2 : s16_ X - s16_ Y - K < -32768
      · rw [if_pos ((iI_lt (by omega) (by omega) (by omega) (by omega)).mpr h2), decide_eq_true (mt key.mp (not_not_intro (Or.inl h2)))]
      · rw [if_neg (fun q => h2 ((iI_lt (by omega) (by omega) (by omega) (by omega)).mp q))]
        by_cases h3 : 32768 ≤ s16_ X - s16_ Y - K
        · rw [if_neg (fun q => by have := (iI_lt (by omega) (by omega) (by omega) (by omega)).mp q; omega), decide_eq_true (mt key.mp (not_not_intro (Or.inr h3)))]
        · rw [if_pos ((iI_lt (by omega) (by omega) (by omega) (by omega)).mpr (by omega)), decide_eq_false (not_not_intro (key.mpr (by omega)))]
