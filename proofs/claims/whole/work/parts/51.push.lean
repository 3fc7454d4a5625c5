/-! One push, one pull; then the lists of them. -/
def pn_ (n : Int32) : Prop := n = 10 ∨ n = 8 ∨ n = 9 ∨ n = 11 ∨ n = 1 ∨ n = 2 ∨ n = 3 ∨ n = 4 ∨ n = 5
def ts_ (st : Int32) : Prop := st = 4 ∨ st = 3
theorem pn_vk {n : Int32} (h : pn_ n) : vk_ n := by
  rcases h with rfl | rfl | rfl | rfl | rfl | rfl | rfl | rfl | rfl <;> (unfold vk_; decide)
theorem ts_vk {n : Int32} (h : ts_ n) : vk_ n := by
  rcases h with rfl | rfl <;> (unfold vk_; decide)
/-- a register that isn't D: the class's get is the reference's array -/
theorem get_rg {n : Int32} (h : pn_ n) (g : R9) : tc_G_get n g.1 g.2.1 g.2.2.1 g.2.2.2.1 g.2.2.2.2.1 g.2.2.2.2.2.1 g.2.2.2.2.2.2.1 g.2.2.2.2.2.2.2.1 g.2.2.2.2.2.2.2.2 = some (rg_ g n.toNatClampNeg) ∧ in_b n 12 = true ∧ tc_G_sizeOf n = some (if (8 : Int32) ≤ n then 1 else 2) := by
  rcases h with rfl | rfl | rfl | rfl | rfl | rfl | rfl | rfl | rfl <;> exact ⟨rfl, rfl, rfl⟩
theorem ts_pn {n : Int32} (h : ts_ n) : pn_ n := by
  rcases h with rfl | rfl
  · exact Or.inr (Or.inr (Or.inr (Or.inr (Or.inr (Or.inr (Or.inr (Or.inl rfl)))))))
  · exact Or.inr (Or.inr (Or.inr (Or.inr (Or.inr (Or.inr (Or.inl rfl))))))
/-- a set without ranges -/
theorem set_rg {k : Int32} (v : Int32) (hk : pn_ k) (g : R9) : ∃ g' : R9, tc_G_set k v g.1 g.2.1 g.2.2.1 g.2.2.2.1 g.2.2.2.2.1 g.2.2.2.2.2.1 g.2.2.2.2.2.2.1 g.2.2.2.2.2.2.2.1 g.2.2.2.2.2.2.2.2 = some g' ∧ mo_set k v (rg_ g) = some (rg_ g') ∧ rg_ g' = upd (rg_ g) k.toNatClampNeg (if (8 : Int32) ≤ k then v &&& 255 else v &&& 65535) := by
  rcases hk with rfl | rfl | rfl | rfl | rfl | rfl | rfl | rfl | rfl
  · exact ⟨_, rfl, congrArg some (rf_10 ..), (rf_10 ..).symm⟩
  · exact ⟨_, rfl, congrArg some (rf_8 ..), (rf_8 ..).symm⟩
  · exact ⟨_, rfl, congrArg some (rf_9 ..), (rf_9 ..).symm⟩
  · exact ⟨_, rfl, congrArg some (rf_11 ..), (rf_11 ..).symm⟩
  · exact ⟨_, rfl, congrArg some (rf_1 ..), (rf_1 ..).symm⟩
  · exact ⟨_, rfl, congrArg some (rf_2 ..), (rf_2 ..).symm⟩
  · exact ⟨_, rfl, congrArg some (rf_3 ..), (rf_3 ..).symm⟩
  · exact ⟨_, rfl, congrArg some (rf_4 ..), (rf_4 ..).symm⟩
  · exact ⟨_, rfl, congrArg some (rf_5 ..), (rf_5 ..).symm⟩
theorem mo_set_pn {k : Int32} (v : Int32) (hk : pn_ k) (rg : Nat → Int32) : mo_set k v rg = some (upd rg k.toNatClampNeg (if (8 : Int32) ≤ k then v &&& 255 else v &&& 65535)) := by
  rcases hk with rfl | rfl | rfl | rfl | rfl | rfl | rfl | rfl | rfl <;> rfl
theorem push1 {cb : Nat → Int32} (hB : okB cb) {st n : Int32} (hs : ts_ st) (hn : pn_ n) (g : R9) (sp : Int32) : ∃ (sz v1 v2 v3 : Int32) (g' : R9) (cb' : Nat → Int32), tc_G_sizeOf n = some sz ∧
    tc_G_get st g.1 g.2.1 g.2.2.1 g.2.2.2.1 g.2.2.2.2.1 g.2.2.2.2.2.1 g.2.2.2.2.2.2.1 g.2.2.2.2.2.2.2.1 g.2.2.2.2.2.2.2.2 = some v1 ∧
    tc_G_set st (v1 - sz) g.1 g.2.1 g.2.2.1 g.2.2.2.1 g.2.2.2.2.1 g.2.2.2.2.2.1 g.2.2.2.2.2.2.1 g.2.2.2.2.2.2.2.1 g.2.2.2.2.2.2.2.2 = some g' ∧
    tc_G_get st g'.1 g'.2.1 g'.2.2.1 g'.2.2.2.1 g'.2.2.2.2.1 g'.2.2.2.2.2.1 g'.2.2.2.2.2.2.1 g'.2.2.2.2.2.2.2.1 g'.2.2.2.2.2.2.2.2 = some v2 ∧
    tc_G_get n g'.1 g'.2.1 g'.2.2.1 g'.2.2.2.1 g'.2.2.2.2.1 g'.2.2.2.2.2.1 g'.2.2.2.2.2.2.1 g'.2.2.2.2.2.2.2.1 g'.2.2.2.2.2.2.2.2 = some v3 ∧
    tc_Y_store v2 v3 sz cb = some cb' ∧ okB cb' ∧ (og_ g → og_ g') ∧ mo_push st n cb (rg_ g) sp = some (cb', rg_ g', sp + sz) := by
  obtain ⟨e1, e2, -⟩ := get_rg (ts_pn hs) g
  obtain ⟨-, e5, e6⟩ := get_rg hn g
  have key : ∀ sz : Int32, sz = (if (8 : Int32) ≤ n then 1 else 2) → ∃ g' : R9, tc_G_set st (rg_ g st.toNatClampNeg - sz) g.1 g.2.1 g.2.2.1 g.2.2.2.1 g.2.2.2.2.1 g.2.2.2.2.2.1 g.2.2.2.2.2.2.1 g.2.2.2.2.2.2.2.1 g.2.2.2.2.2.2.2.2 = some g' ∧ mo_set st (rg_ g st.toNatClampNeg - sz) (rg_ g) = some (rg_ g') ∧ (og_ g → og_ g') := by
    intro sz _
    obtain ⟨g', h1, h2, -⟩ := set_rg (rg_ g st.toNatClampNeg - sz) (ts_pn hs) g
    refine ⟨g', h1, h2, fun ho => ?_⟩
    obtain ⟨g2, q1, q2, q3⟩ := set_eq (v := rg_ g st.toNatClampNeg - sz) (ts_vk hs) ho
    rw [h1] at q1
    cases q1
    exact q3
  by_cases h8 : (8 : Int32) ≤ n
  · obtain ⟨g', h1, h2, h3⟩ := key 1 (by rw [if_pos h8])
    obtain ⟨f1, -, -⟩ := get_rg (ts_pn hs) g'
    obtain ⟨f2, -, -⟩ := get_rg hn g'
    refine ⟨1, _, _, _, g', _, by rw [e6, if_pos h8], e1, h1, f1, f2, tc_store1 .., wr_ok hB _ _, h3, ?_⟩
    unfold mo_push
    rw [if_pos h8]
    unfold mo_push_j11 mo_push_j29
    rw [if_pos e2, if_pos (show bz_i false = 0 from rfl), h2, Option.bind_some, if_pos e2, if_pos e5, mo_store1]
    rfl
  · obtain ⟨g', h1, h2, h3⟩ := key 2 (by rw [if_neg h8])
    obtain ⟨f1, -, -⟩ := get_rg (ts_pn hs) g'
    obtain ⟨f2, -, -⟩ := get_rg hn g'
    refine ⟨2, _, _, _, g', _, by rw [e6, if_neg h8], e1, h1, f1, f2, tc_store2 .., wr2_ok hB _ _, h3, ?_⟩
    unfold mo_push
    rw [if_neg h8]
    unfold mo_push_j11 mo_push_j29
    rw [if_pos e2, if_neg (show ¬ bz_i true = 0 by decide), h2, Option.bind_some, if_pos e2, if_pos e5, mo_store2]
    rfl
theorem upd_ne {f : Nat → Int32} {i j : Nat} {v : Int32} (h : j ≠ i) : upd f i v j = f j := by
  unfold upd
  rw [if_neg h]
theorem upd_eq {f : Nat → Int32} {i : Nat} {v : Int32} : upd f i v i = v := by
  unfold upd
  rw [if_pos rfl]
def okN (k : Nat) (rg : Nat → Int32) : Prop := if k < 8 then rw_ (rg k) else rb_ (rg k)
theorem okN_upd {rg : Nat → Int32} {k : Int32} (hk : pn_ k) (v : Int32) : okN k.toNatClampNeg (upd rg k.toNatClampNeg (if (8 : Int32) ≤ k then v &&& 255 else v &&& 65535)) := by
  unfold okN
  rw [upd_eq]
  rcases hk with rfl | rfl | rfl | rfl | rfl | rfl | rfl | rfl | rfl
  · exact rb_and v
  · exact rb_and v
  · exact rb_and v
  · exact rb_and v
  · exact rw_and v
  · exact rw_and v
  · exact rw_and v
  · exact rw_and v
  · exact rw_and v
theorem okN_keep {rg : Nat → Int32} {i : Nat} {k : Int32} (hk : pn_ k) (v : Int32) (h : okN i rg) : okN i (upd rg k.toNatClampNeg (if (8 : Int32) ≤ k then v &&& 255 else v &&& 65535)) := by
  by_cases q : i = k.toNatClampNeg
  · rw [q]
    exact okN_upd hk v
  · unfold okN at h ⊢
    rw [upd_ne q]
    exact h
theorem pull1 {cb : Nat → Int32} (hB : okB cb) {st n : Int32} (hs : ts_ st) (hn : pn_ n) (hne : n ≠ st) (g : R9) (sp : Int32) : ∃ (sz v1 v2 v3 : Int32) (g1 g' : R9), tc_G_sizeOf n = some sz ∧
    tc_G_get st g.1 g.2.1 g.2.2.1 g.2.2.2.1 g.2.2.2.2.1 g.2.2.2.2.2.1 g.2.2.2.2.2.2.1 g.2.2.2.2.2.2.2.1 g.2.2.2.2.2.2.2.2 = some v1 ∧
    tc_Y_load v1 sz cb = some v2 ∧
    tc_G_set n v2 g.1 g.2.1 g.2.2.1 g.2.2.2.1 g.2.2.2.2.1 g.2.2.2.2.2.1 g.2.2.2.2.2.2.1 g.2.2.2.2.2.2.2.1 g.2.2.2.2.2.2.2.2 = some g1 ∧
    tc_G_get st g1.1 g1.2.1 g1.2.2.1 g1.2.2.2.1 g1.2.2.2.2.1 g1.2.2.2.2.2.1 g1.2.2.2.2.2.2.1 g1.2.2.2.2.2.2.2.1 g1.2.2.2.2.2.2.2.2 = some v3 ∧
    tc_G_set st (v3 + sz) g1.1 g1.2.1 g1.2.2.1 g1.2.2.2.1 g1.2.2.2.2.1 g1.2.2.2.2.2.1 g1.2.2.2.2.2.2.1 g1.2.2.2.2.2.2.2.1 g1.2.2.2.2.2.2.2.2 = some g' ∧
    mo_pull st n cb (rg_ g) sp = some (rg_ g', sp + sz) ∧ okN n.toNatClampNeg (rg_ g') ∧ okN st.toNatClampNeg (rg_ g') ∧ (∀ i, okN i (rg_ g) → okN i (rg_ g')) := by
  obtain ⟨e1, e2, -⟩ := get_rg (ts_pn hs) g
  obtain ⟨-, e5, e6⟩ := get_rg hn g
  have hneN : st.toNatClampNeg ≠ n.toNatClampNeg := by
    rcases hs with rfl | rfl <;> rcases hn with rfl | rfl | rfl | rfl | rfl | rfl | rfl | rfl | rfl <;> first | decide | exact absurd rfl hne
  have key : ∀ (sz v2 : Int32), ∃ g1 g' : R9, tc_G_set n v2 g.1 g.2.1 g.2.2.1 g.2.2.2.1 g.2.2.2.2.1 g.2.2.2.2.2.1 g.2.2.2.2.2.2.1 g.2.2.2.2.2.2.2.1 g.2.2.2.2.2.2.2.2 = some g1 ∧
      tc_G_get st g1.1 g1.2.1 g1.2.2.1 g1.2.2.2.1 g1.2.2.2.2.1 g1.2.2.2.2.2.1 g1.2.2.2.2.2.2.1 g1.2.2.2.2.2.2.2.1 g1.2.2.2.2.2.2.2.2 = some (rg_ g st.toNatClampNeg) ∧
      tc_G_set st (rg_ g st.toNatClampNeg + sz) g1.1 g1.2.1 g1.2.2.1 g1.2.2.2.1 g1.2.2.2.2.1 g1.2.2.2.2.2.1 g1.2.2.2.2.2.2.1 g1.2.2.2.2.2.2.2.1 g1.2.2.2.2.2.2.2.2 = some g' ∧
      ((mo_set st (rg_ g st.toNatClampNeg + sz) (rg_ g)).bind fun z9 => mo_set n v2 z9) = some (rg_ g') ∧ okN n.toNatClampNeg (rg_ g') ∧ okN st.toNatClampNeg (rg_ g') ∧ (∀ i, okN i (rg_ g) → okN i (rg_ g')) := by
    intro sz v2
    obtain ⟨g1, h1, -, h3⟩ := set_rg v2 hn g
    obtain ⟨f1, -, -⟩ := get_rg (ts_pn hs) g1
    obtain ⟨g', k1, -, k3⟩ := set_rg (rg_ g st.toNatClampNeg + sz) (ts_pn hs) g1
    refine ⟨g1, g', h1, ?_, k1, ?_, ?_, ?_, ?_⟩
    · rw [f1, h3, upd_ne hneN]
    · rw [mo_set_pn _ (ts_pn hs), Option.bind_some, mo_set_pn _ hn, k3, h3, upd_comm hneN]
    · rw [k3]
      exact okN_keep (ts_pn hs) _ (by rw [h3]; exact okN_upd hn _)
    · rw [k3]
      exact okN_upd (ts_pn hs) _
    · intro i hi
      rw [k3]
      exact okN_keep (ts_pn hs) _ (by rw [h3]; exact okN_keep hn _ hi)
  by_cases h8 : (8 : Int32) ≤ n
  · obtain ⟨g1, g', h1, h2, h3, h4, h5⟩ := key 1 (rd_ cb (rg_ g st.toNatClampNeg))
    refine ⟨1, _, _, _, g1, g', by rw [e6, if_pos h8], e1, tc_load1 .., h1, h2, h3, ?_, h5⟩
    obtain ⟨z9, q1, q2⟩ := Option.bind_eq_some_iff.mp h4
    unfold mo_pull
    rw [if_pos h8]
    unfold mo_pull_j11 mo_pull_j42
    rw [if_pos e2, mo_load1, Option.bind_some, if_pos (show bz_i false = 0 from rfl)]
    dsimp only
    rw [q1, Option.bind_some, q2]
    rfl
  · obtain ⟨g1, g', h1, h2, h3, h4, h5⟩ := key 2 (rd2_ cb (rg_ g st.toNatClampNeg))
    refine ⟨2, _, _, _, g1, g', by rw [e6, if_neg h8], e1, tc_load2' hB _, h1, h2, h3, ?_, h5⟩
    obtain ⟨z9, q1, q2⟩ := Option.bind_eq_some_iff.mp h4
    unfold mo_pull
    rw [if_neg h8]
    unfold mo_pull_j11 mo_pull_j42
    rw [if_pos e2, mo_load2, Option.bind_some, if_neg (show ¬ bz_i true = 0 by decide)]
    dsimp only
    rw [q1, Option.bind_some, q2]
    rfl
