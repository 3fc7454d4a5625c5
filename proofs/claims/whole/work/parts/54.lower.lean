/-! The second page, changes in memory and in registers, branches. -/
section LOW
variable {cb : Nat → Int32} {a b d c x y u s p : Int32}
theorem sv_all (hB : okB cb) (ho : ok_ a b d c x y u s p) {q mode : Int32} (py : Int32) (hq : wq_ q) (hm : md_ mode) : ∃ z, tc_P_operate 7 q mode py (-1) cb a b d c x y u s p = some z ∧ cp_ok z (mo_save mode q cb (rf_ a b d c x y u s p) py false) := by
  rcases hm with rfl | hm
  · refine sv_bad hB q py ?_
    rcases hq with rfl | rfl | rfl | rfl | rfl <;> (unfold vk_; decide)
  · exact sv16 hB ho py hq hm
theorem o_eta4 (o : Option ((Nat → Int32) × (Nat → Int32) × Int32 × Bool)) : (o.bind fun z => some (z.1, z.2.1, z.2.2.1, z.2.2.2)) = o := by
  cases o <;> rfl
theorem sp_bad (hB : okB cb) (py : Int32) : ∃ z, tc_P_doSecondPage_j43 py (-1) cb a b d c x y u s p = some z ∧ cp_ok z (some (cb, rf_ a b d c x y u s p, py, true)) :=
  ⟨_, rfl, Or.inr ⟨rfl, hB, (a, b, d, c, x, y, u, s, p), py, rfl⟩⟩
theorem sp_in (hB : okB cb) (ho : ok_ a b d c x y u s p) {v mode : Int32} (py : Int32) (low : Bool) (hm : md_ mode) : ∃ z, tc_P_doSecondPage_j18 v mode (!low) py (-1) cb a b d c x y u s p = some z ∧ cp_ok z (mo_second_j28 v mode (v &&& 15) low cb (rf_ a b d c x y u s p) py false) := by
  have hw0 : wq_ 0 := Or.inl rfl
  have hw2 : wq_ 2 := Or.inr (Or.inr (Or.inl rfl))
  have hw4 : wq_ 4 := Or.inr (Or.inr (Or.inr (Or.inr rfl)))
  unfold tc_P_doSecondPage_j18 mo_second_j28
  by_cases h128 : (128 : Int32) ≤ v
  · rw [if_neg (Int32.not_lt.mpr h128), if_pos h128]
    cases low with
    | false =>
      rw [if_neg (show ¬ bz_i (!false) = 0 by decide), if_pos (show bz_i false = 0 from rfl)]
      rcases c16 v with h | h | h | h | h | h | h | h | h | h | h | h | h | h | h | h
      all_goals rw [h]
      all_goals first
        | exact sp_bad hB py
        | skip
      · obtain ⟨z, h1, h2⟩ := wl_ok hB ho py hw4 hm
        refine ⟨z, ?_, h2⟩
        show ((tc_P_operate 6 4 mode py (-1) cb a b d c x y u s p).bind _) = _
        rw [h1]
        rfl
      · obtain ⟨z, h1, h2⟩ := sv_all hB ho py hw4 hm
        refine ⟨z, ?_, ?_⟩
        · show ((tc_P_operate 7 4 mode py (-1) cb a b d c x y u s p).bind _) = _
          rw [h1]
          rfl
        · show cp_ok z ((mo_save mode 4 cb (rf_ a b d c x y u s p) py false).bind _)
          rw [o_eta4]
          exact h2
    | true =>
      rw [if_pos (show bz_i (!true) = 0 from rfl), if_neg (show ¬ bz_i true = 0 by decide)]
      rcases c16 v with h | h | h | h | h | h | h | h | h | h | h | h | h | h | h | h
      all_goals rw [h]
      all_goals first
        | exact sp_bad hB py
        | skip
      · obtain ⟨z, h1, h2⟩ := wc_ok hB ho py hw0 hm
        refine ⟨z, ?_, h2⟩
        show ((tc_P_operate 1 0 mode py (-1) cb a b d c x y u s p).bind _) = _
        rw [h1]
        rfl
      · obtain ⟨z, h1, h2⟩ := wc_ok hB ho py hw2 hm
        refine ⟨z, ?_, h2⟩
        show ((tc_P_operate 1 2 mode py (-1) cb a b d c x y u s p).bind _) = _
        rw [h1]
        rfl
      · obtain ⟨z, h1, h2⟩ := wl_ok hB ho py hw2 hm
        refine ⟨z, ?_, h2⟩
        show ((tc_P_operate 6 2 mode py (-1) cb a b d c x y u s p).bind _) = _
        rw [h1]
        rfl
      · obtain ⟨z, h1, h2⟩ := sv_all hB ho py hw2 hm
        refine ⟨z, ?_, ?_⟩
        · show ((tc_P_operate 7 2 mode py (-1) cb a b d c x y u s p).bind _) = _
          rw [h1]
          rfl
        · show cp_ok z ((mo_save mode 2 cb (rf_ a b d c x y u s p) py false).bind _)
          rw [o_eta4]
          exact h2
  · rw [if_pos (Int32.not_le.mp h128), if_neg h128]
    exact sp_bad hB py
/-- a change in memory -/
theorem cm_bad (hB : okB cb) (ho : ok_ a b d c x y u s p) {k mode gv : Int32} (py : Int32) (hm : mode = 1 ∨ mode = 2 ∨ mode = 3) (hk : tc_P_isChange k = some false) (h14 : ¬ k = 14) (hmo : mo_lower_j24 k gv false cb (rf_ a b d c x y u s p) py false = some (cb, rf_ a b d c x y u s p, py, true)) : ∃ z, tc_P_changeMemory k mode py (-1) cb a b d c x y u s p = some z ∧ cp_ok z (mo_lower_j24 k gv false cb (rf_ a b d c x y u s p) py false) := by
  obtain ⟨z, h1, -⟩ := oa_ok hB ho mode 1 py hm
  refine ⟨(z.2.1, -2, cb, z.2.2.2), ?_, Or.inr ⟨rfl, hB, (a, b, d, c, x, y, u, s, p), py, hmo⟩⟩
  unfold tc_P_changeMemory
  rw [h1, Option.bind_some, hk, Option.bind_some, if_pos (show bz_i false = 0 from rfl), if_neg h14]
  rfl
theorem cm_good (hB : okB cb) (ho : ok_ a b d c x y u s p) {k mode gv : Int32} (py : Int32) (hm : mode = 1 ∨ mode = 2 ∨ mode = 3) (hk : kc_ k) (hc : tc_P_isChange k = some true) (hmo : mo_lower_j24 k gv false cb (rf_ a b d c x y u s p) py false = mo_lower_j143 k mode cb (rf_ a b d c x y u s p) py false) : ∃ z, tc_P_changeMemory k mode py (-1) cb a b d c x y u s p = some z ∧ cp_ok z (mo_lower_j24 k gv false cb (rf_ a b d c x y u s p) py false) := by
  have h14 : ¬ k = 14 := by rcases hk with rfl | rfl | rfl | rfl | rfl | rfl | rfl | rfl | rfl | rfl | rfl <;> decide
  obtain ⟨z, h1, h2⟩ := oa_ok hB ho mode 1 py hm
  rw [hmo]
  unfold tc_P_changeMemory mo_lower_j143
  rw [h1, Option.bind_some, hc, Option.bind_some, if_neg (show ¬ bz_i true = 0 by decide)]
  unfold tc_P_changeMemory_j26
  obtain ⟨ad, py1, po, a', b', d', c1, x', y', u', s', p'⟩ := z
  rcases h2 with ⟨g1, g2, g3, g4⟩ | ⟨g1, w, g0, sp, g4⟩
  · dsimp only at g1 g2 g3 g4 ⊢
    rw [g4, Option.bind_some, if_neg (by rw [g1]; decide), if_neg h14]
    dsimp only
    rw [if_pos (show bz_i false = 0 from rfl), if_neg h14]
    have tail : ∀ (m py2 : Int32), rb_ m → ∃ z, tc_P_changeMemory_j69 k ad m k py2 po cb a' b' d' c1 x' y' u' s' p' = some z ∧ cp_ok z (mo_lower_j187 k ad m cb (rf_ a' b' d' c1 x' y' u' s' p') py2 false) := by
      intro m py2 hm2
      obtain ⟨v, c', k1, k2, k3, k4⟩ := ch_ok hk hm2 g3.2.2.2.1 a' b' d' x' y' u' s' p'
      have hg' : ok_ a' b' d' c' x' y' u' s' p' := ⟨g3.1, g3.2.1, g3.2.2.1, k3, g3.2.2.2.2⟩
      unfold tc_P_changeMemory_j69 mo_lower_j187
      rw [k1, Option.bind_some, k4, Option.bind_some]
      dsimp only
      by_cases h13 : k = 13
      · rw [if_pos h13, if_pos h13]
        exact ⟨_, rfl, Or.inl ⟨g1, hB, hg', rfl⟩⟩
      · rw [if_neg h13, if_neg h13]
        unfold tc_P_store
        rw [tc_store1, mo_store1]
        exact ⟨_, rfl, Or.inl ⟨g1, wr_ok hB _ _, hg', rfl⟩⟩
    by_cases h15 : k = 15
    · rw [if_pos h15, if_pos h15]
      exact tail 0 py1 rb_0
    · rw [if_neg h15, if_neg h15]
      unfold tc_P_load
      rw [tc_load1, mo_load1]
      exact tail (rd_ cb ad) (py1 + 1) (rd_ok hB _)
  · dsimp only at g1 g4 ⊢
    rw [g4, Option.bind_some, if_pos g1]
    exact ⟨_, rfl, Or.inr ⟨g1, hB, g0, sp, rfl⟩⟩
theorem cm_jump (hB : okB cb) (ho : ok_ a b d c x y u s p) {mode gv : Int32} (py : Int32) (hm : mode = 1 ∨ mode = 2 ∨ mode = 3) (hmo : mo_lower_j24 14 gv false cb (rf_ a b d c x y u s p) py false = mo_lower_j143 14 mode cb (rf_ a b d c x y u s p) py false) : ∃ z, tc_P_changeMemory 14 mode py (-1) cb a b d c x y u s p = some z ∧ cp_ok z (mo_lower_j24 14 gv false cb (rf_ a b d c x y u s p) py false) := by
  obtain ⟨z, h1, h2⟩ := oa_ok hB ho mode 1 py hm
  rw [hmo]
  unfold tc_P_changeMemory mo_lower_j143
  rw [h1, Option.bind_some, show tc_P_isChange 14 = some false from rfl, Option.bind_some, if_pos (show bz_i false = 0 from rfl), if_pos rfl]
  unfold tc_P_changeMemory_j26
  obtain ⟨ad, py1, po, a', b', d', c1, x', y', u', s', p'⟩ := z
  rcases h2 with ⟨g1, g2, g3, g4⟩ | ⟨g1, w, g0, sp, g4⟩
  · dsimp only at g1 g2 g3 g4 ⊢
    rw [g4, Option.bind_some, if_neg (by rw [g1]; decide), if_pos rfl]
    dsimp only
    rw [if_pos (show bz_i false = 0 from rfl), if_pos rfl, mo_set5, rw_id g2]
    refine ⟨_, rfl, Or.inl ⟨g1, hB, ?_, rfl⟩⟩
    exact ⟨g3.1, g3.2.1, g3.2.2.1, g3.2.2.2.1, g3.2.2.2.2.1, g3.2.2.2.2.2.1, g3.2.2.2.2.2.2.1, g3.2.2.2.2.2.2.2.1, g2⟩
  · dsimp only at g1 g4 ⊢
    rw [g4, Option.bind_some, if_pos g1]
    exact ⟨_, rfl, Or.inr ⟨g1, hB, g0, sp, rfl⟩⟩
theorem cm_ok (hB : okB cb) (ho : ok_ a b d c x y u s p) {mode gv : Int32} (op py : Int32) (hg : (gv = 0 ∧ mode = 1) ∨ (gv = 6 ∧ mode = 2) ∨ (gv = 7 ∧ mode = 3)) : ∃ z, tc_P_changeMemory (op &&& 15) mode py (-1) cb a b d c x y u s p = some z ∧ cp_ok z (mo_lower_j24 (op &&& 15) gv false cb (rf_ a b d c x y u s p) py false) := by
  have hm : mode = 1 ∨ mode = 2 ∨ mode = 3 := by
    rcases hg with ⟨-, h⟩ | ⟨-, h⟩ | ⟨-, h⟩
    · exact Or.inl h
    · exact Or.inr (Or.inl h)
    · exact Or.inr (Or.inr h)
  have kc : ∀ k, (k = 0 ∨ k = 3 ∨ k = 4 ∨ k = 6 ∨ k = 7 ∨ k = 8 ∨ k = 9 ∨ k = 10 ∨ k = 12 ∨ k = 13 ∨ k = 14 ∨ k = 15) → mo_lower_j24 k gv false cb (rf_ a b d c x y u s p) py false = mo_lower_j143 k mode cb (rf_ a b d c x y u s p) py false := by
    intro k hk
    rcases hg with ⟨rfl, rfl⟩ | ⟨rfl, rfl⟩ | ⟨rfl, rfl⟩ <;> rcases hk with rfl | rfl | rfl | rfl | rfl | rfl | rfl | rfl | rfl | rfl | rfl | rfl <;> rfl
  rcases c16 op with h | h | h | h | h | h | h | h | h | h | h | h | h | h | h | h
  all_goals rw [h]
  all_goals first
    | exact cm_bad hB ho py hm rfl (by decide) (by rfl)
    | exact cm_jump hB ho py hm (kc 14 (by decide))
    | exact cm_good hB ho py hm (by unfold kc_; decide) rfl (kc _ (by decide))
/-- a change in A or B -/
theorem cr_ok (ho : ok_ a b d c x y u s p) {q gv : Int32} (op py : Int32) (hg : (gv = 4 ∧ q = 8) ∨ (gv = 5 ∧ q = 9)) : ∃ (po' : Int32) (g' : R9), tc_P_changeRegister (op &&& 15) q (-1) a b d c x y u s p = some (po', g') ∧ ((po' = -1 ∧ og_ g' ∧ mo_lower_j24 (op &&& 15) gv true cb (rf_ a b d c x y u s p) py false = some (cb, rg_ g', py, false)) ∨ (po' = -2 ∧ ∃ (g0 : R9) (sp : Int32), mo_lower_j24 (op &&& 15) gv true cb (rf_ a b d c x y u s p) py false = some (cb, rg_ g0, sp, true))) := by
  have bad : ∀ k, tc_P_isChange k = some false → mo_lower_j24 k gv true cb (rf_ a b d c x y u s p) py false = some (cb, rf_ a b d c x y u s p, py, true) → ∃ (po' : Int32) (g' : R9), tc_P_changeRegister k q (-1) a b d c x y u s p = some (po', g') ∧ ((po' = -1 ∧ og_ g' ∧ mo_lower_j24 k gv true cb (rf_ a b d c x y u s p) py false = some (cb, rg_ g', py, false)) ∨ (po' = -2 ∧ ∃ (g0 : R9) (sp : Int32), mo_lower_j24 k gv true cb (rf_ a b d c x y u s p) py false = some (cb, rg_ g0, sp, true))) := by
    intro k h1 h2
    refine ⟨-2, (a, b, d, c, x, y, u, s, p), ?_, Or.inr ⟨rfl, (a, b, d, c, x, y, u, s, p), py, h2⟩⟩
    unfold tc_P_changeRegister
    rw [h1]
    rfl
  have good : ∀ k, kc_ k → tc_P_isChange k = some true → mo_lower_j24 k gv true cb (rf_ a b d c x y u s p) py false = ((mo_changed k (rf_ a b d c x y u s p q.toNatClampNeg) (rf_ a b d c x y u s p)).bind fun z24 => if k = (13 : Int32) then some (cb, z24.2, py, false) else (mo_set q z24.1 z24.2).bind fun z25 => some (cb, z25, py, false)) → ∃ (po' : Int32) (g' : R9), tc_P_changeRegister k q (-1) a b d c x y u s p = some (po', g') ∧ ((po' = -1 ∧ og_ g' ∧ mo_lower_j24 k gv true cb (rf_ a b d c x y u s p) py false = some (cb, rg_ g', py, false)) ∨ (po' = -2 ∧ ∃ (g0 : R9) (sp : Int32), mo_lower_j24 k gv true cb (rf_ a b d c x y u s p) py false = some (cb, rg_ g0, sp, true))) := by
    intro k hk h1 h2
    have hr : ∃ r, tc_G_get q a b d c x y u s p = some r ∧ rb_ r ∧ rf_ a b d c x y u s p q.toNatClampNeg = r ∧ vk_ q := by
      rcases hg with ⟨-, rfl⟩ | ⟨-, rfl⟩
      · exact ⟨a, rfl, ho.1, rfl, by unfold vk_; decide⟩
      · exact ⟨b, rfl, ho.2.1, rfl, by unfold vk_; decide⟩
    obtain ⟨r, r1, r2, r3, r4⟩ := hr
    obtain ⟨v, c', k1, k2, k3, k4⟩ := ch_ok hk r2 ho.2.2.2.1 a b d x y u s p
    have hg' : ok_ a b d c' x y u s p := ⟨ho.1, ho.2.1, ho.2.2.1, k3, ho.2.2.2.2⟩
    obtain ⟨g9, n1, n2, n3⟩ := set_eq (v := v) r4 hg'
    refine ⟨-1, g9, ?_, Or.inl ⟨rfl, n3, ?_⟩⟩
    · unfold tc_P_changeRegister
      rw [h1, Option.bind_some, if_neg (show ¬ bz_i true = 0 by decide), r1, Option.bind_some, k1, Option.bind_some]
      dsimp only
      rw [n1]
      rfl
    · rw [h2, r3, k4, Option.bind_some]
      dsimp only
      by_cases h13 : k = 13
      · rw [if_pos h13]
        subst h13
        have hv : v = r := by
          obtain ⟨c2, q1, -⟩ := plain8 r2 ho.2.2.2.1 a b d x y u s p
          have : tc_P_changed 13 r c = (tc_C_plain r 1 c).bind fun z40 => some (z40.1, z40.2) := rfl
          rw [this, q1] at k1
          cases k1
          rfl
        subst hv
        have e : rg_ g9 = rf_ a b d c' x y u s p := by
          have : mo_set q v (rf_ a b d c' x y u s p) = some (rf_ a b d c' x y u s p) := by
            rcases hg with ⟨-, rfl⟩ | ⟨-, rfl⟩
            · have : v = a := r3.symm
              subst this
              show some (upd _ 8 _) = _
              rw [rf_8, rb_id r2]
            · have : v = b := r3.symm
              subst this
              show some (upd _ 9 _) = _
              rw [rf_9, rb_id r2]
          rw [n2] at this
          exact Option.some.inj this
        rw [e]
      · rw [if_neg h13, n2]
        rfl
  rcases c16 op with h | h | h | h | h | h | h | h | h | h | h | h | h | h | h | h
  all_goals rw [h]
  all_goals first
    | exact bad _ rfl (by rfl)
    | exact good _ (by unfold kc_; decide) rfl (by rcases hg with ⟨rfl, rfl⟩ | ⟨rfl, rfl⟩ <;> rfl)
end LOW
theorem ho_all : ∀ k, k < 16 → ∀ m, m < 256 → (mo_holds (nI k &&& 14) (fun _ => nI m)).bind (fun t => some (t == decide ((nI k - nI k / 2 * 2) = 0))) = tc_P_holds (nI k) (nI m) := by decide +kernel
