/-! operate: the class's; byteOp, wordOp, save: the reference's. -/
def cp_ok (z : Int32 × Int32 × (Nat → Int32) × R9) (m : Option ((Nat → Int32) × (Nat → Int32) × Int32 × Bool)) : Prop :=
  (z.2.1 = -1 ∧ okB z.2.2.1 ∧ og_ z.2.2.2 ∧ m = some (z.2.2.1, rg_ z.2.2.2, z.1, false)) ∨ (z.2.1 = -2 ∧ okB z.2.2.1 ∧ ∃ (g0 : R9) (sp : Int32), m = some (z.2.2.1, rg_ g0, sp, true))
theorem cy_if {α : Type} (c : Int32) (f : Bool → Option α) : ((some (decide (¬ (c &&& 1) = 0))).bind fun z25 => if (bz_i z25) = (0 : Int32) then f false else f true) = f (yc_ c) := by
  unfold yc_
  by_cases h : (c &&& 1) = 0
  · rw [decide_eq_false (not_not_intro h)]; rfl
  · rw [decide_eq_true h]; rfl
section OP8
variable {cb : Nat → Int32} {a b d c x y u s p : Int32}
theorem a8_7 {k : Int32} (h : a8_ k) : ¬ k = 7 := by
  rcases h with rfl | rfl | rfl | rfl | rfl | rfl | rfl | rfl | rfl | rfl <;> decide
theorem op8_ok (hB : okB cb) (ho : ok_ a b d c x y u s p) {k q mode op : Int32} (py : Int32) (hk : a8_ k) (hq : q = 8 ∨ q = 9) (hm : md_ mode) (hop : op &&& 15 = k) : ∃ z, tc_P_operate k q mode py (-1) cb a b d c x y u s p = some z ∧ cp_ok z ((mo_byteOp_j14 op mode q cb (rf_ a b d c x y u s p) py false).bind fun t => some (cb, t.1, t.2.1, t.2.2)) := by
  have e1 : tc_P_operate k q mode py (-1) cb a b d c x y u s p = tc_P_operate_j23 k q mode 1 py (-1) cb a b d c x y u s p := by
    unfold tc_P_operate
    rw [show tc_G_sizeOf q = some 1 by rcases hq with rfl | rfl <;> rfl, Option.bind_some, if_neg (a8_7 hk)]
  obtain ⟨z, h1, h2⟩ := on_ok hB ho mode py false hm
  rw [e1]
  unfold tc_P_operate_j23
  have h1 : tc_P_operandAddress mode 1 py (-1) cb a b d c x y u s p = some z := h1
  rw [h1, Option.bind_some]
  unfold mo_byteOp_j14
  obtain ⟨ad, py1, po, a', b', d', c1, x', y', u', s', p'⟩ := z
  rcases h2 with ⟨g1, g2, m, py', g3, g4, g5⟩ | ⟨g1, w, rg, sp, g5⟩
  · dsimp only at g1 g2 g3 g5 ⊢
    have g3 : tc_P_load ad 1 py1 cb = some (m, py') := g3
    have g4 : rb_ m := g4
    have hr : ∃ r, tc_G_get q a' b' d' c1 x' y' u' s' p' = some r ∧ rb_ r ∧ rf_ a' b' d' c1 x' y' u' s' p' q.toNatClampNeg = r ∧ in_b q 12 = true ∧ vk_ q := by
      rcases hq with rfl | rfl
      · exact ⟨a', rfl, g2.1, rfl, rfl, by unfold vk_; decide⟩
      · exact ⟨b', rfl, g2.2.1, rfl, rfl, by unfold vk_; decide⟩
    obtain ⟨r, r1, r2, r3, r4, r5⟩ := hr
    obtain ⟨v, c', k1, k2, k3, k4⟩ := cal8 hk r2 g4 g2.2.2.2.1 q cb a' b' d' x' y' u' s' p' py'
    have hg' : ok_ a' b' d' c' x' y' u' s' p' := ⟨g2.1, g2.2.1, g2.2.2.1, k3, g2.2.2.2.2⟩
    obtain ⟨g9, n1, n2, n3⟩ := set_eq (v := v) r5 hg'
    rw [g5, Option.bind_some]
    dsimp only
    rw [if_pos (show bz_i false = 0 from rfl), if_pos r4, mo_flag_eq, cy_if c1 (fun t => mo_byteOp_j58 q (op &&& 15) m (rf_ a' b' d' c1 x' y' u' s' p' q.toNatClampNeg) t cb (rf_ a' b' d' c1 x' y' u' s' p') py' false), hop, r3, k4]
    rw [if_neg (by rw [g1]; decide), if_neg (a8_7 hk), g3, Option.bind_some, r1, Option.bind_some]
    dsimp only
    rw [k1, Option.bind_some]
    unfold mo_byteOp_j202
    by_cases q1 : k = 1
    · rw [if_pos q1, if_pos q1]
      exact ⟨_, rfl, Or.inl ⟨g1, hB, hg', rfl⟩⟩
    · by_cases q5 : k = 5
      · rw [if_neg q1, if_pos q5, if_neg q1, if_pos q5]
        exact ⟨_, rfl, Or.inl ⟨g1, hB, hg', rfl⟩⟩
      · rw [if_neg q1, if_neg q5, if_neg q1, if_neg q5, n1, n2]
        exact ⟨_, rfl, Or.inl ⟨g1, hB, n3, rfl⟩⟩
  · dsimp only at g1 g5 ⊢
    rw [if_pos g1, g5]
    exact ⟨_, rfl, Or.inr ⟨g1, hB, rg, sp, rfl⟩⟩
end OP8
