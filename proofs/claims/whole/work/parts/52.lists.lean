/-! Lists of pushes and pulls: the loops of both sides are one recursion. -/
def nm_ (st : Int32) (t : Nat) : Int32 := match t with
  | 0 => 10
  | 1 => 8
  | 2 => 9
  | 3 => 11
  | 4 => 1
  | 5 => 2
  | 6 => if st = 3 then 4 else 3
  | _ => 5
def pu_ (st ch : Int32) : Nat → (Nat → Int32) → (Nat → Int32) → Int32 → Option ((Nat → Int32) × (Nat → Int32) × Int32)
  | 0, me, rg, sp => some (me, rg, sp)
  | t + 1, me, rg, sp => if ((ch >>> (nI t &&& 31)) &&& 1) = 1 then (mo_push st (nm_ st t) me rg sp).bind fun z => pu_ st ch t z.1 z.2.1 z.2.2 else pu_ st ch t me rg sp
def pl_ (st ch : Int32) : Nat → (Nat → Int32) → (Nat → Int32) → Int32 → Option ((Nat → Int32) × Int32)
  | 0, _, rg, sp => some (rg, sp)
  | t + 1, me, rg, sp => if ((ch >>> (nI (7 - t) &&& 31)) &&& 1) = 1 then (mo_pull st (nm_ st (7 - t)) me rg sp).bind fun z => pl_ st ch t me z.1 z.2 else pl_ st ch t me rg sp
theorem pa_4 : ∀ t, t < 8 → tc_G_pushedAt (nI t) 4 = some (nm_ 4 t) ∧ mo_listed (nI t) 4 = some (nm_ 4 t) ∧ mo_framed (nI t) = some (nm_ 4 t) ∧ ((255 : Int32) >>> (nI t &&& 31)) &&& 1 = 1 ∧ nm_ 4 t ≠ 4 := by decide +kernel
theorem pa_3 : ∀ t, t < 8 → tc_G_pushedAt (nI t) 3 = some (nm_ 3 t) ∧ mo_listed (nI t) 3 = some (nm_ 3 t) ∧ nm_ 3 t ≠ 3 := by decide +kernel
theorem pa_ {st : Int32} (hs : ts_ st) {t : Nat} (ht : t < 8) : tc_G_pushedAt (nI t) st = some (nm_ st t) ∧ mo_listed (nI t) st = some (nm_ st t) ∧ nm_ st t ≠ st := by
  rcases hs with rfl | rfl
  · exact ⟨(pa_4 t ht).1, (pa_4 t ht).2.1, (pa_4 t ht).2.2.2.2⟩
  · exact pa_3 t ht
theorem nm_pn {st : Int32} (t : Nat) (ht : t < 8) : pn_ (nm_ st t) := by
  have h : t = 0 ∨ t = 1 ∨ t = 2 ∨ t = 3 ∨ t = 4 ∨ t = 5 ∨ t = 6 ∨ t = 7 := by omega
  rcases h with rfl | rfl | rfl | rfl | rfl | rfl | rfl | rfl
  · exact Or.inl rfl
  · exact Or.inr (Or.inl rfl)
  · exact Or.inr (Or.inr (Or.inl rfl))
  · exact Or.inr (Or.inr (Or.inr (Or.inl rfl)))
  · exact Or.inr (Or.inr (Or.inr (Or.inr (Or.inl rfl))))
  · exact Or.inr (Or.inr (Or.inr (Or.inr (Or.inr (Or.inl rfl)))))
  · show pn_ (if st = 3 then 4 else 3)
    split
    · exact Or.inr (Or.inr (Or.inr (Or.inr (Or.inr (Or.inr (Or.inr (Or.inl rfl)))))))
    · exact Or.inr (Or.inr (Or.inr (Or.inr (Or.inr (Or.inr (Or.inl rfl))))))
  · exact Or.inr (Or.inr (Or.inr (Or.inr (Or.inr (Or.inr (Or.inr (Or.inr rfl)))))))
/-- the bit's number as the loops count it: one below t -/
def dn_ (t : Nat) : Int32 := iI ((t : Int) - 1)
theorem dn_s (t : Nat) : dn_ (t + 1) = nI t := by
  unfold dn_
  rw [nI_iI]
  congr 1
  omega
theorem dn_d (t : Nat) : dn_ (t + 1) + Int32.ofInt (-1) = dn_ t := by
  unfold dn_
  show iI _ + iI (-1) = _
  rw [iI_add]
  congr 1
  omega
theorem dn_0 : dn_ 0 < 0 := by decide
theorem dn_n {t : Nat} (h : t < 100) : ¬ dn_ (t + 1) < 0 := by
  rw [dn_s]
  exact nI_pos (by omega)
theorem i_ass (e m z : Int32) : e + m + z = e + (m + z) := Int32.add_assoc e m z
theorem push_loop {st ch : Int32} (hs : ts_ st) : ∀ (t : Nat), t ≤ 8 → ∀ (mv : Int32) (g : R9) (cb : Nat → Int32), okB cb → ∃ (mv' : Int32) (g' : R9) (cb' : Nat → Int32), tc_G_push_l7 (t + 1) st ch mv (dn_ t) g.1 g.2.1 g.2.2.1 g.2.2.2.1 g.2.2.2.2.1 g.2.2.2.2.2.1 g.2.2.2.2.2.2.1 g.2.2.2.2.2.2.2.1 g.2.2.2.2.2.2.2.2 cb = some (mv', g'.1, g'.2.1, g'.2.2.1, g'.2.2.2.1, g'.2.2.2.2.1, g'.2.2.2.2.2.1, g'.2.2.2.2.2.2.1, g'.2.2.2.2.2.2.2.1, g'.2.2.2.2.2.2.2.2, cb') ∧ okB cb' ∧ (og_ g → og_ g') ∧ ∀ e, pu_ st ch t cb (rg_ g) (e + mv) = some (cb', rg_ g', e + mv') := by
  intro t
  induction t with
  | zero =>
    intro _ mv g cb hB
    refine ⟨mv, g, cb, ?_, hB, id, fun e => rfl⟩
    rw [tc_G_push_l7_s, if_pos dn_0]
  | succ t ih =>
    intro ht mv g cb hB
    rw [tc_G_push_l7_s, if_neg (dn_n (by omega)), dn_s]
    unfold tc_G_push_j74
    by_cases hb : ((ch >>> (nI t &&& 31)) &&& 1) = 1
    · obtain ⟨sz, v1, v2, v3, g1, cb1, q1, q2, q3, q4, q5, q6, q7, q8, -⟩ := push1 hB hs (nm_pn (st := st) t (by omega)) g 0
      obtain ⟨mv', g', cb', p1, p2, p3, p4⟩ := ih (by omega) (mv + sz) g1 cb1 q7
      refine ⟨mv', g', cb', ?_, p2, fun h => p3 (q8 h), fun e => ?_⟩
      · rw [if_pos hb, (pa_ hs (by omega)).1, Option.bind_some, q1, Option.bind_some, q2, Option.bind_some, q3, Option.bind_some, q4, Option.bind_some, q5, Option.bind_some, q6, Option.bind_some, ← dn_s, dn_d, p1]
      · obtain ⟨sz', w1, w2, w3, g2, cb2, r1, r2, r3, r4, r5, r6, -, -, r9⟩ := push1 hB hs (nm_pn (st := st) t (by omega)) g (e + mv)
        rw [q1] at r1
        cases r1
        rw [q2] at r2
        cases r2
        rw [q3] at r3
        cases r3
        rw [q4] at r4
        cases r4
        rw [q5] at r5
        cases r5
        rw [q6] at r6
        cases r6
        show (if _ then _ else _) = _
        rw [if_pos hb, r9, Option.bind_some]
        dsimp only
        rw [i_ass]
        exact p4 e
    · obtain ⟨mv', g', cb', p1, p2, p3, p4⟩ := ih (by omega) mv g cb hB
      refine ⟨mv', g', cb', ?_, p2, p3, fun e => ?_⟩
      · rw [if_neg hb, ← dn_s, dn_d, p1]
      · show (if _ then _ else _) = _
        rw [if_neg hb]
        exact p4 e
theorem many_push {st ch op : Int32} (hs : ts_ st) (hop : op - op / 2 * 2 = 0) : ∀ (t : Nat), t ≤ 8 → ∀ (me rg : Nat → Int32) (sp : Int32), mo_many_l21 (t + 1) op ch st (dn_ t) me rg sp = pu_ st ch t me rg sp := by
  have e59 : ∀ me rg sp, mo_many_j59 op ch st me rg sp = some (me, rg, sp) := by
    intro me rg sp
    unfold mo_many_j59
    rw [mo_many_l62_s, if_neg (by decide), if_neg (by rw [hop]; decide)]
  intro t
  induction t with
  | zero =>
    intro _ me rg sp
    rw [mo_many_l21_s, if_pos dn_0, e59]
    rfl
  | succ t ih =>
    intro ht me rg sp
    rw [mo_many_l21_s, if_neg (dn_n (by omega)), if_pos hop, dn_s]
    unfold mo_many_j53
    show _ = (if _ then _ else _)
    by_cases hb : ((ch >>> (nI t &&& 31)) &&& 1) = 1
    · rw [if_pos hb, if_pos hb, (pa_ hs (by omega)).2.1, Option.bind_some, ← dn_s, dn_d]
      congr 1
      funext z
      exact ih (by omega) _ _ _
    · rw [if_neg hb, if_neg hb, ← dn_s, dn_d]
      exact ih (by omega) _ _ _
theorem stack_push (v1 ru : Int32) (sv : Nat → Int32) : ∀ (t : Nat), t ≤ 8 → ∀ (me rg : Nat → Int32) (sp : Int32), mo_stack_l16 (t + 1) v1 (dn_ t) me rg sv ru sp = (pu_ 4 255 t me rg sp).bind fun z => if in_b ru 4 = true then some (z.1, z.2.1, upd sv ru.toNatClampNeg (z.2.1 4), (-1 : Int32), v1) else none := by
  intro t
  induction t with
  | zero =>
    intro _ me rg sp
    rw [mo_stack_l16_s, if_pos dn_0]
    rfl
  | succ t ih =>
    intro ht me rg sp
    rw [mo_stack_l16_s, if_neg (dn_n (by omega)), dn_s, (pa_4 t (by omega)).2.2.1, Option.bind_some]
    show _ = Option.bind (if _ then _ else _) _
    rw [if_pos (pa_4 t (by omega)).2.2.2.1, Option.bind_assoc, ← dn_s, dn_d]
    congr 1
    funext z
    exact ih (by omega) _ _ _
/-- the bit's number as the loops of pulls count it: t bits are left -/
theorem up_n {t : Nat} (ht : t < 8) : ¬ (8 : Int32) ≤ nI (8 - (t + 1)) := by
  rw [show (8 : Int32) = nI 8 by decide, nI_leI (by omega) (by omega)]
  omega
theorem up_7 {t : Nat} (ht : t < 8) : ¬ (7 : Int32) < nI (8 - (t + 1)) := by
  rw [show (7 : Int32) = nI 7 by decide, nI_ltI (by omega) (by omega)]
  omega
theorem up_s {t : Nat} (ht : t < 8) : nI (8 - (t + 1)) + Int32.ofInt 1 = nI (8 - t) := by
  show nI _ + nI 1 = _
  rw [nI_add]
  congr 1
  omega
theorem up_e {t : Nat} : 8 - (t + 1) = 7 - t := by omega
theorem pull_loop {st ch : Int32} (hs : ts_ st) {cb : Nat → Int32} (hB : okB cb) : ∀ (t : Nat), t ≤ 8 → ∀ (mv : Int32) (g : R9), ∃ (mv' : Int32) (g' : R9), tc_G_pull_l6 (t + 1) st ch mv (nI (8 - t)) g.1 g.2.1 g.2.2.1 g.2.2.2.1 g.2.2.2.2.1 g.2.2.2.2.2.1 g.2.2.2.2.2.2.1 g.2.2.2.2.2.2.2.1 g.2.2.2.2.2.2.2.2 cb = some (mv', g'.1, g'.2.1, g'.2.2.1, g'.2.2.2.1, g'.2.2.2.2.1, g'.2.2.2.2.2.1, g'.2.2.2.2.2.2.1, g'.2.2.2.2.2.2.2.1, g'.2.2.2.2.2.2.2.2) ∧ (∀ i, okN i (rg_ g) → okN i (rg_ g')) ∧ (∀ e, pl_ st ch t cb (rg_ g) (e + mv) = some (rg_ g', e + mv')) ∧ (ch = 255 → st = 4 → ∀ j, 8 - t ≤ j → j < 8 → okN (nm_ 4 j).toNatClampNeg (rg_ g') ∧ okN 4 (rg_ g')) := by
  intro t
  induction t with
  | zero =>
    intro _ mv g
    refine ⟨mv, g, ?_, fun i h => h, fun e => rfl, fun _ _ j h1 h2 => by omega⟩
    rw [tc_G_pull_l6_s, if_pos (by decide)]
  | succ t ih =>
    intro ht mv g
    rw [tc_G_pull_l6_s, if_neg (up_7 (by omega))]
    unfold tc_G_pull_j75
    by_cases hb : ((ch >>> (nI (8 - (t + 1)) &&& 31)) &&& 1) = 1
    · obtain ⟨sz, v1, v2, v3, g1, g2, q1, q2, q3, q4, q5, q6, -, q8, q9, q10⟩ := pull1 hB hs (nm_pn (st := st) (8 - (t + 1)) (by omega)) (pa_ hs (by omega)).2.2 g 0
      obtain ⟨mv', g', p1, p2, p3, p4⟩ := ih (by omega) (mv + sz) g2
      refine ⟨mv', g', ?_, fun i h => p2 i (q10 i h), fun e => ?_, fun h1 h2 j h3 h4 => ?_⟩
      · rw [if_pos hb, (pa_ hs (by omega)).1, Option.bind_some, q1, Option.bind_some, q2, Option.bind_some, q3, Option.bind_some, q4, Option.bind_some, q5, Option.bind_some, q6, Option.bind_some, up_s (by omega), p1]
      · obtain ⟨sz', w1, w2, w3, g3, g4, r1, r2, r3, r4, r5, r6, r7, -⟩ := pull1 hB hs (nm_pn (st := st) (8 - (t + 1)) (by omega)) (pa_ hs (by omega)).2.2 g (e + mv)
        rw [q1] at r1
        cases r1
        rw [q2] at r2
        cases r2
        rw [q3] at r3
        cases r3
        rw [q4] at r4
        cases r4
        rw [q5] at r5
        cases r5
        rw [q6] at r6
        cases r6
        show (if _ then _ else _) = _
        rw [up_e] at hb r7
        rw [if_pos hb, r7, Option.bind_some]
        dsimp only
        rw [i_ass]
        exact p3 e
      · by_cases hj : 8 - t ≤ j
        · exact p4 h1 h2 j hj h4
        · have ej : j = 8 - (t + 1) := by omega
          subst ej
          subst h2
          exact ⟨p2 _ q8, p2 _ q9⟩
    · obtain ⟨mv', g', p1, p2, p3, p4⟩ := ih (by omega) mv g
      refine ⟨mv', g', ?_, p2, fun e => ?_, fun h1 h2 j h3 h4 => ?_⟩
      · rw [if_neg hb, up_s (by omega), p1]
      · show (if _ then _ else _) = _
        rw [up_e] at hb
        rw [if_neg hb]
        exact p3 e
      · subst h1
        exact absurd (pa_4 (8 - (t + 1)) (by omega)).2.2.2.1 hb
theorem many_pull {st ch op : Int32} (hs : ts_ st) (hop : op - op / 2 * 2 = 1) : ∀ (t : Nat), t ≤ 8 → ∀ (me rg : Nat → Int32) (sp : Int32), mo_many_l62 (t + 1) op ch st (nI (8 - t)) me rg sp = (pl_ st ch t me rg sp).bind fun z => some (me, z.1, z.2) := by
  intro t
  induction t with
  | zero =>
    intro _ me rg sp
    rw [mo_many_l62_s, if_pos (by decide)]
    rfl
  | succ t ih =>
    intro ht me rg sp
    rw [mo_many_l62_s, if_neg (up_n (by omega)), if_pos hop]
    unfold mo_many_j97
    show _ = Option.bind (if _ then _ else _) _
    rw [up_s (by omega), up_e]
    by_cases hb : ((ch >>> (nI (7 - t) &&& 31)) &&& 1) = 1
    · rw [if_pos hb, if_pos hb, (pa_ hs (by omega)).2.1, Option.bind_some, Option.bind_assoc]
      congr 1
      funext z
      exact ih (by omega) _ _ _
    · rw [if_neg hb, if_neg hb]
      exact ih (by omega) _ _ _
theorem take_pull (v1 v2 ru : Int32) (so sv : Nat → Int32) : ∀ (t : Nat), t ≤ 8 → ∀ (me rg : Nat → Int32) (sp : Int32), mo_take_l19 (t + 1) v1 v2 (nI (8 - t)) me rg so sv ru sp = (pl_ 4 255 t me rg sp).bind fun z => if in_b v1 4 = true then some (z.1, upd so v1.toNatClampNeg 1, v1, v2) else none := by
  intro t
  induction t with
  | zero =>
    intro _ me rg sp
    rw [mo_take_l19_s, if_pos (by decide)]
    rfl
  | succ t ih =>
    intro ht me rg sp
    rw [mo_take_l19_s, if_neg (up_n (by omega)), up_s (by omega), up_e, (pa_4 (7 - t) (by omega)).2.2.1, Option.bind_some]
    show _ = Option.bind (if _ then _ else _) _
    rw [if_pos (pa_4 (7 - t) (by omega)).2.2.2.1, Option.bind_assoc]
    congr 1
    funext z
    exact ih (by omega) _ _ _
theorem og_of {g : R9} (h1 : okN 1 (rg_ g)) (h2 : okN 2 (rg_ g)) (h3 : okN 3 (rg_ g)) (h4 : okN 4 (rg_ g)) (h5 : okN 5 (rg_ g)) (h8 : okN 8 (rg_ g)) (h9 : okN 9 (rg_ g)) (h10 : okN 10 (rg_ g)) (h11 : okN 11 (rg_ g)) : og_ g := ⟨h8, h9, h11, h10, h1, h2, h3, h4, h5⟩
theorem og_N {g : R9} (h : og_ g) : okN 1 (rg_ g) ∧ okN 2 (rg_ g) ∧ okN 3 (rg_ g) ∧ okN 4 (rg_ g) ∧ okN 5 (rg_ g) ∧ okN 8 (rg_ g) ∧ okN 9 (rg_ g) ∧ okN 10 (rg_ g) ∧ okN 11 (rg_ g) := by
  obtain ⟨ha, hb, hd, hc, hx, hy, hu, hs, hp⟩ := h
  exact ⟨hx, hy, hu, hs, hp, ha, hb, hc, hd⟩
