/-! Branches; the groups 1 and 3. -/
abbrev MS : Type := (Nat → Int32) × (Nat → Int32) × (Nat → Int32) × (Nat → Int32) × (Nat → Int32) × (Nat → Int32) × (Nat → Int32) × Int32 × Int32 × Int32 × Bool
def sg_ok (so sv tl su qu : Nat → Int32) (wa ru : Int32) (z : Int32 × Int32 × (Nat → Int32) × R9) (m : Option MS) : Prop :=
  (z.2.1 = -1 ∧ okB z.2.2.1 ∧ og_ z.2.2.2 ∧ m = some (z.2.2.1, rg_ z.2.2.2, so, sv, tl, su, qu, wa, ru, z.1, false)) ∨ (z.2.1 = -2 ∧ okB z.2.2.1 ∧ ∃ (g0 : R9) (sp : Int32), m = some (z.2.2.1, rg_ g0, so, sv, tl, su, qu, wa, ru, sp, true))
theorem ho_rg (v a b d c x y u s p : Int32) : mo_holds v (rf_ a b d c x y u s p) = mo_holds v (fun _ => c) := rfl
theorem fl12_all : ∀ m, m < 256 → ∀ n z : Bool, (z = true → n = false) → mk_ 4 z (mk_ 8 n (nI m)) = (nI m &&& ((12 : Int32) ^^^ -1)) ||| fl_ n z := by decide +kernel
theorem fl5_all : ∀ m, m < 256 → ∀ z k : Bool, mk_ 1 k (mk_ 4 z (nI m)) = (nI m &&& ((5 : Int32) ^^^ -1)) ||| ((bif z then 4 else 0) ||| bz_i k) := by decide +kernel
theorem fl4_1 : ∀ m, m < 256 → ∀ z : Bool, mk_ 4 z (nI m) = (nI m &&& ((4 : Int32) ^^^ -1)) ||| (bif z then 4 else 0) := by decide +kernel
theorem sex_all : ∀ n, n < 256 → ((nI n).toInt8.toInt32 &&& 65535).toBitVec.toNat < 65536 ∧ (256 : Int32) * (((nI n).toInt8.toInt32 >>> ((8 : Int32) &&& 31)) &&& 255) + ((nI n).toInt8.toInt32 &&& 255) = (nI n).toInt8.toInt32 &&& 65535 ∧ (((nI n).toInt8.toInt32 &&& 65535) &&& 65535) >>> ((8 : Int32) &&& 31) = ((nI n).toInt8.toInt32 >>> ((8 : Int32) &&& 31)) &&& 255 ∧ ((nI n).toInt8.toInt32 &&& 65535) &&& 255 = (nI n).toInt8.toInt32 &&& 255 := by decide +kernel
theorem b7_all : ∀ n, n < 256 → nI n >>> ((7 : Int32) &&& 31) = bz_i (decide (¬ nI n ≤ 127)) := by decide +kernel
/-- what trade allows: the numbers exist and are of one size -/
theorem ex_all : ∀ i, i < 16 → (tc_G_exists (nI i) = some true ∧ ¬ nI i = 6 ∧ ¬ nI i = 7 ∧ ¬ 11 < nI i) ∨ (tc_G_exists (nI i) = some false ∧ (nI i = 6 ∨ nI i = 7 ∨ 11 < nI i)) := by decide +kernel
theorem exv_all : ∀ i, i < 16 → tc_G_exists (nI i) = some true → (nI i = 0 ∨ nI i = 1 ∨ nI i = 2 ∨ nI i = 3 ∨ nI i = 4 ∨ nI i = 5 ∨ nI i = 8 ∨ nI i = 9 ∨ nI i = 10 ∨ nI i = 11) := by decide +kernel
theorem exs_all : ∀ i, i < 16 → tc_G_exists (nI i) = some true → tc_G_sizeOf (nI i) = some (if (8 : Int32) ≤ nI i then 1 else 2) := by decide +kernel
theorem ho_some : ∀ k, k < 16 → ∀ m, m < 256 → (mo_holds (nI k &&& 14) (fun _ => nI m)).isSome = true := by decide +kernel
theorem nib_all : ∀ n, n < 256 → ∃ i, i < 16 ∧ nI n >>> ((4 : Int32) &&& 31) = nI i := by
  intro n h
  exact ⟨n / 16, by omega, pk_shrN (by omega) _ 4 (by decide)⟩
section GR
variable {cb : Nat → Int32} {a b d c x y u s p : Int32}
theorem br_ok (hB : okB cb) (ho : ok_ a b d c x y u s p) (op py : Int32) : ∃ py' p', tc_P_branch (op &&& 15) py cb c p = some (py', p') ∧ rw_ p' ∧ mo_branch op cb (rf_ a b d c x y u s p) py = some (rf_ a b d c x y u s p', py') := by
  obtain ⟨k, hk, ek⟩ := pk_andE op (m := 15) 4 (by decide)
  obtain ⟨m, hm, ec⟩ := ho.2.2.2.1
  have hh := ho_all k hk m hm
  unfold tc_P_branch mo_branch
  rw [tc_fetch1, mo_fetch_eq, Option.bind_some, Option.bind_some]
  dsimp only
  rw [tc_signed1, mo_signed_eq (rd_ok hB _), Option.bind_some, Option.bind_some, ho_rg, ek, ec, ← hh]
  cases hz : mo_holds (nI k &&& 14) (fun _ => nI m) with
  | none =>
    have := ho_some k hk m hm
    rw [hz] at this
    cases this
  | some t =>
    rw [Option.bind_some, Option.bind_some, Option.bind_some]
    unfold mo_branch_j32 mo_branch_j40
    by_cases he : (nI k - nI k / 2 * 2) = 0
    · rw [if_pos he, decide_eq_true he]
      cases t
      · exact ⟨_, _, rfl, rw_and _, rfl⟩
      · refine ⟨_, _, rfl, rw_and _, ?_⟩
        rw [if_pos rfl, if_neg (by decide), mo_set5]
        rfl
    · rw [if_neg he, decide_eq_false he]
      cases t
      · refine ⟨_, _, rfl, rw_and _, ?_⟩
        rw [if_pos rfl, if_neg (by decide), mo_set5]
        rfl
      · exact ⟨_, _, rfl, rw_and _, rfl⟩
theorem td_ok (hB : okB cb) (ho : ok_ a b d c x y u s p) (py : Int32) (ex : Bool) : ∃ (py' po' : Int32) (g' : R9), tc_P_moveRegister ex py (-1) cb a b d c x y u s p = some (py', po', g') ∧ ((po' = -1 ∧ og_ g' ∧ mo_trade (bif ex then 30 else 31) cb (rf_ a b d c x y u s p) py false = some (rg_ g', py', false)) ∨ (po' = -2 ∧ ∃ (g0 : R9) (sp : Int32), mo_trade (bif ex then 30 else 31) cb (rf_ a b d c x y u s p) py false = some (rg_ g0, sp, true))) := by
  obtain ⟨n, hn, en⟩ := rd_ok hB p
  obtain ⟨i, hi, ei⟩ := nib_all n hn
  obtain ⟨j, hj, ej⟩ := pk_andE (nI n) (m := 15) 4 (by decide)
  have ho' := ok_p ho (p + 1)
  unfold tc_P_moveRegister mo_trade
  rw [tc_fetch1, mo_fetch_eq, Option.bind_some, Option.bind_some]
  dsimp only
  rw [en, ei, ej]
  have bad : ∃ (py' po' : Int32) (g' : R9), tc_P_moveRegister_j43 (py + 1) (-1) cb a b d c x y u s ((p + 1) &&& 65535) = some (py', po', g') ∧ ((po' = -1 ∧ og_ g' ∧ mo_trade_j81 (bif ex then 30 else 31) (nI i) (nI j) cb (rf_ a b d c x y u s ((p + 1) &&& 65535)) (py + 1) false = some (rg_ g', py', false)) ∨ (po' = -2 ∧ ∃ (g0 : R9) (sp : Int32), mo_trade_j81 (bif ex then 30 else 31) (nI i) (nI j) cb (rf_ a b d c x y u s ((p + 1) &&& 65535)) (py + 1) false = some (rg_ g0, sp, true))) :=
    ⟨_, _, (a, b, d, c, x, y, u, s, (p + 1) &&& 65535), rfl, Or.inr ⟨rfl, (a, b, d, c, x, y, u, s, (p + 1) &&& 65535), _, rfl⟩⟩
  rcases ex_all i hi with ⟨x1, x2, x3, x4⟩ | ⟨x1, x2⟩
  · rw [x1, Option.bind_some, if_neg (show ¬ bz_i true = 0 by decide), if_neg x2, if_neg x3, if_neg x4]
    rcases ex_all j hj with ⟨y1, y2, y3, y4⟩ | ⟨y1, y2⟩
    · rw [y1, Option.bind_some, if_neg (show ¬ bz_i true = 0 by decide), if_neg y2, if_neg y3, if_neg y4, exs_all i hi x1, exs_all j hj y1, Option.bind_some, Option.bind_some]
      unfold mo_trade_j66 mo_trade_j78
      by_cases h8 : ((8 : Int32) ≤ nI i ∧ (8 : Int32) ≤ nI j) ∨ (¬ (8 : Int32) ≤ nI i ∧ ¬ (8 : Int32) ≤ nI j)
      · have vi : vk_ (nI i) := exv_all i hi x1
        have vj : vk_ (nI j) := exv_all j hj y1
        have gi := get_eq (d := d) (c := c) (x := x) (y := y) (u := u) (s := s) (p := (p + 1) &&& 65535) vi ho.1 ho.2.1
        have gj := get_eq (d := d) (c := c) (x := x) (y := y) (u := u) (s := s) (p := (p + 1) &&& 65535) vj ho.1 ho.2.1
        have get_some : ∀ {k : Int32}, vk_ k → ∃ r, tc_G_get k a b d c x y u s ((p + 1) &&& 65535) = some r := by
          intro k hk
          rcases hk with rfl | rfl | rfl | rfl | rfl | rfl | rfl | rfl | rfl | rfl <;> exact ⟨_, rfl⟩
        obtain ⟨ri, hri⟩ := get_some vi
        obtain ⟨rj, hrj⟩ := get_some vj
        rw [hri] at gi
        rw [hrj] at gj
        obtain ⟨g1, q1, q2, q3⟩ := set_eq (v := ri) vj ho'
        obtain ⟨g2, r1, r2, r3⟩ := set_eq (v := rj) vi q3
        have fin : ∃ (py' po' : Int32) (g' : R9), ((tc_G_get (nI j) a b d c x y u s ((p + 1) &&& 65535)).bind fun z15 => (tc_G_get (nI i) a b d c x y u s ((p + 1) &&& 65535)).bind fun z16 => (tc_G_set (nI j) z16 a b d c x y u s ((p + 1) &&& 65535)).bind fun z17 => if (bz_i ex) = (0 : Int32) then some (py + 1, (-1 : Int32), z17.1, z17.2.1, z17.2.2.1, z17.2.2.2.1, z17.2.2.2.2.1, z17.2.2.2.2.2.1, z17.2.2.2.2.2.2.1, z17.2.2.2.2.2.2.2.1, z17.2.2.2.2.2.2.2.2) else (tc_G_set (nI i) z15 z17.1 z17.2.1 z17.2.2.1 z17.2.2.2.1 z17.2.2.2.2.1 z17.2.2.2.2.2.1 z17.2.2.2.2.2.2.1 z17.2.2.2.2.2.2.2.1 z17.2.2.2.2.2.2.2.2).bind fun z18 => some (py + 1, (-1 : Int32), z18.1, z18.2.1, z18.2.2.1, z18.2.2.2.1, z18.2.2.2.2.1, z18.2.2.2.2.2.1, z18.2.2.2.2.2.2.1, z18.2.2.2.2.2.2.2.1, z18.2.2.2.2.2.2.2.2)) = some (py', po', g') ∧ ((po' = -1 ∧ og_ g' ∧ mo_trade_j86 (bif ex then 30 else 31) (nI i) (nI j) false cb (rf_ a b d c x y u s ((p + 1) &&& 65535)) (py + 1) false = some (rg_ g', py', false)) ∨ (po' = -2 ∧ ∃ (g0 : R9) (sp : Int32), mo_trade_j86 (bif ex then 30 else 31) (nI i) (nI j) false cb (rf_ a b d c x y u s ((p + 1) &&& 65535)) (py + 1) false = some (rg_ g0, sp, true))) := by
          unfold mo_trade_j86
          rw [hri, hrj, Option.bind_some, Option.bind_some, q1, if_pos (show bz_i false = 0 from rfl), gi, gj, Option.bind_some, Option.bind_some, Option.bind_some, q2, Option.bind_some]
          cases ex with
          | true =>
            rw [if_neg (show ¬ bz_i true = 0 by decide), r1, if_pos (show (bif true then (30 : Int32) else 31) = 30 from rfl), r2]
            exact ⟨_, _, g2, rfl, Or.inl ⟨rfl, r3, rfl⟩⟩
          | false =>
            rw [if_pos (show bz_i false = 0 from rfl), if_neg (show ¬ (bif false then (30 : Int32) else 31) = 30 by decide)]
            exact ⟨_, _, g1, rfl, Or.inl ⟨rfl, q3, rfl⟩⟩
        rcases h8 with ⟨h1, h2⟩ | ⟨h1, h2⟩
        · simp only [if_pos h1, if_pos h2]
          exact fin
        · simp only [if_neg h1, if_neg h2]
          exact fin
      · have : ((8 : Int32) ≤ nI i ∧ ¬ (8 : Int32) ≤ nI j) ∨ (¬ (8 : Int32) ≤ nI i ∧ (8 : Int32) ≤ nI j) := by
          by_cases h1 : (8 : Int32) ≤ nI i <;> by_cases h2 : (8 : Int32) ≤ nI j
          · exact absurd (Or.inl ⟨h1, h2⟩) h8
          · exact Or.inl ⟨h1, h2⟩
          · exact Or.inr ⟨h1, h2⟩
          · exact absurd (Or.inr ⟨h1, h2⟩) h8
        rcases this with ⟨h1, h2⟩ | ⟨h1, h2⟩
        · simp only [if_pos h1, if_neg h2]
          exact bad
        · simp only [if_neg h1, if_pos h2]
          exact bad
    · rw [y1, Option.bind_some, if_pos (show bz_i false = 0 from rfl)]
      by_cases z6 : nI j = 6
      · rw [if_pos z6]
        exact bad
      · by_cases z7 : nI j = 7
        · rw [if_neg z6, if_pos z7]
          exact bad
        · rw [if_neg z6, if_neg z7, if_pos (by rcases y2 with h | h | h; exact absurd h z6; exact absurd h z7; exact h)]
          exact bad
  · rw [x1, Option.bind_some, if_pos (show bz_i false = 0 from rfl)]
    by_cases z6 : nI i = 6
    · rw [if_pos z6]
      exact bad
    · by_cases z7 : nI i = 7
      · rw [if_neg z6, if_pos z7]
        exact bad
      · rw [if_neg z6, if_neg z7, if_pos (by rcases x2 with h | h | h; exact absurd h z6; exact absurd h z7; exact h)]
        exact bad
end GR
