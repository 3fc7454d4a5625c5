/-! Calls of the kernel: the class's settle, the reference's kernel. -/
section KC
variable {uz : Int32} {ul : Nat → Option Nat} {ks kv kz ku cb : Nat → Int32} {me so sv tl su qu : Nat → Int32} {wa : Int32} {g : R9}
theorem rs_ok (hK : KB uz ul ks kv kz ku cb me so sv tl su qu wa) {i : Nat} (hi : i < 4) (h1 : ∀ j, j < 4 → j ≠ i → ks j ≠ 1) (h2 : ks i ≠ 2) (h3 : ks i ≠ 3) (kr : Option Nat) (g : R9) : ∃ g' : R9, tc_K_resume i kr ks kv cb g.1 g.2.1 g.2.2.1 g.2.2.2.1 g.2.2.2.2.1 g.2.2.2.2.2.1 g.2.2.2.2.2.2.1 g.2.2.2.2.2.2.2.1 g.2.2.2.2.2.2.2.2 = some (some i, upd ks i 1, g') ∧ (∀ (g0 : R9) (ru sp : Int32), mo_take (nI i) me (rg_ g0) so sv ru sp = some (rg_ g', upd so i 1, nI i, sp)) ∧ KB uz ul (upd ks i 1) kv kz ku cb me (upd so i 1) sv tl su qu wa ∧ RN (some i) (nI i) (upd ks i 1) g' (rg_ g') := by
  obtain ⟨rfl, rfl, rfl, rfl, hB, hsl, L, hQ, hL⟩ := hK
  obtain ⟨g', t1, t2, -, t4⟩ := take_ok hB hi sv g
  refine ⟨g', ?_, fun g0 ru sp => t4 g0 so ru sp, ⟨rfl, rfl, rfl, rfl, hB, ?_, L, hQ, ?_⟩, Or.inr ⟨i, hi, rfl, rfl, upd_eq, ?_, rfl, t2⟩⟩
  · unfold tc_K_resume
    rw [t1, Option.bind_some, if_pos hi]
  · intro j hj hs
    by_cases e : j = i
    · rw [e, upd_eq] at hs
      exact absurd hs (by decide)
    · rw [upd_ne e] at hs
      exact hsl j hj hs
  · intro j hj
    have : j ≠ i := fun q => h2 (q ▸ hL j hj)
    rw [upd_ne this]
    exact hL j hj
  · intro j hj hs
    by_cases e : j = i
    · exact e
    · rw [upd_ne e] at hs
      exact absurd hs (h1 j hj e)
theorem KB_cb (hK : KB uz ul ks kv kz ku cb me so sv tl su qu wa) {cb' kv' : Nat → Int32} (h : okB cb') : KB uz ul ks kv' kz ku cb' cb' so kv' tl su qu wa := by
  obtain ⟨-, h2, -, h4, -, h6, h7⟩ := hK
  exact ⟨rfl, h2, rfl, h4, h, h6, h7⟩
/-- the kernel's call behind its fetch -/
def kq_ (v : Int32) (me rg so sv tl su qu : Nat → Int32) (wa ru sp : Int32) : Option ((Nat → Int32) × (Nat → Int32) × (Nat → Int32) × (Nat → Int32) × (Nat → Int32) × (Nat → Int32) × (Nat → Int32) × Int32 × Int32 × Int32) := (mo_stack me rg sv ru sp).bind fun z31 => if v = (3 : Int32) then (mo_end ru (rg 8) z31.1 z31.2.1 so z31.2.2.1 tl su qu wa z31.2.2.2.1 z31.2.2.2.2).bind fun z34 => some (z31.1, z34.1, z34.2.1, z31.2.2.1, z34.2.2.1, z34.2.2.2.1, z34.2.2.2.2.1, z34.2.2.2.2.2.1, z34.2.2.2.2.2.2.1, z34.2.2.2.2.2.2.2) else if v = (2 : Int32) then if in_b ru 4 = true then if (rg 1) = (0 : Int32) then (mo_comeLast ru so qu wa).bind fun z33 => mo_kernel_j74 z31.1 z31.2.1 z33.1 z31.2.2.1 (upd tl (ru.toNatClampNeg) (rg 1)) su z33.2.1 z33.2.2 z31.2.2.2.1 z31.2.2.2.2 else mo_kernel_j74 z31.1 z31.2.1 (upd so (ru.toNatClampNeg) (3 : Int32)) z31.2.2.1 (upd tl (ru.toNatClampNeg) (rg 1)) su qu wa z31.2.2.2.1 z31.2.2.2.2 else none else mo_kernel_l82 5 v ru (rg 1) (rg 8) (0 : Int32) z31.1 z31.2.1 so z31.2.2.1 tl su qu wa z31.2.2.2.1 z31.2.2.2.2
theorem kq_eq (me : Nat → Int32) (a b d c x y u s p : Int32) (so sv tl su qu : Nat → Int32) (wa ru sp : Int32) : mo_kernel me (rf_ a b d c x y u s p) so sv tl su qu wa ru sp = kq_ (rd_ me p) me (rf_ a b d c x y u s ((p + 1) &&& 65535)) so sv tl su qu wa ru (sp + 1) := by
  unfold mo_kernel
  rw [mo_fetch_eq, Option.bind_some]
  rfl
/-- what a call of the kernel leaves -/
def kc_ok (sp : Int32) (c : Option (Option Nat × Int32 × (Nat → Option Nat) × (Nat → Int32) × (Nat → Int32) × (Nat → Int32) × (Nat → Int32) × (Nat → Int32) × Int32 × Int32 × Int32 × Int32 × Int32 × Int32 × Int32 × Int32 × Int32 × R9)) (m : Option ((Nat → Int32) × (Nat → Int32) × (Nat → Int32) × (Nat → Int32) × (Nat → Int32) × (Nat → Int32) × (Nat → Int32) × Int32 × Int32 × Int32)) : Prop :=
  ∃ (kr' : Option Nat) (uz' : Int32) (ul' : Nat → Option Nat) (ks' kv' kz' ku' cb' : Nat → Int32) (g' q' : R9) (rg' so' sv' tl' su' qu' : Nat → Int32) (wa' ru' : Int32), c = some (kr', uz', ul', ks', kv', kz', ku', cb', g'.1, g'.2.1, g'.2.2.1, g'.2.2.2.1, g'.2.2.2.2.1, g'.2.2.2.2.2.1, g'.2.2.2.2.2.2.1, g'.2.2.2.2.2.2.2.1, g'.2.2.2.2.2.2.2.2, q') ∧ m = some (cb', rg', so', sv', tl', su', qu', wa', ru', sp) ∧ KB uz' ul' ks' kv' kz' ku' cb' cb' so' sv' tl' su' qu' wa' ∧ RN kr' ru' ks' g' rg'
theorem kcall (hK : KB uz ul ks kv kz ku cb me so sv tl su qu wa) {i : Nat} (hi : i < 4) (hs1 : ks i = 1) (hu : ∀ j, j < 4 → ks j = 1 → j = i) (hg : og_ g) (v sp : Int32) (hv1 : ¬ v = -1) (hv2 : ¬ v = -2) (q : R9) : kc_ok sp (tc_K_settle v (some i) uz ul ks kv kz ku cb g.1 g.2.1 g.2.2.1 g.2.2.2.1 g.2.2.2.2.1 g.2.2.2.2.2.1 g.2.2.2.2.2.2.1 g.2.2.2.2.2.2.2.1 g.2.2.2.2.2.2.2.2 q.1 q.2.1 q.2.2.1 q.2.2.2.1 q.2.2.2.2.1 q.2.2.2.2.2.1 q.2.2.2.2.2.2.1 q.2.2.2.2.2.2.2.1 q.2.2.2.2.2.2.2.2) (kq_ v me (rg_ g) so sv tl su qu wa (nI i) sp) := by
  have hB := hK.2.2.2.2.1
  have eme := hK.1
  have eso := hK.2.1
  have esv := hK.2.2.1
  subst eme
  subst esv
  obtain ⟨kv1, cb1, g1, a1, a2, a3, a4⟩ := stack_ok hB hi sv hg sp
  have hK1 : KB uz ul ks kv1 kz ku cb1 cb1 so kv1 tl su qu wa := KB_cb hK a2
  have hne : ∀ j, j < 4 → j ≠ i → ks j ≠ 1 := fun j hj hn q => hn (hu j hj q)
  have n2 : ks i ≠ 2 := by rw [hs1]; decide
  have n3 : ks i ≠ 3 := by rw [hs1]; decide
  have es : tc_K_settle v (some i) uz ul ks sv kz ku me g.1 g.2.1 g.2.2.1 g.2.2.2.1 g.2.2.2.2.1 g.2.2.2.2.2.1 g.2.2.2.2.2.2.1 g.2.2.2.2.2.2.2.1 g.2.2.2.2.2.2.2.2 q.1 q.2.1 q.2.2.1 q.2.2.2.1 q.2.2.2.2.1 q.2.2.2.2.2.1 q.2.2.2.2.2.2.1 q.2.2.2.2.2.2.2.1 q.2.2.2.2.2.2.2.2 = (tc_K_answer i v (some i) uz ul ks sv kz ku me g.1 g.2.1 g.2.2.1 g.2.2.2.1 g.2.2.2.2.1 g.2.2.2.2.2.1 g.2.2.2.2.2.2.1 g.2.2.2.2.2.2.2.1 g.2.2.2.2.2.2.2.2 q.1 q.2.1 q.2.2.1 q.2.2.2.1 q.2.2.2.2.1 q.2.2.2.2.2.1 q.2.2.2.2.2.2.1 q.2.2.2.2.2.2.2.1 q.2.2.2.2.2.2.2.2).bind fun z11 => tc_K_settle_j42 z11.1 z11.2.1 z11.2.2.1 z11.2.2.2.1 z11.2.2.2.2.1 z11.2.2.2.2.2.1 z11.2.2.2.2.2.2.1 z11.2.2.2.2.2.2.2.1 z11.2.2.2.2.2.2.2.2.1 z11.2.2.2.2.2.2.2.2.2.1 z11.2.2.2.2.2.2.2.2.2.2.1 z11.2.2.2.2.2.2.2.2.2.2.2.1 z11.2.2.2.2.2.2.2.2.2.2.2.2.1 z11.2.2.2.2.2.2.2.2.2.2.2.2.2.1 z11.2.2.2.2.2.2.2.2.2.2.2.2.2.2.1 z11.2.2.2.2.2.2.2.2.2.2.2.2.2.2.2.1 z11.2.2.2.2.2.2.2.2.2.2.2.2.2.2.2.2.1 z11.2.2.2.2.2.2.2.2.2.2.2.2.2.2.2.2.2.1 z11.2.2.2.2.2.2.2.2.2.2.2.2.2.2.2.2.2.2.1 z11.2.2.2.2.2.2.2.2.2.2.2.2.2.2.2.2.2.2.2.1 z11.2.2.2.2.2.2.2.2.2.2.2.2.2.2.2.2.2.2.2.2.1 z11.2.2.2.2.2.2.2.2.2.2.2.2.2.2.2.2.2.2.2.2.2.1 z11.2.2.2.2.2.2.2.2.2.2.2.2.2.2.2.2.2.2.2.2.2.2.1 z11.2.2.2.2.2.2.2.2.2.2.2.2.2.2.2.2.2.2.2.2.2.2.2.1 z11.2.2.2.2.2.2.2.2.2.2.2.2.2.2.2.2.2.2.2.2.2.2.2.2.1 z11.2.2.2.2.2.2.2.2.2.2.2.2.2.2.2.2.2.2.2.2.2.2.2.2.2 := by
    show (if v = -1 then _ else if v = -2 then _ else _) = _
    rw [if_neg hv1, if_neg hv2]
  -- the caller goes on, with the frame as cb2, the rest as given
  have back : ∀ (uz2 : Int32) (ul2 : Nat → Option Nat) (ks2 kv2 cb2 so2 qu2 : Nat → Int32) (wa2 : Int32) (q2 : R9), KB uz2 ul2 ks2 kv2 kz ku cb2 cb2 so2 kv2 tl su qu2 wa2 → (∀ j, j < 4 → j ≠ i → ks2 j ≠ 1) → ks2 i ≠ 2 → ks2 i ≠ 3 → kc_ok sp ((tc_K_resume i none ks2 kv2 cb2 g1.1 g1.2.1 g1.2.2.1 g1.2.2.2.1 g1.2.2.2.2.1 g1.2.2.2.2.2.1 g1.2.2.2.2.2.2.1 g1.2.2.2.2.2.2.2.1 g1.2.2.2.2.2.2.2.2).bind fun z14 => tc_K_settle_j42 z14.1 uz2 ul2 z14.2.1 kv2 kz ku cb2 z14.2.2.1 z14.2.2.2.1 z14.2.2.2.2.1 z14.2.2.2.2.2.1 z14.2.2.2.2.2.2.1 z14.2.2.2.2.2.2.2.1 z14.2.2.2.2.2.2.2.2.1 z14.2.2.2.2.2.2.2.2.2.1 z14.2.2.2.2.2.2.2.2.2.2 q2.1 q2.2.1 q2.2.2.1 q2.2.2.2.1 q2.2.2.2.2.1 q2.2.2.2.2.2.1 q2.2.2.2.2.2.2.1 q2.2.2.2.2.2.2.2.1 q2.2.2.2.2.2.2.2.2) (mo_kernel_j228 (nI i) cb2 (rg_ g1) so2 kv2 tl su qu2 wa2 (-1) sp) := by
    intro uz2 ul2 ks2 kv2 cb2 so2 qu2 wa2 q2 hK2 h1 h2 h3
    obtain ⟨g', r1, r2, r3, r4⟩ := rs_ok hK2 hi h1 h2 h3 none g1
    rw [r1, Option.bind_some]
    unfold mo_kernel_j228
    rw [r2, Option.bind_some]
    exact ⟨some i, uz2, ul2, _, kv2, kz, ku, cb2, g', q2, rg_ g', _, kv2, tl, su, qu2, wa2, nI i, rfl, rfl, r3, r4⟩
  rw [es]
  unfold tc_K_answer kq_
  rw [a1, Option.bind_some, a4, Option.bind_some]
  dsimp only
  by_cases v3 : v = 3
  · rw [if_pos v3, if_neg (by rw [v3]; decide), if_neg (by rw [v3]; decide), if_pos v3]
    obtain ⟨kr1, kr', uz1, uz', ul1, ul', ks1, ks', ku', g', rg', so', tl', su', qu', wa', ru', e1, e2, e3, e4, e5⟩ := end_ok (g := g1) (rg := rg_ g1) (kr := none) (ru := -1) hK1 hi (Or.inl ⟨rfl, rfl, hne, g1, rfl⟩) g.1 sp
    rw [e1, Option.bind_some, Option.bind_some, show rg_ g 8 = g.1 from rfl, e3, Option.bind_some]
    unfold tc_K_settle_j42
    dsimp only
    rw [e2, Option.bind_some]
    exact ⟨kr', uz', ul', ks', kv1, kz, ku', cb1, g', q, rg', so', kv1, tl', su', qu', wa', ru', rfl, rfl, e4, e5⟩
  · simp only [if_neg v3]
    by_cases v2 : v = 2
    · simp only [if_neg (show ¬ v = 1 by rw [v2]; decide), if_pos v2]
      rw [if_pos (in_nI hi (by decide)), nI_clamp (by omega), show rg_ g 1 = g.2.2.2.2.1 from rfl]
      have fin : ∀ (uz2 : Int32) (ul2 : Nat → Option Nat) (ks2 kz2 so2 tl2 qu2 : Nat → Int32) (wa2 : Int32), KB uz2 ul2 ks2 kv1 kz2 ku cb1 cb1 so2 kv1 tl2 su qu2 wa2 → (∀ j, j < 4 → ks2 j ≠ 1) → kc_ok sp (tc_K_settle_j42 none uz2 ul2 ks2 kv1 kz2 ku cb1 g1.1 g1.2.1 g1.2.2.1 g1.2.2.2.1 g1.2.2.2.2.1 g1.2.2.2.2.2.1 g1.2.2.2.2.2.2.1 g1.2.2.2.2.2.2.2.1 g1.2.2.2.2.2.2.2.2 q.1 q.2.1 q.2.2.1 q.2.2.2.1 q.2.2.2.2.1 q.2.2.2.2.2.1 q.2.2.2.2.2.2.1 q.2.2.2.2.2.2.2.1 q.2.2.2.2.2.2.2.2) (mo_kernel_j74 cb1 (rg_ g1) so2 kv1 tl2 su qu2 wa2 (-1) sp) := by
        intro uz2 ul2 ks2 kz2 so2 tl2 qu2 wa2 hK2 h1
        obtain ⟨kr', uz', ul', ks', g', rg', so', qu', wa', ru', e1, e2, e3, e4⟩ := nx_ok (g := g1) (rg := rg_ g1) (kr := none) (ru := -1) hK2 (Or.inl ⟨rfl, rfl, h1, g1, rfl⟩) sp
        unfold tc_K_settle_j42 mo_kernel_j74
        rw [e1, e2]
        exact ⟨kr', uz', ul', ks', kv1, kz2, ku, cb1, g', q, rg', so', kv1, tl2, su, qu', wa', ru', rfl, rfl, e3, e4⟩
      unfold tc_K_putToSleep
      obtain ⟨-, rfl, -, f4, f5, f6, L, f7, f8⟩ := hK1
      by_cases x0 : g.2.2.2.2.1 = 0
      · have hn : i ∉ L := fun q => n2 (f8 i q)
        obtain ⟨uz', wa', ul', qu', r1, r2, r3⟩ := last_ok f7 hi hn so
        rw [if_pos x0, if_pos x0, r1, Option.bind_some, r2, Option.bind_some, Option.bind_some]
        refine fin uz' ul' (upd so i 2) kz (upd so i 2) (upd tl i g.2.2.2.2.1) qu' wa' ⟨rfl, rfl, rfl, f4, f5, ?_, L ++ [i], r3, ?_⟩ ?_
        · intro j hj hs
          by_cases e : j = i
          · rw [e, upd_eq] at hs
            exact absurd hs (by decide)
          · rw [upd_ne e] at hs ⊢
            exact f6 j hj hs
        · intro j hj
          by_cases e : j = i
          · rw [e, upd_eq]
          · rw [upd_ne e]
            rcases List.mem_append.mp hj with hj | hj
            · exact f8 j hj
            · simp only [List.mem_cons, List.not_mem_nil, or_false] at hj
              exact absurd hj e
        · intro j hj
          by_cases e : j = i
          · rw [e, upd_eq]; decide
          · rw [upd_ne e]; exact hne j hj e
      · rw [if_neg x0, if_neg x0, if_pos hi, Option.bind_some]
        refine fin uz ul (upd so i 3) (upd kz i g.2.2.2.2.1) (upd so i 3) (upd tl i g.2.2.2.2.1) qu wa ⟨rfl, rfl, rfl, f4, f5, ?_, L, f7, ?_⟩ ?_
        · intro j hj hs
          by_cases e : j = i
          · rw [e, upd_eq, upd_eq]
          · rw [upd_ne e] at hs
            rw [upd_ne e, upd_ne e]
            exact f6 j hj hs
        · intro j hj
          have : j ≠ i := fun q => n2 (q ▸ f8 j hj)
          rw [upd_ne this]
          exact f8 j hj
        · intro j hj
          by_cases e : j = i
          · rw [e, upd_eq]; decide
          · rw [upd_ne e]; exact hne j hj e
    · simp only [if_neg v2]
      have eso' : so = ks := eso
      subst eso'
      by_cases v1 : v = 1
      · rw [if_pos v1]
        unfold tc_K_fork
        rcases lf_ok so with ⟨c, hc, hc0, l1, l2⟩ | ⟨l1, l2⟩
        · rw [l1, l2, Option.bind_some]
          unfold mo_kernel_j104
          rw [if_neg (show ¬ v = 4 by rw [v1]; decide), if_pos v1, if_neg (show ¬ (4 : Int32) ≤ nI c by rw [show (4 : Int32) = nI 4 by decide, nI_leI (by omega) (by omega)]; omega)]
          have hci : c ≠ i := fun q => by rw [q, hs1] at hc0; exact absurd hc0 (by decide)
          by_cases x128 : g.2.2.2.2.1 < 128
          · rw [show opt_c (some c) (tc_K_fork_j18 i uz ul so kv1 cb1 q.1 q.2.1 q.2.2.1 q.2.2.2.1 q.2.2.2.2.1 q.2.2.2.2.2.1 q.2.2.2.2.2.2.1 q.2.2.2.2.2.2.2.1 q.2.2.2.2.2.2.2.2) (fun i12 => if g.2.2.2.2.1 < 128 then if i < 4 then if i12 < 4 then (tc_Y_copyBlock (nI i) (nI i12) cb1).bind fun z16 => (tc_K_begin i12 ((128 * (nI i12)) + g.2.2.2.2.1) g.1 uz ul so kv1 z16 q.1 q.2.1 q.2.2.1 q.2.2.2.1 q.2.2.2.2.1 q.2.2.2.2.2.1 q.2.2.2.2.2.2.1 q.2.2.2.2.2.2.2.1 q.2.2.2.2.2.2.2.2).bind fun z17 => (tc_K_succeed i (nI i12) z17.2.2.2.1 z17.2.2.2.2.1).bind fun z18 => some (z17.1, z17.2.1, z17.2.2.1, z17.2.2.2.1, z18, z17.2.2.2.2.2.1, z17.2.2.2.2.2.2.1, z17.2.2.2.2.2.2.2.1, z17.2.2.2.2.2.2.2.2.1, z17.2.2.2.2.2.2.2.2.2.1, z17.2.2.2.2.2.2.2.2.2.2.1, z17.2.2.2.2.2.2.2.2.2.2.2.1, z17.2.2.2.2.2.2.2.2.2.2.2.2.1, z17.2.2.2.2.2.2.2.2.2.2.2.2.2) else none else none else tc_K_fork_j18 i uz ul so kv1 cb1 q.1 q.2.1 q.2.2.1 q.2.2.2.1 q.2.2.2.2.1 q.2.2.2.2.2.1 q.2.2.2.2.2.2.1 q.2.2.2.2.2.2.2.1 q.2.2.2.2.2.2.2.2) = (tc_Y_copyBlock (nI i) (nI c) cb1).bind fun z16 => (tc_K_begin c ((128 * (nI c)) + g.2.2.2.2.1) g.1 uz ul so kv1 z16 q.1 q.2.1 q.2.2.1 q.2.2.2.1 q.2.2.2.2.1 q.2.2.2.2.2.1 q.2.2.2.2.2.2.1 q.2.2.2.2.2.2.2.1 q.2.2.2.2.2.2.2.2).bind fun z17 => (tc_K_succeed i (nI c) z17.2.2.2.1 z17.2.2.2.2.1).bind fun z18 => some (z17.1, z17.2.1, z17.2.2.1, z17.2.2.2.1, z18, z17.2.2.2.2.2.1, z17.2.2.2.2.2.2.1, z17.2.2.2.2.2.2.2.1, z17.2.2.2.2.2.2.2.2.1, z17.2.2.2.2.2.2.2.2.2.1, z17.2.2.2.2.2.2.2.2.2.2.1, z17.2.2.2.2.2.2.2.2.2.2.2.1, z17.2.2.2.2.2.2.2.2.2.2.2.2.1, z17.2.2.2.2.2.2.2.2.2.2.2.2.2) from by
              show (if g.2.2.2.2.1 < 128 then if i < 4 then if c < 4 then _ else none else none else _) = _
              rw [if_pos x128, if_pos hi, if_pos hc]]
            rw [show rg_ g 1 = g.2.2.2.2.1 from rfl, show rg_ g 8 = g.1 from rfl, if_neg (Int32.not_le.mpr x128)]
            have ecp : tc_Y_copyBlock (nI i) (nI c) cb1 = some (cy2_ i c 128 cb1) := cp_tc i c 128 (by omega) cb1
            rw [ecp, Option.bind_some]
            rw [show mo_kernel_l142 129 (nI i) g.2.2.2.2.1 g.1 (nI c) 0 cb1 (rg_ g1) so kv1 tl su qu wa (-1) sp = _ from cp_mo i c g.2.2.2.2.1 g.1 (rg_ g1) so kv1 tl su qu wa (-1) sp 128 (by omega) cb1, mo_kernel_l142_s, if_pos (show (128 : Int32) ≤ nI 128 by decide)]
            have hK2 : KB uz ul so kv1 kz ku (cy2_ i c 128 cb1) (cy2_ i c 128 cb1) so kv1 tl su qu wa := KB_cb hK1 (cy2_ok i c 128 cb1 a2)
            obtain ⟨uz', ul', cb', q', qu', wa', b1, b2, b3⟩ := bg_ok hK2 hc hc0 (128 * nI c + g.2.2.2.2.1) g.1 q
            rw [b1, Option.bind_some, b2, Option.bind_some]
            dsimp only
            obtain ⟨cb3, s1, s2, s3⟩ := suc_ok b3.2.2.2.2.1 hi (nI c) (upd kv1 c (nI (128 * c + 116)))
            rw [s1, Option.bind_some, Option.bind_some, s3, Option.bind_some]
            dsimp only
            have := back uz' ul' (upd so c 2) (upd kv1 c (nI (128 * c + 116))) cb3 (upd so c 2) qu' wa' q' (KB_cb b3 s2) (by
              intro j hj hn
              by_cases e : j = c
              · rw [e, upd_eq]; decide
              · rw [upd_ne e]; exact hne j hj hn) (by rw [upd_ne (Ne.symm hci)]; exact n2) (by rw [upd_ne (Ne.symm hci)]; exact n3)
            rw [Option.bind_assoc]
            exact this
          · rw [show opt_c (some c) (tc_K_fork_j18 i uz ul so kv1 cb1 q.1 q.2.1 q.2.2.1 q.2.2.2.1 q.2.2.2.2.1 q.2.2.2.2.2.1 q.2.2.2.2.2.2.1 q.2.2.2.2.2.2.2.1 q.2.2.2.2.2.2.2.2) (fun i12 => if g.2.2.2.2.1 < 128 then if i < 4 then if i12 < 4 then (tc_Y_copyBlock (nI i) (nI i12) cb1).bind fun z16 => (tc_K_begin i12 ((128 * (nI i12)) + g.2.2.2.2.1) g.1 uz ul so kv1 z16 q.1 q.2.1 q.2.2.1 q.2.2.2.1 q.2.2.2.2.1 q.2.2.2.2.2.1 q.2.2.2.2.2.2.1 q.2.2.2.2.2.2.2.1 q.2.2.2.2.2.2.2.2).bind fun z17 => (tc_K_succeed i (nI i12) z17.2.2.2.1 z17.2.2.2.2.1).bind fun z18 => some (z17.1, z17.2.1, z17.2.2.1, z17.2.2.2.1, z18, z17.2.2.2.2.2.1, z17.2.2.2.2.2.2.1, z17.2.2.2.2.2.2.2.1, z17.2.2.2.2.2.2.2.2.1, z17.2.2.2.2.2.2.2.2.2.1, z17.2.2.2.2.2.2.2.2.2.2.1, z17.2.2.2.2.2.2.2.2.2.2.2.1, z17.2.2.2.2.2.2.2.2.2.2.2.2.1, z17.2.2.2.2.2.2.2.2.2.2.2.2.2) else none else none else tc_K_fork_j18 i uz ul so kv1 cb1 q.1 q.2.1 q.2.2.1 q.2.2.2.1 q.2.2.2.2.1 q.2.2.2.2.2.1 q.2.2.2.2.2.2.1 q.2.2.2.2.2.2.2.1 q.2.2.2.2.2.2.2.2) = tc_K_fork_j18 i uz ul so kv1 cb1 q.1 q.2.1 q.2.2.1 q.2.2.2.1 q.2.2.2.2.1 q.2.2.2.2.2.1 q.2.2.2.2.2.2.1 q.2.2.2.2.2.2.2.1 q.2.2.2.2.2.2.2.2 from if_neg x128]
            rw [show rg_ g 1 = g.2.2.2.2.1 from rfl, if_pos (Int32.not_lt.mp x128)]
            unfold tc_K_fork_j18 mo_kernel_j210 mo_kernel_j224
            obtain ⟨cb3, s1, s2, s3⟩ := fai_ok a2 hi 1 kv1
            rw [s1, if_pos v1, s3, Option.bind_some, Option.bind_some, Option.bind_some, Option.bind_assoc]
            exact back uz ul so kv1 cb3 so qu wa q (KB_cb hK1 s2) hne n2 n3
        · rw [l1, l2, Option.bind_some]
          unfold mo_kernel_j104
          rw [if_neg (show ¬ v = 4 by rw [v1]; decide), if_pos v1, if_pos (show (4 : Int32) ≤ nI 4 by decide)]
          show kc_ok sp ((((tc_K_fork_j18 i uz ul so kv1 cb1 q.1 q.2.1 q.2.2.1 q.2.2.2.1 q.2.2.2.2.1 q.2.2.2.2.2.1 q.2.2.2.2.2.2.1 q.2.2.2.2.2.2.2.1 q.2.2.2.2.2.2.2.2).bind _)).bind _) _
          unfold tc_K_fork_j18 mo_kernel_j210 mo_kernel_j224
          obtain ⟨cb3, s1, s2, s3⟩ := fai_ok a2 hi 1 kv1
          rw [s1, if_pos v1, s3, Option.bind_some, Option.bind_some, Option.bind_some, Option.bind_assoc]
          exact back uz ul so kv1 cb3 so qu wa q (KB_cb hK1 s2) hne n2 n3
      · simp only [if_neg v1]
        have any : ∀ c : Int32, mo_kernel_l82 5 v (nI i) (rg_ g 1) (rg_ g 8) 0 cb1 (rg_ g1) so kv1 tl su qu wa (-1) sp = mo_kernel_j104 v (nI i) (rg_ g 1) (rg_ g 8) c cb1 (rg_ g1) so kv1 tl su qu wa (-1) sp := by
          intro c
          have e : ∀ c2, mo_kernel_j104 v (nI i) (rg_ g 1) (rg_ g 8) c2 cb1 (rg_ g1) so kv1 tl su qu wa (-1) sp = mo_kernel_j104 v (nI i) (rg_ g 1) (rg_ g 8) c cb1 (rg_ g1) so kv1 tl su qu wa (-1) sp := by
            intro c2
            unfold mo_kernel_j104
            rw [if_neg v1, if_neg v1]
          rcases lf_ok so with ⟨c3, -, -, -, l2⟩ | ⟨-, l2⟩
          · rw [l2, e]
          · rw [l2, e]
        rw [any 0]
        unfold mo_kernel_j104
        by_cases v4 : v = 4
        · simp only [if_pos v4]
          rw [if_pos hi]
          obtain ⟨cb3, s1, s2, s3⟩ := suc_ok a2 hi (nI i) kv1
          rw [s1, s3, Option.bind_some, Option.bind_some, Option.bind_assoc]
          exact back uz ul so kv1 cb3 so qu wa q (KB_cb hK1 s2) hne n2 n3
        · simp only [if_neg v4, if_neg v1]
          unfold mo_kernel_j210 mo_kernel_j224
          obtain ⟨cb3, s1, s2, s3⟩ := fai_ok a2 hi 2 kv1
          rw [s1, if_neg v1, s3, Option.bind_some, Option.bind_some, Option.bind_assoc]
          exact back uz ul so kv1 cb3 so qu wa q (KB_cb hK1 s2) hne n2 n3
end KC
