/-! Ticks are served; cycles pass. -/
section SV
variable {uz : Int32} {ul : Nat → Option Nat} {ks kv kz ku cb : Nat → Int32} {me so sv tl su qu : Nat → Int32} {wa : Int32} {kr : Option Nat} {ru : Int32} {g : R9} {rg : Nat → Int32}
theorem RN_ks (hR : RN kr ru ks g rg) {k : Nat} {v : Int32} (h1 : ks k ≠ 1) (hv : v ≠ 1) : RN kr ru (upd ks k v) g rg := by
  rcases hR with ⟨h, h2, h3, h4⟩ | ⟨i, hi, h2, h3, h4, h5, h6⟩
  · refine Or.inl ⟨h, h2, ?_, h4⟩
    intro i hi
    by_cases e : i = k
    · rw [e, upd_eq]; exact hv
    · rw [upd_ne e]; exact h3 i hi
  · refine Or.inr ⟨i, hi, h2, h3, ?_, ?_, h6⟩
    · rw [upd_ne (show i ≠ k from fun e => h1 (e ▸ h4))]
      exact h4
    · intro j hj hs
      by_cases e : j = k
      · rw [e, upd_eq] at hs
        exact absurd hs hv
      · rw [upd_ne e] at hs
        exact h5 j hj hs
theorem ready_ok (hK : KB uz ul ks kv kz ku cb me so sv tl su qu wa) {i : Nat} (hi : i < 4) (n2 : ks i ≠ 2) {kz' tl' : Nat → Int32} (hz : ∀ j, j ≠ i → kz' j = kz j) (ht : ∀ j, j ≠ i → tl' j = tl j) : ∃ (uz' wa' : Int32) (ul' : Nat → Option Nat) (qu' : Nat → Int32), tc_K_makeReady i uz ul ks = some (uz', ul', upd ks i 2) ∧ mo_comeLast (nI i) so qu wa = some (upd ks i 2, qu', wa') ∧ KB uz' ul' (upd ks i 2) kv kz' ku cb me (upd ks i 2) sv tl' su qu' wa' := by
  obtain ⟨rfl, rfl, rfl, rfl, hB, hsl, L, hQ, hL⟩ := hK
  have hn : i ∉ L := fun q => n2 (hL i q)
  obtain ⟨uz', wa', ul', qu', r1, r2, r3⟩ := last_ok hQ hi hn so
  refine ⟨uz', wa', ul', qu', r1, r2, ⟨rfl, rfl, rfl, rfl, hB, ?_, L ++ [i], r3, ?_⟩⟩
  · intro j hj hs
    by_cases e : j = i
    · rw [e, upd_eq] at hs
      exact absurd hs (by decide)
    · rw [upd_ne e] at hs
      rw [hz j e, ht j e]
      exact hsl j hj hs
  · intro j hj
    by_cases e : j = i
    · rw [e, upd_eq]
    · rw [upd_ne e]
      rcases List.mem_append.mp hj with hj | hj
      · exact hL j hj
      · simp only [List.mem_cons, List.not_mem_nil, or_false] at hj
        exact absurd hj e
/-- what a served tick leaves -/
def sv_ok (ku su : Nat → Int32) (pn : Bool) (se sp : Int32) (c : Option (Option Nat × Int32 × (Nat → Option Nat) × (Nat → Int32) × (Nat → Int32) × (Nat → Int32) × (Nat → Int32) × R9)) (m : Option ((Nat → Int32) × (Nat → Int32) × (Nat → Int32) × (Nat → Int32) × (Nat → Int32) × (Nat → Int32) × Int32 × Int32 × Bool × Int32 × Int32)) : Prop :=
  ∃ (kr' : Option Nat) (uz' : Int32) (ul' : Nat → Option Nat) (ks' kv' kz' cb' : Nat → Int32) (g' : R9) (rg' so' sv' tl' qu' : Nat → Int32) (wa' ru' : Int32), c = some (kr', uz', ul', ks', kv', kz', cb', g') ∧ m = some (cb', rg', so', sv', tl', qu', wa', ru', pn, se, sp) ∧ KB uz' ul' ks' kv' kz' ku cb' cb' so' sv' tl' su qu' wa' ∧ RN kr' ru' ks' g' rg'
theorem sv_nx (hK : KB uz ul ks kv kz ku cb cb so sv tl su qu wa) (hR : RN kr ru ks g rg) (pn : Bool) (se sp : Int32) : sv_ok ku su pn se sp (tc_K_serveTick_j82 kr uz ul ks kv kz cb g.1 g.2.1 g.2.2.1 g.2.2.2.1 g.2.2.2.2.1 g.2.2.2.2.2.1 g.2.2.2.2.2.2.1 g.2.2.2.2.2.2.2.1 g.2.2.2.2.2.2.2.2) (mo_serve_j80 cb rg so sv tl qu wa ru pn se sp) := by
  obtain ⟨kr', uz', ul', ks', g', rg', so', qu', wa', ru', e1, e2, e3, e4⟩ := nx_ok hK hR sp
  unfold tc_K_serveTick_j82 mo_serve_j80
  rw [e1, e2]
  exact ⟨kr', uz', ul', ks', kv, kz, cb, g', rg', so', sv, tl, qu', wa', ru', rfl, rfl, e3, e4⟩
theorem sv_loop (pn : Bool) (se sp : Int32) : ∀ (r : Nat), r ≤ 4 → ∀ (uz : Int32) (ul : Nat → Option Nat) (ks kz so tl qu : Nat → Int32) (wa : Int32), KB uz ul ks kv kz ku cb cb so sv tl su qu wa → RN kr ru ks g rg → sv_ok ku su pn se sp (tc_K_serveTick_l2 (r + 1) (nI (4 - r)) kr uz ul ks kv kz cb g.1 g.2.1 g.2.2.1 g.2.2.2.1 g.2.2.2.2.1 g.2.2.2.2.2.1 g.2.2.2.2.2.2.1 g.2.2.2.2.2.2.2.1 g.2.2.2.2.2.2.2.2) (mo_serve_l22 (r + 1) ru (nI (4 - r)) cb rg so sv tl qu wa ru pn se sp) := by
  intro r
  induction r with
  | zero =>
    intro _ uz ul ks kz so tl qu wa hK hR
    rw [tc_K_serveTick_l2_s, mo_serve_l22_s, if_pos (show (4 : Int32) ≤ nI (4 - 0) by decide), if_pos (show (4 : Int32) ≤ nI (4 - 0) by decide)]
    have hR0 := hR
    rcases hR with ⟨rfl, rfl, h3, h4⟩ | ⟨i, hi, rfl, rfl, h4, h5, rfl, h7⟩
    · rw [if_pos (show (-1 : Int32) < 0 by decide)]
      exact sv_nx hK hR0 pn se sp
    · rw [if_neg (show ¬ nI i < 0 from Int32.not_lt.mpr (nI_pos' (by omega)))]
      have esv := hK.2.2.1
      subst esv
      obtain ⟨kv1, cb1, g1, a1, a2, a3, a4⟩ := stack_ok hK.2.2.2.2.1 hi sv h7 sp
      show sv_ok ku su pn se sp ((tc_K_stack_G i sv cb g.1 g.2.1 g.2.2.1 g.2.2.2.1 g.2.2.2.2.1 g.2.2.2.2.2.1 g.2.2.2.2.2.2.1 g.2.2.2.2.2.2.2.1 g.2.2.2.2.2.2.2.2).bind _) _
      rw [a1, a4, Option.bind_some, Option.bind_some]
      have hK1 : KB uz ul ks kv1 kz ku cb1 cb1 so kv1 tl su qu wa := KB_cb hK a2
      obtain ⟨uz', wa', ul', qu', r1, r2, r3⟩ := ready_ok hK1 hi (by rw [h4]; decide) (kz' := kz) (tl' := tl) (fun _ _ => rfl) (fun _ _ => rfl)
      rw [r1, r2, Option.bind_some, Option.bind_some]
      refine sv_nx (g := g1) r3 (Or.inl ⟨rfl, rfl, ?_, g1, rfl⟩) pn se sp
      intro j hj
      by_cases e : j = i
      · rw [e, upd_eq]; decide
      · rw [upd_ne e]; exact fun q => e (h5 j hj q)
  | succ r ih =>
    intro hr uz ul ks kz so tl qu wa hK hR
    have h4 : ¬ (4 : Int32) ≤ nI (4 - (r + 1)) := by
      rw [show (4 : Int32) = nI 4 by decide, nI_leI (by omega) (by omega)]
      omega
    have hin : in_b (nI (4 - (r + 1))) 4 = true := in_nI (by omega) (by decide)
    have hk : 4 - (r + 1) < 4 := by omega
    have eso := hK.2.1
    subst eso
    have fin : ∀ (uz : Int32) (ul : Nat → Option Nat) (ks kz so tl qu : Nat → Int32) (wa : Int32), KB uz ul ks kv kz ku cb cb so sv tl su qu wa → RN kr ru ks g rg → sv_ok ku su pn se sp (tc_K_serveTick_j44 (tc_K_serveTick_l2 (r + 1)) (nI (4 - (r + 1))) kr uz ul ks kv kz cb g.1 g.2.1 g.2.2.1 g.2.2.2.1 g.2.2.2.2.1 g.2.2.2.2.2.1 g.2.2.2.2.2.2.1 g.2.2.2.2.2.2.2.1 g.2.2.2.2.2.2.2.2) (mo_serve_j61 (mo_serve_l22 (r + 1)) ru (nI (4 - (r + 1))) cb rg so sv tl qu wa ru pn se sp) := by
      intro uz ul ks kz so tl qu wa hK hR
      unfold tc_K_serveTick_j44 mo_serve_j61
      rw [i_inc, show 4 - (r + 1) + 1 = 4 - r by omega]
      exact ih (by omega) uz ul ks kz so tl qu wa hK hR
    rw [tc_K_serveTick_l2_s, mo_serve_l22_s, if_neg h4, if_neg h4, if_pos hin, if_pos hin, nI_clamp (by omega), if_pos hk]
    by_cases h3 : so (4 - (r + 1)) = 3
    · have ez := hK.2.2.2.2.2.1 _ hk h3
      rw [if_pos h3, if_pos h3, upd_eq, upd_eq, ez]
      by_cases h0 : tl (4 - (r + 1)) - 1 = 0
      · rw [if_pos h0, if_pos h0]
        obtain ⟨uz', wa', ul', qu', r1, r2, r3⟩ := ready_ok hK hk (by rw [h3]; decide) (kz' := upd kz (4 - (r + 1)) (tl (4 - (r + 1)) - 1)) (tl' := upd tl (4 - (r + 1)) (tl (4 - (r + 1)) - 1)) (fun j e => upd_ne e) (fun j e => upd_ne e)
        rw [r1, r2, Option.bind_some, Option.bind_some]
        exact fin _ _ _ _ _ _ _ _ r3 (RN_ks hR (by rw [h3]; decide) (by decide))
      · rw [if_neg h0, if_neg h0]
        refine fin _ _ _ _ _ _ _ _ ?_ hR
        obtain ⟨b1, b2, b3, b4, b5, b6, b7⟩ := hK
        refine ⟨b1, b2, b3, b4, b5, ?_, b7⟩
        intro j hj hs
        by_cases e : j = 4 - (r + 1)
        · rw [e, upd_eq, upd_eq]
        · rw [upd_ne e, upd_ne e]
          exact b6 j hj hs
    · rw [if_neg h3, if_neg h3]
      exact fin _ _ _ _ _ _ _ _ hK hR
theorem serve_ok (hK : KB uz ul ks kv kz ku cb cb so sv tl su qu wa) (hR : RN kr ru ks g rg) (pn : Bool) (se sp : Int32) : sv_ok ku su false (se + 1) sp (tc_K_serveTick kr uz ul ks kv kz cb g.1 g.2.1 g.2.2.1 g.2.2.2.1 g.2.2.2.2.1 g.2.2.2.2.2.1 g.2.2.2.2.2.2.1 g.2.2.2.2.2.2.2.1 g.2.2.2.2.2.2.2.2) (mo_serve cb rg so sv tl qu wa ru pn se sp) := sv_loop false (se + 1) sp 4 (by omega) uz ul ks kz so tl qu wa hK hR
end SV
theorem pass_ok (x pe re : Int32) (pn : Bool) (lo pa : Int32) : ∃ (re' : Int32) (pn' : Bool) (lo' pa' : Int32), mo_pass x pe re pn lo pa = some (re', pn', lo', pa') ∧ tc_I_letPass x pe re pa lo pn = some (re', pa', lo', pn') ∧ (pe = 0 → re' = re) := by
  unfold mo_pass tc_I_letPass
  by_cases h : pe = 0
  · rw [if_pos h, if_pos h]
    exact ⟨re, pn, lo, pa + x, rfl, rfl, fun _ => rfl⟩
  · rw [if_neg h, if_neg h]
    by_cases h2 : re - x ≤ 0
    · rw [if_pos h2, if_neg (Int32.not_lt.mpr h2)]
      cases pn with
      | false => exact ⟨re - x + pe, true, lo, pa + x, by rw [if_pos (show bz_i false = 0 from rfl)]; unfold mo_pass_j66; rw [show bz_i false = 0 from rfl, i_a0], rfl, fun e => absurd e h⟩
      | true => exact ⟨re - x + pe, true, lo + 1, pa + x, rfl, rfl, fun e => absurd e h⟩
    · rw [if_neg h2, if_pos (Int32.not_le.mp h2)]
      exact ⟨re - x, pn, lo, pa + x, rfl, rfl, fun e => absurd e h⟩
