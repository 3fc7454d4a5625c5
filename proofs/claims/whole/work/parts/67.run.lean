/-! run. -/
theorem nq_m1 {n : Nat} (h : n < 256) : ¬ nI n = -1 := (by decide +kernel : ∀ n, n < 256 → ¬ nI n = -1) n h
theorem nq_m2 {n : Nat} (h : n < 256) : ¬ nI n = -2 := (by decide +kernel : ∀ n, n < 256 → ¬ nI n = -2) n h
theorem and_12 (x : Int32) : ((x + 1) &&& 65535) + 1 &&& 65535 = (x + 2) &&& 65535 := by
  rw [mask_add, Int32.add_assoc]
  rfl
theorem nq_of {n : Int32} (h1 : ¬ n < 0) (h2 : n ≤ 400) : ∃ N : Nat, N ≤ 400 ∧ n = nI N := by
  rw [Int32.lt_iff_toInt_lt] at h1
  rw [Int32.le_iff_toInt_le] at h2
  have e0 : (0 : Int32).toInt = 0 := by decide
  have e4 : (400 : Int32).toInt = 400 := by decide
  rw [e0] at h1
  rw [e4] at h2
  refine ⟨n.toInt.toNat, by omega, ?_⟩
  apply Int32.toInt_inj.mp
  rw [nI_toInt (by omega)]
  omega
/-- what a run leaves -/
def rn_ok (pe : Int32) (c : Option (Int32 × (Option Nat) × Int32 × (Nat → Option Nat) × (Nat → Int32) × (Nat → Int32) × (Nat → Int32) × (Nat → Int32) × (Nat → Int32) × Int32 × Int32 × Int32 × Int32 × Int32 × Int32 × Int32 × Int32 × Int32 × Int32 × Int32 × Int32 × Int32 × Int32 × Int32 × Int32 × Int32 × Int32 × Int32 × Int32 × Int32 × Int32 × Int32 × Int32 × Bool)) (m : Option (Int32 × (Nat → Int32) × (Nat → Int32) × (Nat → Int32) × (Nat → Int32) × (Nat → Int32) × (Nat → Int32) × (Nat → Int32) × Int32 × Int32 × Int32 × Bool × Int32 × Int32 × Int32 × Int32 × Bool)) : Prop :=
  ∃ (v : Int32) (kr' : Option Nat) (uz' : Int32) (ul' : Nat → Option Nat) (ks' kv' kz' ku' cb' : Nat → Int32) (g' q' : R9) (py' po' re' pa' se' lo' : Int32) (pn' : Bool) (rg' so' sv' tl' su' qu' : Nat → Int32) (wa' ru' sp' : Int32) (iv' : Bool), c = some (v, kr', uz', ul', ks', kv', kz', ku', cb', g'.1, g'.2.1, g'.2.2.1, g'.2.2.2.1, g'.2.2.2.2.1, g'.2.2.2.2.2.1, g'.2.2.2.2.2.2.1, g'.2.2.2.2.2.2.2.1, g'.2.2.2.2.2.2.2.2, q'.1, q'.2.1, q'.2.2.1, q'.2.2.2.1, q'.2.2.2.2.1, q'.2.2.2.2.2.1, q'.2.2.2.2.2.2.1, q'.2.2.2.2.2.2.2.1, q'.2.2.2.2.2.2.2.2, py', po', re', pa', se', lo', pn') ∧ m = some (v, cb', rg', so', sv', tl', su', qu', wa', ru', re', pn', lo', se', pa', sp', iv') ∧ KB uz' ul' ks' kv' kz' ku' cb' cb' so' sv' tl' su' qu' wa' ∧ RN kr' ru' ks' g' rg' ∧ (pe = 0 → re' = 0)
section RR
variable {uz : Int32} {ul : Nat → Option Nat} {ks kv kz ku cb : Nat → Int32} {so sv tl su qu : Nat → Int32} {wa : Int32} {kr : Option Nat} {ru : Int32} {g : R9} {rg : Nat → Int32}
/-- one instruction and the kernel behind it -/
theorem step_ok (hK : KB uz ul ks kv kz ku cb cb so sv tl su qu wa) {i : Nat} (hi : i < 4) (hs1 : ks i = 1) (hu : ∀ j, j < 4 → ks j = 1 → j = i) (hg : og_ g) (py0 po0 sp : Int32) (iv : Bool) (q : R9) : ∃ (r py' : Int32) (iv' : Bool) (cb1 : Nat → Int32) (g1 : R9) (kr' : Option Nat) (uz' : Int32) (ul' : Nat → Option Nat) (ks' kv' kz' ku' cb' : Nat → Int32) (g' q' : R9) (rg' so' sv' tl' su' qu' : Nat → Int32) (wa' ru' : Int32), tc_P_execute py0 po0 cb g.1 g.2.1 g.2.2.1 g.2.2.2.1 g.2.2.2.2.1 g.2.2.2.2.2.1 g.2.2.2.2.2.2.1 g.2.2.2.2.2.2.2.1 g.2.2.2.2.2.2.2.2 = some (r, py', r, cb1, g1) ∧ tc_K_settle r (some i) uz ul ks kv kz ku cb1 g1.1 g1.2.1 g1.2.2.1 g1.2.2.2.1 g1.2.2.2.2.1 g1.2.2.2.2.2.1 g1.2.2.2.2.2.2.1 g1.2.2.2.2.2.2.2.1 g1.2.2.2.2.2.2.2.2 q.1 q.2.1 q.2.2.1 q.2.2.2.1 q.2.2.2.2.1 q.2.2.2.2.2.1 q.2.2.2.2.2.2.1 q.2.2.2.2.2.2.2.1 q.2.2.2.2.2.2.2.2 = some (kr', uz', ul', ks', kv', kz', ku', cb', g'.1, g'.2.1, g'.2.2.1, g'.2.2.2.1, g'.2.2.2.2.1, g'.2.2.2.2.2.1, g'.2.2.2.2.2.2.1, g'.2.2.2.2.2.2.2.1, g'.2.2.2.2.2.2.2.2, q') ∧ mo_instruction cb (rg_ g) so sv tl su qu wa (nI i) sp iv = some (cb', rg', so', sv', tl', su', qu', wa', ru', py', iv') ∧ KB uz' ul' ks' kv' kz' ku' cb' cb' so' sv' tl' su' qu' wa' ∧ RN kr' ru' ks' g' rg' := by
  have hB := hK.2.2.2.2.1
  obtain ⟨r, py', cb1, g1, x1, x2⟩ := exec_ok (so := so) (sv := sv) (tl := tl) (su := su) (qu := qu) (wa := wa) (ru := nI i) hB hg py0 po0 sp iv
  rcases x2 with ⟨rfl, b2, b3, b4⟩ | ⟨rfl, rfl, b2, g0, b4⟩ | ⟨b1, rfl, rfl, rfl, b4⟩
  · have esv := hK.2.2.1
    subst esv
    exact ⟨-1, py', false, cb1, g1, some i, uz, ul, ks, sv, kz, ku, cb1, g1, q, rg_ g1, so, sv, tl, su, qu, wa, nI i, x1, rfl, b4, KB_cb hK b2, Or.inr ⟨i, hi, rfl, rfl, hs1, hu, rfl, b3⟩⟩
  · have esv := hK.2.2.1
    subst esv
    have hK1 : KB uz ul ks sv kz ku cb1 cb1 so sv tl su qu wa := KB_cb hK b2
    obtain ⟨kr1, kr', uz1, uz', ul1, ul', ks1, ks', ku', g', rg', so', tl', su', qu', wa', ru', e1, e2, e3, e4, e5⟩ := end_ok (g := g1) (rg := rg_ g0) (kr := some i) (ru := nI i) hK1 hi (Or.inr ⟨i, hi, rfl, rfl, fun j hj _ q => hu j hj q, fun e => absurd rfl e, fun e => absurd rfl e, g0, rfl⟩) 255 1
    refine ⟨-2, 1, true, cb1, g1, kr', uz', ul', ks', sv, kz, ku', cb1, g', q, rg', so', sv, tl', su', qu', wa', ru', x1, ?_, ?_, e4, e5⟩
    · show ((tc_K_end i 255 (some i) uz ul ks ku).bind _) = _
      rw [e1, Option.bind_some]
      unfold tc_K_settle_j42
      dsimp only
      rw [e2]
      rfl
    · rw [show mo_instruction cb (rg_ g) so sv tl su qu wa (nI i) sp iv = _ from b4, e3]
      rfl
  · have hg1 : og_ (g.1, g.2.1, g.2.2.1, g.2.2.2.1, g.2.2.2.2.1, g.2.2.2.2.2.1, g.2.2.2.2.2.2.1, g.2.2.2.2.2.2.2.1, (g.2.2.2.2.2.2.2.2 + 2) &&& 65535) := ⟨hg.1, hg.2.1, hg.2.2.1, hg.2.2.2.1, hg.2.2.2.2.1, hg.2.2.2.2.2.1, hg.2.2.2.2.2.2.1, hg.2.2.2.2.2.2.2.1, rw_and _⟩
    obtain ⟨n, hn, en⟩ := rd_ok hB ((g.2.2.2.2.2.2.2.2 + 1) &&& 65535)
    have hv1 : ¬ r = -1 := by rw [b1, en]; exact nq_m1 hn
    have hv2 : ¬ r = -2 := by rw [b1, en]; exact nq_m2 hn
    obtain ⟨kr', uz', ul', ks', kv', kz', ku', cb', g', q', rg', so', sv', tl', su', qu', wa', ru', c1, c2, c3, c4⟩ := kcall (g := (g.1, g.2.1, g.2.2.1, g.2.2.2.1, g.2.2.2.2.1, g.2.2.2.2.2.1, g.2.2.2.2.2.2.1, g.2.2.2.2.2.2.2.1, (g.2.2.2.2.2.2.2.2 + 2) &&& 65535)) hK hi hs1 hu hg1 r 2 hv1 hv2 q
    refine ⟨r, 2, false, cb1, (g.1, g.2.1, g.2.2.1, g.2.2.2.1, g.2.2.2.2.1, g.2.2.2.2.2.1, g.2.2.2.2.2.2.1, g.2.2.2.2.2.2.2.1, (g.2.2.2.2.2.2.2.2 + 2) &&& 65535), kr', uz', ul', ks', kv', kz', ku', cb', g', q', rg', so', sv', tl', su', qu', wa', ru', x1, c1, ?_, c3, c4⟩
    rw [show mo_instruction cb1 (rg_ g) so sv tl su qu wa (nI i) sp iv = _ from b4, kq_eq, ← b1, show ((g.2.2.2.2.2.2.2.2 + 1) &&& 65535) + 1 &&& 65535 = (g.2.2.2.2.2.2.2.2 + 2) &&& 65535 from and_12 _, show (1 : Int32) + 1 = 2 by decide]
    rw [show kq_ r cb1 (rf_ g.1 g.2.1 g.2.2.1 g.2.2.2.1 g.2.2.2.2.1 g.2.2.2.2.2.1 g.2.2.2.2.2.2.1 g.2.2.2.2.2.2.2.1 ((g.2.2.2.2.2.2.2.2 + 2) &&& 65535)) so sv tl su qu wa (nI i) 2 = _ from c2]
    rfl
/-- behind the tick -/
theorem rj_ok {f : Nat} {v1 v2 pe : Int32} (hK : KB uz ul ks kv kz ku cb cb so sv tl su qu wa) (hR : RN kr ru ks g rg) (q : R9) (py po re pa se lo sp : Int32) (pn iv : Bool) (h0 : pe = 0 → re = 0) (ih : ∀ (uz : Int32) (ul : Nat → Option Nat) (ks kv kz ku cb : Nat → Int32) (so sv tl su qu : Nat → Int32) (wa : Int32) (kr : Option Nat) (ru : Int32) (g : R9) (rg : Nat → Int32) (q : R9) (py po re pa se lo sp : Int32) (pn iv : Bool), KB uz ul ks kv kz ku cb cb so sv tl su qu wa → RN kr ru ks g rg → (pe = 0 → re = 0) → rn_ok pe (tc_T_run_l15 (f + 1) v1 (v2 + 1) kr uz ul ks kv kz ku cb g.1 g.2.1 g.2.2.1 g.2.2.2.1 g.2.2.2.2.1 g.2.2.2.2.2.1 g.2.2.2.2.2.2.1 g.2.2.2.2.2.2.2.1 g.2.2.2.2.2.2.2.2 q.1 q.2.1 q.2.2.1 q.2.2.2.1 q.2.2.2.2.1 q.2.2.2.2.2.1 q.2.2.2.2.2.2.1 q.2.2.2.2.2.2.2.1 q.2.2.2.2.2.2.2.2 py po pe re pa se lo pn) (mo_run_l17 (f + 1) v1 (v2 + 1) true cb rg so sv tl su qu wa ru pe re pn lo se pa sp iv)) : rn_ok pe (tc_T_run_j54 (tc_T_run_l15 (f + 1)) v1 v2 kr uz ul ks kv kz ku cb g.1 g.2.1 g.2.2.1 g.2.2.2.1 g.2.2.2.2.1 g.2.2.2.2.2.1 g.2.2.2.2.2.2.1 g.2.2.2.2.2.2.2.1 g.2.2.2.2.2.2.2.2 q.1 q.2.1 q.2.2.1 q.2.2.2.1 q.2.2.2.2.1 q.2.2.2.2.2.1 q.2.2.2.2.2.2.1 q.2.2.2.2.2.2.2.1 q.2.2.2.2.2.2.2.2 py po pe re pa se lo pn) (mo_run_j53 (mo_run_l17 (f + 1)) v1 v2 true cb rg so sv tl su qu wa ru pe re pn lo se pa sp iv) := by
  have hR0 := hR
  have eone : ∀ (x : Int32), x + Int32.ofInt 1 = x + 1 := fun x => rfl
  rcases hR with ⟨rfl, rfl, h3, g0, rfl⟩ | ⟨i, hi, rfl, rfl, h4, h5, rfl, h7⟩
  · have em : mo_run_j53 (mo_run_l17 (f + 1)) v1 v2 true cb (rg_ g0) so sv tl su qu wa (-1) pe re pn lo se pa sp iv = (if pe ≤ 0 then mo_run_j95 (mo_run_l17 (f + 1)) v1 v2 false cb (rg_ g0) so sv tl su qu wa (-1) pe re pn lo se pa sp iv else (mo_pass re pe re pn lo pa).bind fun z11 => mo_run_j95 (mo_run_l17 (f + 1)) v1 v2 true cb (rg_ g0) so sv tl su qu wa (-1) pe z11.1 z11.2.1 z11.2.2.1 se z11.2.2.2 sp iv) := by
      unfold mo_run_j53
      rw [if_pos (show (-1 : Int32) < 0 by decide)]
    rw [em]
    show rn_ok pe (if pe ≤ 0 then _ else _) _
    by_cases hp : pe ≤ 0
    · rw [if_pos hp, if_pos hp]
      refine ⟨v2, none, uz, ul, ks, kv, kz, ku, cb, g, q, py, po, re, pa, se, lo, pn, rg_ g0, so, sv, tl, su, qu, wa, -1, sp, iv, rfl, ?_, hK, hR0, h0⟩
      unfold mo_run_j95 mo_run_j105
      rw [if_pos (show bz_i false = 0 from rfl), show bz_i false = 0 from rfl, i_a0, mo_run_l17_s, if_pos (show bz_i false = 0 from rfl)]
      by_cases h : v1 ≤ v2
      · rw [if_pos h]
      · rw [if_neg h]
    · rw [if_neg hp, if_neg hp]
      obtain ⟨re', pn', lo', pa', p1, p2, p3⟩ := pass_ok re pe re pn lo pa
      rw [p1, p2, Option.bind_some, Option.bind_some]
      unfold mo_run_j95 mo_run_j105 tc_T_run_j124
      rw [if_neg (show ¬ bz_i true = 0 by decide), show bz_i true = 1 from rfl, eone]
      exact ih _ _ _ _ _ _ _ _ _ _ _ _ _ _ _ _ _ _ _ _ _ _ _ _ _ _ _ hK hR0 (fun e => (p3 e).trans (h0 e))
  · obtain ⟨r, py', iv', cb1, g1, kr', uz', ul', ks', kv', kz', ku', cb', g', q', rg', so', sv', tl', su', qu', wa', ru', x1, x2, x3, x4, x5⟩ := step_ok hK hi h4 h5 h7 py po sp iv q
    have em : mo_run_j53 (mo_run_l17 (f + 1)) v1 v2 true cb (rg_ g) so sv tl su qu wa (nI i) pe re pn lo se pa sp iv = (mo_instruction cb (rg_ g) so sv tl su qu wa (nI i) sp iv).bind fun z12 => (mo_pass z12.2.2.2.2.2.2.2.2.2.1 pe re pn lo pa).bind fun z13 => mo_run_j95 (mo_run_l17 (f + 1)) v1 v2 true z12.1 z12.2.1 z12.2.2.1 z12.2.2.2.1 z12.2.2.2.2.1 z12.2.2.2.2.2.1 z12.2.2.2.2.2.2.1 z12.2.2.2.2.2.2.2.1 z12.2.2.2.2.2.2.2.2.1 pe z13.1 z13.2.1 z13.2.2.1 se z13.2.2.2 z12.2.2.2.2.2.2.2.2.2.1 z12.2.2.2.2.2.2.2.2.2.2 := by
      unfold mo_run_j53
      rw [if_neg (show ¬ nI i < 0 from Int32.not_lt.mpr (nI_pos' (by omega)))]
    rw [em, x3, Option.bind_some]
    show rn_ok pe ((tc_P_execute py po cb g.1 g.2.1 g.2.2.1 g.2.2.2.1 g.2.2.2.2.1 g.2.2.2.2.2.1 g.2.2.2.2.2.2.1 g.2.2.2.2.2.2.2.1 g.2.2.2.2.2.2.2.2).bind _) _
    rw [x1, Option.bind_some]
    dsimp only
    rw [x2, Option.bind_some]
    obtain ⟨re', pn', lo', pa', p1, p2, p3⟩ := pass_ok py' pe re pn lo pa
    rw [p1, p2, Option.bind_some, Option.bind_some]
    unfold mo_run_j95 mo_run_j105 tc_T_run_j124
    rw [if_neg (show ¬ bz_i true = 0 by decide), show bz_i true = 1 from rfl, eone]
    exact ih _ _ _ _ _ _ _ _ _ _ _ _ _ _ _ _ _ _ _ _ _ _ _ _ _ _ _ x4 x5 (fun e => (p3 e).trans (h0 e))
end RR
theorem run_loop (pe : Int32) (N : Nat) (hN : N ≤ 400) : ∀ (r : Nat), r ≤ N → ∀ (f : Nat), r < f → ∀ (uz : Int32) (ul : Nat → Option Nat) (ks kv kz ku cb : Nat → Int32) (so sv tl su qu : Nat → Int32) (wa : Int32) (kr : Option Nat) (ru : Int32) (g : R9) (rg : Nat → Int32) (q : R9) (py po re pa se lo sp : Int32) (pn iv : Bool), KB uz ul ks kv kz ku cb cb so sv tl su qu wa → RN kr ru ks g rg → (pe = 0 → re = 0) → rn_ok pe (tc_T_run_l15 f (nI N) (nI (N - r)) kr uz ul ks kv kz ku cb g.1 g.2.1 g.2.2.1 g.2.2.2.1 g.2.2.2.2.1 g.2.2.2.2.2.1 g.2.2.2.2.2.2.1 g.2.2.2.2.2.2.2.1 g.2.2.2.2.2.2.2.2 q.1 q.2.1 q.2.2.1 q.2.2.2.1 q.2.2.2.2.1 q.2.2.2.2.2.1 q.2.2.2.2.2.2.1 q.2.2.2.2.2.2.2.1 q.2.2.2.2.2.2.2.2 py po pe re pa se lo pn) (mo_run_l17 f (nI N) (nI (N - r)) true cb rg so sv tl su qu wa ru pe re pn lo se pa sp iv) := by
  intro r
  induction r with
  | zero =>
    intro _ f hf uz ul ks kv kz ku cb so sv tl su qu wa kr ru g rg q py po re pa se lo sp pn iv hK hR h0
    obtain ⟨f, rfl⟩ : ∃ k, f = k + 1 := ⟨f - 1, by omega⟩
    rw [tc_T_run_l15_s, mo_run_l17_s, if_pos (show nI N ≤ nI (N - 0) from Int32.le_refl _), if_pos (show nI N ≤ nI (N - 0) from Int32.le_refl _)]
    exact ⟨nI N, kr, uz, ul, ks, kv, kz, ku, cb, g, q, py, po, re, pa, se, lo, pn, rg, so, sv, tl, su, qu, wa, ru, sp, iv, rfl, rfl, hK, hR, h0⟩
  | succ r ih =>
    intro hr f hf uz ul ks kv kz ku cb so sv tl su qu wa kr ru g rg q py po re pa se lo sp pn iv hK hR h0
    obtain ⟨f, rfl⟩ : ∃ k, f = k + 1 + 1 := ⟨f - 2, by omega⟩
    have hn : ¬ nI N ≤ nI (N - (r + 1)) := by
      rw [nI_leI (by omega) (by omega)]
      omega
    have ih2 := ih (by omega) (f + 1) (by omega)
    rw [show nI (N - r) = nI (N - (r + 1)) + 1 by rw [show N - r = N - (r + 1) + 1 by omega]; exact (nI_1 _).symm] at ih2
    rw [tc_T_run_l15_s, mo_run_l17_s, if_neg hn, if_neg hn, if_neg (show ¬ bz_i true = 0 by decide)]
    cases pn with
    | false =>
      rw [if_pos (show bz_i false = 0 from rfl), if_pos (show bz_i false = 0 from rfl)]
      exact rj_ok hK hR q py po re pa se lo sp false iv h0 ih2
    | true =>
      rw [if_neg (show ¬ bz_i true = 0 by decide), if_neg (show ¬ bz_i true = 0 by decide)]
      have srv : rn_ok pe ((tc_I_countServed se true).bind fun z22 => (tc_K_serveTick kr uz ul ks kv kz cb g.1 g.2.1 g.2.2.1 g.2.2.2.1 g.2.2.2.2.1 g.2.2.2.2.2.1 g.2.2.2.2.2.2.1 g.2.2.2.2.2.2.2.1 g.2.2.2.2.2.2.2.2).bind fun z23 => tc_T_run_j54 (tc_T_run_l15 (f + 1)) (nI N) (nI (N - (r + 1))) z23.1 z23.2.1 z23.2.2.1 z23.2.2.2.1 z23.2.2.2.2.1 z23.2.2.2.2.2.1 ku z23.2.2.2.2.2.2.1 z23.2.2.2.2.2.2.2.1 z23.2.2.2.2.2.2.2.2.1 z23.2.2.2.2.2.2.2.2.2.1 z23.2.2.2.2.2.2.2.2.2.2.1 z23.2.2.2.2.2.2.2.2.2.2.2.1 z23.2.2.2.2.2.2.2.2.2.2.2.2.1 z23.2.2.2.2.2.2.2.2.2.2.2.2.2.1 z23.2.2.2.2.2.2.2.2.2.2.2.2.2.2.1 z23.2.2.2.2.2.2.2.2.2.2.2.2.2.2.2 q.1 q.2.1 q.2.2.1 q.2.2.2.1 q.2.2.2.2.1 q.2.2.2.2.2.1 q.2.2.2.2.2.2.1 q.2.2.2.2.2.2.2.1 q.2.2.2.2.2.2.2.2 py po pe re pa z22.1 lo z22.2) (mo_run_j49 (mo_run_l17 (f + 1)) (nI N) (nI (N - (r + 1))) true cb rg so sv tl su qu wa ru pe re true lo se pa sp iv) := by
        obtain ⟨kr', uz', ul', ks', kv', kz', cb', g', rg', so', sv', tl', qu', wa', ru', s1, s2, s3, s4⟩ := serve_ok hK hR true se sp
        unfold tc_I_countServed mo_run_j49
        rw [Option.bind_some, s1, s2, Option.bind_some, Option.bind_some]
        exact rj_ok s3 s4 q py po re pa (se + 1) lo sp false iv h0 ih2
      have hR0 := hR
      rcases hR with ⟨rfl, rfl, h3, g0, rfl⟩ | ⟨i, hi, rfl, rfl, h4, h5, rfl, h7⟩
      · rw [if_pos (show (-1 : Int32) < 0 by decide), show tc_K_canServe none g.2.2.2.1 = some true from rfl, Option.bind_some, if_neg (show ¬ bz_i true = 0 by decide)]
        exact srv
      · rw [if_neg (show ¬ nI i < 0 from Int32.not_lt.mpr (nI_pos' (by omega))), show mo_flag 16 (rg_ g) = _ from mo_flag_eq 16 _ _ _ _ _ _ _ _ _, Option.bind_some]
        by_cases h16 : g.2.2.2.1 &&& 16 = 0
        · have e1 : tc_K_canServe (some i) g.2.2.2.1 = some true := by
            show ((tc_G_has 16 g.2.2.2.1).bind _) = _
            unfold tc_G_has
            rw [if_pos h16]
            rfl
          rw [e1, Option.bind_some, if_neg (show ¬ bz_i true = 0 by decide), show decide (¬ (g.2.2.2.1 &&& 16) = 0) = false from decide_eq_false (fun e => e h16), if_pos (show bz_i false = 0 from rfl)]
          exact srv
        · have e1 : tc_K_canServe (some i) g.2.2.2.1 = some false := by
            show ((tc_G_has 16 g.2.2.2.1).bind _) = _
            unfold tc_G_has
            rw [if_neg h16]
            rfl
          rw [e1, Option.bind_some, if_pos (show bz_i false = 0 from rfl), show decide (¬ (g.2.2.2.1 &&& 16) = 0) = true from decide_eq_true h16, if_neg (show ¬ bz_i true = 0 by decide)]
          exact rj_ok hK hR0 q py po re pa se lo sp true iv h0 ih2
theorem run_ok {pe : Int32} {uz : Int32} {ul : Nat → Option Nat} {ks kv kz ku cb : Nat → Int32} {so sv tl su qu : Nat → Int32} {wa : Int32} {kr : Option Nat} {ru : Int32} {g : R9} {rg : Nat → Int32} (hK : KB uz ul ks kv kz ku cb cb so sv tl su qu wa) (hR : RN kr ru ks g rg) (n : Int32) (q : R9) (py po re pa se lo sp : Int32) (pn iv : Bool) (h0 : pe = 0 → re = 0) : rn_ok pe (tc_T_run n kr uz ul ks kv kz ku cb g.1 g.2.1 g.2.2.1 g.2.2.2.1 g.2.2.2.2.1 g.2.2.2.2.2.1 g.2.2.2.2.2.2.1 g.2.2.2.2.2.2.2.1 g.2.2.2.2.2.2.2.2 q.1 q.2.1 q.2.2.1 q.2.2.2.1 q.2.2.2.2.1 q.2.2.2.2.2.1 q.2.2.2.2.2.2.1 q.2.2.2.2.2.2.2.1 q.2.2.2.2.2.2.2.2 py po pe re pa se lo pn) (mo_run n cb rg so sv tl su qu wa ru pe re pn lo se pa sp iv) := by
  have none_ : rn_ok pe (some (-1, kr, uz, ul, ks, kv, kz, ku, cb, g.1, g.2.1, g.2.2.1, g.2.2.2.1, g.2.2.2.2.1, g.2.2.2.2.2.1, g.2.2.2.2.2.2.1, g.2.2.2.2.2.2.2.1, g.2.2.2.2.2.2.2.2, q.1, q.2.1, q.2.2.1, q.2.2.2.1, q.2.2.2.2.1, q.2.2.2.2.2.1, q.2.2.2.2.2.2.1, q.2.2.2.2.2.2.2.1, q.2.2.2.2.2.2.2.2, py, po, re, pa, se, lo, pn)) (some (-1, cb, rg, so, sv, tl, su, qu, wa, ru, re, pn, lo, se, pa, sp, iv)) := ⟨-1, kr, uz, ul, ks, kv, kz, ku, cb, g, q, py, po, re, pa, se, lo, pn, rg, so, sv, tl, su, qu, wa, ru, sp, iv, rfl, rfl, hK, hR, h0⟩
  unfold tc_T_run mo_run
  by_cases h1 : n < 0
  · rw [if_pos h1, if_pos h1]
    exact none_
  · rw [if_neg h1, if_neg h1]
    by_cases h2 : n ≤ 400
    · rw [if_pos h2, if_pos h2]
      obtain ⟨N, hN, rfl⟩ := nq_of h1 h2
      have := run_loop pe N hN N (Nat.le_refl _) 401 (by omega) uz ul ks kv kz ku cb so sv tl su qu wa kr ru g rg q py po re pa se lo sp pn iv hK hR h0
      rw [Nat.sub_self] at this
      exact this
    · rw [if_neg h2, if_neg h2]
      exact none_
