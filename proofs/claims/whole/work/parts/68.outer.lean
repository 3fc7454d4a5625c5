/-! What the methods answer, of the class and of the reference, one by one. -/
theorem nq_le {n : Int32} (K : Nat) (hK : K < 2 ^ 31) (h1 : ¬ n < 0) (h2 : n ≤ nI K) : ∃ N : Nat, N ≤ K ∧ n = nI N := by
  rw [Int32.lt_iff_toInt_lt] at h1
  rw [Int32.le_iff_toInt_le, nI_toInt hK] at h2
  have e0 : (0 : Int32).toInt = 0 := by decide
  rw [e0] at h1
  refine ⟨n.toInt.toNat, by omega, ?_⟩
  apply Int32.toInt_inj.mp
  rw [nI_toInt (by omega)]
  omega
theorem rd_nI (me : Nat → Int32) {n : Nat} (h : n < 512) : rd_ me (nI n) = me n := by
  unfold rd_
  rw [nI_w (by omega), if_neg (by rw [nI_512 (by omega)]; omega), nI_clamp (by omega)]
theorem ta_ok (x : Int32) : (∃ t, t < 4 ∧ x = nI t ∧ tc_K_taskAt x = some (some t) ∧ mo_noTask x = some false ∧ in_b x 4 = true ∧ x.toNatClampNeg = t) ∨ (tc_K_taskAt x = some none ∧ mo_noTask x = some true) := by
  unfold tc_K_taskAt mo_noTask mo_noTask_j9
  by_cases h1 : x < 0
  · rw [if_pos h1, if_pos h1]
    exact Or.inr ⟨rfl, rfl⟩
  · rw [if_neg h1, if_neg h1]
    by_cases h2 : x ≤ 3
    · obtain ⟨t, ht, rfl⟩ := nq_le 3 (by decide) h1 h2
      have hin : in_b (nI t) 4 = true := in_nI (by omega) (by decide)
      have h4 : ¬ (4 : Int32) ≤ nI t := by
        rw [show (4 : Int32) = nI 4 by decide, nI_leI (by omega) (by omega)]
        omega
      rw [if_pos h2, if_neg h4, if_pos hin, nI_clamp (by omega)]
      exact Or.inl ⟨t, by omega, rfl, rfl, rfl, hin, rfl⟩
    · have h4 : (4 : Int32) ≤ x := by
        rw [Int32.le_iff_toInt_le] at h2 ⊢
        have e3 : (3 : Int32).toInt = 3 := by decide
        have e4 : (4 : Int32).toInt = 4 := by decide
        omega
      rw [if_neg h2, if_pos h4]
      exact Or.inr ⟨rfl, rfl⟩
theorem ho_ok (x : Int32) : (∃ n, n < 512 ∧ x = nI n ∧ tc_Y_holds x = some true ∧ ¬ x < 0 ∧ x ≤ 511) ∨ (tc_Y_holds x = some false ∧ (x < 0 ∨ (¬ x < 0 ∧ 511 < x))) := by
  unfold tc_Y_holds
  by_cases h1 : x < 0
  · rw [if_pos h1]
    exact Or.inr ⟨rfl, Or.inl h1⟩
  · rw [if_neg h1]
    by_cases h2 : x ≤ 511
    · obtain ⟨t, ht, rfl⟩ := nq_le 511 (by decide) h1 h2
      have h4 : ¬ (512 : Int32) ≤ nI t := by
        rw [show (512 : Int32) = nI 512 by decide, nI_leI (by omega) (by omega)]
        omega
      rw [if_neg h4]
      exact Or.inl ⟨t, by omega, rfl, rfl, h1, h2⟩
    · have h4 : (512 : Int32) ≤ x := by
        rw [Int32.le_iff_toInt_le] at h2 ⊢
        have e3 : (511 : Int32).toInt = 511 := by decide
        have e4 : (512 : Int32).toInt = 512 := by decide
        omega
      rw [if_pos h4]
      exact Or.inr ⟨rfl, Or.inr ⟨h1, Int32.not_le.mp h2⟩⟩
theorem poke_ok {cb : Nat → Int32} (hB : okB cb) (a v : Int32) : ∃ (r : Int32) (cb' : Nat → Int32), tc_T_poke a v cb = some (r, cb') ∧ mo_poke a v cb = some (r, cb') ∧ okB cb' := by
  unfold tc_T_poke mo_poke
  rcases ho_ok a with ⟨n, hn, rfl, e1, e2, e3⟩ | ⟨e1, e2⟩
  · rw [e1, Option.bind_some, if_neg (show ¬ bz_i true = 0 by decide), if_neg e2, if_neg (Int32.not_lt.mpr e3)]
    by_cases h1 : v < 0
    · rw [if_pos h1, if_pos h1]
      exact ⟨-1, cb, rfl, rfl, hB⟩
    · rw [if_neg h1, if_neg h1]
      by_cases h2 : v ≤ 255
      · obtain ⟨t, ht, rfl⟩ := nq_le 255 (by decide) h1 h2
        rw [if_pos h2, if_pos h2, if_pos (in_nI hn (by decide)), nI_clamp (by omega), tc_load1, Option.bind_some, tc_store1, Option.bind_some, rd_nI _ hn, wr_nI _ hn, nI_b (by omega)]
        refine ⟨cb n, upd cb n (nI t), rfl, rfl, ?_⟩
        intro j
        unfold upd
        split
        · exact ⟨t, by omega, rfl⟩
        · exact hB j
      · rw [if_neg h2, if_neg h2]
        exact ⟨-1, cb, rfl, rfl, hB⟩
  · rw [e1, Option.bind_some, if_pos (show bz_i false = 0 from rfl)]
    refine ⟨-1, cb, rfl, ?_, hB⟩
    rcases e2 with h | ⟨h, h2⟩
    · rw [if_pos h]
    · rw [if_neg h, if_pos h2]
theorem peek_ok {cb : Nat → Int32} (a : Int32) : ∃ (r : Int32), tc_T_peek a cb = some r ∧ mo_peek a cb = some r := by
  unfold tc_T_peek mo_peek mo_peek_j11
  rcases ho_ok a with ⟨n, hn, rfl, e1, e2, e3⟩ | ⟨e1, e2⟩
  · rw [e1, Option.bind_some, if_neg (show ¬ bz_i true = 0 by decide), if_neg e2, if_pos e3, if_pos (in_nI hn (by decide)), nI_clamp (by omega), tc_load1, Option.bind_some, rd_nI _ hn]
    exact ⟨_, rfl, rfl⟩
  · rw [e1, Option.bind_some, if_pos (show bz_i false = 0 from rfl)]
    refine ⟨-1, rfl, ?_⟩
    rcases e2 with h | ⟨h, h2⟩
    · rw [if_pos h]
    · rw [if_neg h, if_neg (Int32.not_le.mpr h2)]
section OU
variable {uz : Int32} {ul : Nat → Option Nat} {ks kv kz ku cb : Nat → Int32} {so sv tl su qu : Nat → Int32} {wa : Int32} {kr : Option Nat} {ru : Int32} {g : R9} {rg : Nat → Int32}
theorem start_ok (hK : KB uz ul ks kv kz ku cb cb so sv tl su qu wa) (hR : RN kr ru ks g rg) (x p a sp : Int32) (q : R9) : ∃ (b : Bool) (kr' : Option Nat) (uz' : Int32) (ul' : Nat → Option Nat) (ks' kv' cb' : Nat → Int32) (g' q' : R9) (rg' so' sv' qu' : Nat → Int32) (wa' ru' sp' : Int32), tc_T_start x p a kr uz ul ks kv cb g.1 g.2.1 g.2.2.1 g.2.2.2.1 g.2.2.2.2.1 g.2.2.2.2.2.1 g.2.2.2.2.2.2.1 g.2.2.2.2.2.2.2.1 g.2.2.2.2.2.2.2.2 q.1 q.2.1 q.2.2.1 q.2.2.2.1 q.2.2.2.2.1 q.2.2.2.2.2.1 q.2.2.2.2.2.2.1 q.2.2.2.2.2.2.2.1 q.2.2.2.2.2.2.2.2 = some (b, kr', uz', ul', ks', kv', cb', g'.1, g'.2.1, g'.2.2.1, g'.2.2.2.1, g'.2.2.2.2.1, g'.2.2.2.2.2.1, g'.2.2.2.2.2.2.1, g'.2.2.2.2.2.2.2.1, g'.2.2.2.2.2.2.2.2, q') ∧ mo_start x p a cb rg so sv qu wa ru sp = some (b, cb', rg', so', sv', qu', wa', ru', sp') ∧ KB uz' ul' ks' kv' kz ku cb' cb' so' sv' tl su qu' wa' ∧ RN kr' ru' ks' g' rg' := by
  have no : ∃ (b : Bool) (kr' : Option Nat) (uz' : Int32) (ul' : Nat → Option Nat) (ks' kv' cb' : Nat → Int32) (g' q' : R9) (rg' so' sv' qu' : Nat → Int32) (wa' ru' sp' : Int32), some (false, kr, uz, ul, ks, kv, cb, g.1, g.2.1, g.2.2.1, g.2.2.2.1, g.2.2.2.2.1, g.2.2.2.2.2.1, g.2.2.2.2.2.2.1, g.2.2.2.2.2.2.2.1, g.2.2.2.2.2.2.2.2, q.1, q.2.1, q.2.2.1, q.2.2.2.1, q.2.2.2.2.1, q.2.2.2.2.2.1, q.2.2.2.2.2.2.1, q.2.2.2.2.2.2.2.1, q.2.2.2.2.2.2.2.2) = some (b, kr', uz', ul', ks', kv', cb', g'.1, g'.2.1, g'.2.2.1, g'.2.2.2.1, g'.2.2.2.2.1, g'.2.2.2.2.2.1, g'.2.2.2.2.2.2.1, g'.2.2.2.2.2.2.2.1, g'.2.2.2.2.2.2.2.2, q') ∧ some (false, cb, rg, so, sv, qu, wa, ru, sp) = some (b, cb', rg', so', sv', qu', wa', ru', sp') ∧ KB uz' ul' ks' kv' kz ku cb' cb' so' sv' tl su qu' wa' ∧ RN kr' ru' ks' g' rg' := ⟨false, kr, uz, ul, ks, kv, cb, g, q, rg, so, sv, qu, wa, ru, sp, rfl, rfl, hK, hR⟩
  have eso := hK.2.1
  subst eso
  unfold tc_T_start mo_start
  rcases ta_ok x with ⟨t, ht, rfl, e1, e2, e3, e4⟩ | ⟨e1, e2⟩
  · rw [e1, e2, Option.bind_some, Option.bind_some, if_pos (show bz_i false = 0 from rfl), if_pos e3, e4]
    show ∃ (b : Bool) (kr' : Option Nat) (uz' : Int32) (ul' : Nat → Option Nat) (ks' kv' cb' : Nat → Int32) (g' q' : R9) (rg' so' sv' qu' : Nat → Int32) (wa' ru' sp' : Int32), (if t < 4 then _ else _) = _ ∧ _
    rw [if_pos ht]
    by_cases h0 : so t = 0
    · rw [if_pos h0, if_pos h0]
      by_cases c1 : p < 0
      · rw [if_pos c1, if_pos c1]
        exact no
      rw [if_neg c1, if_neg c1]
      by_cases c2 : 65535 < p
      · rw [if_pos c2, if_pos c2]
        exact no
      rw [if_neg c2, if_neg c2]
      by_cases c3 : a < 0
      · rw [if_pos c3, if_pos c3]
        exact no
      rw [if_neg c3, if_neg c3]
      by_cases c4 : a ≤ 255
      · rw [if_pos c4, if_pos c4]
        obtain ⟨uz1, ul1, cb1, q1, qu1, wa1, b1, b2, b3⟩ := bg_ok hK ht h0 p a q
        rw [b1, b2, Option.bind_some, Option.bind_some]
        dsimp only
        have hR1 : RN kr ru (upd so t 2) g rg := RN_ks hR (by rw [h0]; decide) (by decide)
        obtain ⟨kr', uz', ul', ks', g', rg', so', qu', wa', ru', n1, n2, n3, n4⟩ := nx_ok b3 hR1 sp
        rw [n1, n2, Option.bind_some, Option.bind_some]
        exact ⟨true, kr', uz', ul', ks', _, cb1, g', q1, rg', so', _, qu', wa', ru', sp, rfl, rfl, n3, n4⟩
      · rw [if_neg c4, if_neg c4]
        exact no
    · rw [if_neg h0, if_neg h0]
      exact no
  · rw [e1, e2, Option.bind_some, Option.bind_some, if_neg (show ¬ bz_i true = 0 by decide)]
    exact no
theorem stop_ok (hK : KB uz ul ks kv kz ku cb cb so sv tl su qu wa) (hR : RN kr ru ks g rg) (x sp : Int32) : ∃ (b : Bool) (kr' : Option Nat) (uz' : Int32) (ul' : Nat → Option Nat) (ks' ku' : Nat → Int32) (g' : R9) (rg' so' tl' su' qu' : Nat → Int32) (wa' ru' sp' : Int32), tc_T_stop x kr uz ul ks kv ku cb g.1 g.2.1 g.2.2.1 g.2.2.2.1 g.2.2.2.2.1 g.2.2.2.2.2.1 g.2.2.2.2.2.2.1 g.2.2.2.2.2.2.2.1 g.2.2.2.2.2.2.2.2 = some (b, kr', uz', ul', ks', ku', g') ∧ mo_stop x cb rg so sv tl su qu wa ru sp = some (b, rg', so', tl', su', qu', wa', ru', sp') ∧ KB uz' ul' ks' kv kz ku' cb cb so' sv tl' su' qu' wa' ∧ RN kr' ru' ks' g' rg' := by
  have no : ∃ (b : Bool) (kr' : Option Nat) (uz' : Int32) (ul' : Nat → Option Nat) (ks' ku' : Nat → Int32) (g' : R9) (rg' so' tl' su' qu' : Nat → Int32) (wa' ru' sp' : Int32), some (false, kr, uz, ul, ks, ku, g.1, g.2.1, g.2.2.1, g.2.2.2.1, g.2.2.2.2.1, g.2.2.2.2.2.1, g.2.2.2.2.2.2.1, g.2.2.2.2.2.2.2.1, g.2.2.2.2.2.2.2.2) = some (b, kr', uz', ul', ks', ku', g') ∧ some (false, rg, so, tl, su, qu, wa, ru, sp) = some (b, rg', so', tl', su', qu', wa', ru', sp') ∧ KB uz' ul' ks' kv kz ku' cb cb so' sv tl' su' qu' wa' ∧ RN kr' ru' ks' g' rg' := ⟨false, kr, uz, ul, ks, ku, g, rg, so, tl, su, qu, wa, ru, sp, rfl, rfl, hK, hR⟩
  have eso := hK.2.1
  subst eso
  unfold tc_T_stop mo_stop
  rcases ta_ok x with ⟨t, ht, rfl, e1, e2, e3, e4⟩ | ⟨e1, e2⟩
  · rw [e1, e2, Option.bind_some, Option.bind_some, if_pos (show bz_i false = 0 from rfl), if_pos e3, e4]
    show ∃ (b : Bool) (kr' : Option Nat) (uz' : Int32) (ul' : Nat → Option Nat) (ks' ku' : Nat → Int32) (g' : R9) (rg' so' tl' su' qu' : Nat → Int32) (wa' ru' sp' : Int32), (if t < 4 then _ else _) = _ ∧ _
    rw [if_pos ht]
    by_cases h0 : so t = 0
    · rw [if_pos h0, if_pos h0]
      exact no
    · rw [if_neg h0, if_neg h0]
      have hR2 : (kr = none ∧ ru = -1 ∧ (∀ i, i < 4 → i ≠ t → so i ≠ 1) ∧ ∃ g0 : R9, rg = rg_ g0) ∨ (∃ i, i < 4 ∧ kr = some i ∧ ru = nI i ∧ (∀ j, j < 4 → j ≠ t → so j = 1 → j = i) ∧ (i ≠ t → so i = 1) ∧ (i ≠ t → rg = rg_ g ∧ og_ g) ∧ ∃ g0 : R9, rg = rg_ g0) := by
        rcases hR with ⟨r1, r2, r3, r4⟩ | ⟨i, hi, r1, r2, r3, r4, r5, r6⟩
        · exact Or.inl ⟨r1, r2, fun i hi _ => r3 i hi, r4⟩
        · exact Or.inr ⟨i, hi, r1, r2, fun j hj _ h => r4 j hj h, fun _ => r3, fun _ => ⟨r5, r6⟩, g, r5⟩
      obtain ⟨kr1, kr', uz1, uz', ul1, ul', ks1, ks', ku', g', rg', so', tl', su', qu', wa', ru', d1, d2, d3, d4, d5⟩ := end_ok hK ht hR2 254 sp
      rw [d1, Option.bind_some, d3, Option.bind_some]
      dsimp only
      rw [d2, Option.bind_some]
      exact ⟨true, kr', uz', ul', ks', ku', g', rg', so', tl', su', qu', wa', ru', sp, rfl, rfl, d4, d5⟩
  · rw [e1, e2, Option.bind_some, Option.bind_some, if_neg (show ¬ bz_i true = 0 by decide)]
    exact no
theorem timer_ok (x tp tl : Int32) (h : tp = 0 → tl = 0) : ∃ (b : Bool) (p l : Int32), tc_T_timer x tp tl = some (b, p, l) ∧ mo_timer x tp tl = some (b, p, l) ∧ (p = 0 → l = 0) := by
  unfold tc_T_timer mo_timer tc_T_timer_j19 mo_timer_j19
  by_cases h1 : x = 0
  · simp only [if_pos h1]
    exact ⟨true, x, x, rfl, rfl, id⟩
  · simp only [if_neg h1]
    by_cases h2 : x < 16
    · simp only [if_pos h2]
      exact ⟨false, tp, tl, rfl, rfl, h⟩
    · simp only [if_neg h2]
      by_cases h3 : x ≤ 1000
      · simp only [if_pos h3]
        exact ⟨true, x, x, rfl, rfl, id⟩
      · simp only [if_neg h3]
        exact ⟨false, tp, tl, rfl, rfl, h⟩
theorem state_ok (hK : KB uz ul ks kv kz ku cb cb so sv tl su qu wa) (x : Int32) : ∃ r : Int32, tc_T_state x ks = some r ∧ mo_state x so = some r := by
  have eso := hK.2.1
  subst eso
  unfold tc_T_state mo_state
  rcases ta_ok x with ⟨t, ht, rfl, e1, e2, e3, e4⟩ | ⟨e1, e2⟩
  · refine ⟨so t, ?_, ?_⟩
    · rw [e1]
      exact if_pos ht
    · rw [e2, Option.bind_some, if_pos (show bz_i false = 0 from rfl), if_pos e3, e4]
  · rw [e1, e2]
    exact ⟨-1, rfl, rfl⟩
theorem status_ok (hK : KB uz ul ks kv kz ku cb cb so sv tl su qu wa) (x : Int32) : ∃ r : Int32, tc_T_status x ku = some r ∧ mo_status x su = some r := by
  have esu := hK.2.2.2.1
  subst esu
  unfold tc_T_status mo_status
  rcases ta_ok x with ⟨t, ht, rfl, e1, e2, e3, e4⟩ | ⟨e1, e2⟩
  · refine ⟨su t, ?_, ?_⟩
    · rw [e1]
      exact if_pos ht
    · rw [e2, Option.bind_some, if_pos (show bz_i false = 0 from rfl), if_pos e3, e4]
  · rw [e1, e2]
    exact ⟨-1, rfl, rfl⟩
theorem sleeps_ok (hK : KB uz ul ks kv kz ku cb cb so sv tl su qu wa) (x : Int32) : ∃ r : Int32, tc_T_sleeps x ks kz = some r ∧ mo_sleeps x so tl = some r := by
  have eso := hK.2.1
  subst eso
  unfold tc_T_sleeps mo_sleeps
  rcases ta_ok x with ⟨t, ht, rfl, e1, e2, e3, e4⟩ | ⟨e1, e2⟩
  · rw [e1, e2, Option.bind_some, Option.bind_some, if_pos (show bz_i false = 0 from rfl), if_pos e3, e4]
    show ∃ r : Int32, (if t < 4 then _ else _) = _ ∧ _
    rw [if_pos ht]
    by_cases h3 : so t = 3
    · rw [if_pos h3, if_pos h3]
      exact ⟨tl t, by rw [hK.2.2.2.2.2.1 t ht h3], rfl⟩
    · rw [if_neg h3, if_neg h3]
      exact ⟨0, rfl, rfl⟩
  · rw [e1, e2]
    exact ⟨0, rfl, rfl⟩
theorem queued_ok (hK : KB uz ul ks kv kz ku cb cb so sv tl su qu wa) (x : Int32) : ∃ r : Int32, tc_T_queued x uz ul = some r ∧ mo_queued x qu wa = some r := by
  obtain ⟨-, -, -, -, -, -, L, hQ, -⟩ := hK
  have hlen := QL_len hQ
  obtain ⟨q1, q2, q3, q4, q5, q6⟩ := hQ
  unfold tc_T_queued tc_Q_numberAt mo_queued mo_queued_j12
  by_cases h1 : x < 0
  · rw [if_pos h1, if_pos h1]
    exact ⟨-1, rfl, rfl⟩
  · rw [if_neg h1, if_neg h1, q1, q2]
    by_cases h2 : x < nI L.length
    · obtain ⟨n, hn, rfl⟩ := nq_le L.length (by omega) h1 (Int32.le_of_lt h2)
      have hn2 : n < L.length := by
        have := mt (nI_leI (a := L.length) (b := n) (by omega) (by omega)).mpr (Int32.not_le.mpr h2)
        omega
      rw [if_neg (Int32.not_le.mpr h2), if_pos h2, if_pos (in_nI (by omega) (by decide)), if_pos (in_nI (by omega) (by decide)), nI_clamp (by omega), q3 n hn2, q4 n hn2]
      refine ⟨nI (L.getD n 0), ?_, rfl⟩
      show ((if L.getD n 0 < 4 then some (nI (L.getD n 0)) else none).bind _) = _
      rw [if_pos (q6 _ (by rw [List.getD_eq_getElem?_getD, List.getElem?_eq_getElem hn2]; exact List.getElem_mem hn2))]
      rfl
    · rw [if_neg h2, if_pos (Int32.not_lt.mp h2)]
      exact ⟨-1, rfl, rfl⟩
theorem rf_get {y : Int32} (hy : vk_ y) (v : Int32) (hv : okB cb) : (if y = 4 then some ((v + 12) &&& 65535) else (mo_inFrame v y cb).bind fun z7 => some z7) = mo_get y (rf_ (rd_ cb (v + 1)) (rd_ cb (v + 2)) (rd_ cb (v + 3)) (rd_ cb v) (rd2_ cb (v + 4)) (rd2_ cb (v + 6)) (rd2_ cb (v + 8)) ((v + 12) &&& 65535) (rd2_ cb (v + 10))) := by
  have e12 : v + 1 + 1 = v + 2 := by rw [Int32.add_assoc]; rfl
  have e0 : v + 0 = v := i_a0 v
  rcases hy with rfl | rfl | rfl | rfl | rfl | rfl | rfl | rfl | rfl | rfl
  · rw [if_neg (by decide), show mo_inFrame v 0 cb = mo_inFrame_j75 v 0 1 cb from rfl]
    unfold mo_inFrame_j75
    rw [if_neg (by decide), mo_at_eq, mo_at_eq, e12]
    rfl
  · rw [if_neg (by decide), show mo_inFrame v 1 cb = mo_inFrame_j75 v 1 4 cb from rfl]
    unfold mo_inFrame_j75
    rw [if_neg (by decide), mo_at_eq, mo_at_eq]
    rfl
  · rw [if_neg (by decide), show mo_inFrame v 2 cb = mo_inFrame_j75 v 2 6 cb from rfl]
    unfold mo_inFrame_j75
    rw [if_neg (by decide), mo_at_eq, mo_at_eq]
    rfl
  · rw [if_neg (by decide), show mo_inFrame v 3 cb = mo_inFrame_j75 v 3 8 cb from rfl]
    unfold mo_inFrame_j75
    rw [if_neg (by decide), mo_at_eq, mo_at_eq]
    rfl
  · rw [if_pos rfl]
    rfl
  · rw [if_neg (by decide), show mo_inFrame v 5 cb = mo_inFrame_j75 v 5 10 cb from rfl]
    unfold mo_inFrame_j75
    rw [if_neg (by decide), mo_at_eq, mo_at_eq]
    rfl
  · rw [if_neg (by decide), show mo_inFrame v 8 cb = mo_inFrame_j75 v 8 1 cb from rfl]
    unfold mo_inFrame_j75
    rw [if_pos (by decide), mo_at_eq]
    rfl
  · rw [if_neg (by decide), show mo_inFrame v 9 cb = mo_inFrame_j75 v 9 2 cb from rfl]
    unfold mo_inFrame_j75
    rw [if_pos (by decide), mo_at_eq]
    rfl
  · rw [if_neg (by decide), show mo_inFrame v 10 cb = mo_inFrame_j75 v 10 0 cb from rfl]
    unfold mo_inFrame_j75
    rw [if_pos (by decide), mo_at_eq, e0]
    rfl
  · rw [if_neg (by decide), show mo_inFrame v 11 cb = mo_inFrame_j75 v 11 3 cb from rfl]
    unfold mo_inFrame_j75
    rw [if_pos (by decide), mo_at_eq]
    rfl
/-- which registers are there -/
theorem re_ok (y : Int32) : (tc_G_exists y = some true ∧ vk_ y ∧ ¬ y < 0 ∧ ¬ 11 < y ∧ ¬ y = 6 ∧ ¬ y = 7) ∨ (tc_G_exists y = some false ∧ (y < 0 ∨ (¬ y < 0 ∧ 11 < y) ∨ (¬ y < 0 ∧ ¬ 11 < y ∧ y = 6) ∨ (¬ y < 0 ∧ ¬ 11 < y ∧ ¬ y = 6 ∧ y = 7))) := by
  by_cases h1 : y < 0
  · refine Or.inr ⟨?_, Or.inl h1⟩
    unfold tc_G_exists tc_G_exists_j9
    rw [if_pos h1, if_pos]
    rw [Int32.lt_iff_toInt_lt] at h1 ⊢
    have e0 : (0 : Int32).toInt = 0 := by decide
    have e8 : (8 : Int32).toInt = 8 := by decide
    omega
  · by_cases h2 : y ≤ 11
    · obtain ⟨n, hn, rfl⟩ := nq_le 11 (by decide) h1 h2
      have h3 : ¬ 11 < nI n := Int32.not_lt.mpr h2
      have : (vk_ (nI n) ∧ tc_G_exists (nI n) = some true ∧ ¬ nI n = 6 ∧ ¬ nI n = 7) ∨ (tc_G_exists (nI n) = some false ∧ (nI n = 6 ∨ (¬ nI n = 6 ∧ nI n = 7))) := by
        have : n = 0 ∨ n = 1 ∨ n = 2 ∨ n = 3 ∨ n = 4 ∨ n = 5 ∨ n = 6 ∨ n = 7 ∨ n = 8 ∨ n = 9 ∨ n = 10 ∨ n = 11 := by omega
        unfold vk_
        rcases this with rfl | rfl | rfl | rfl | rfl | rfl | rfl | rfl | rfl | rfl | rfl | rfl
        · exact Or.inl ⟨by decide, rfl, by decide, by decide⟩
        · exact Or.inl ⟨by decide, rfl, by decide, by decide⟩
        · exact Or.inl ⟨by decide, rfl, by decide, by decide⟩
        · exact Or.inl ⟨by decide, rfl, by decide, by decide⟩
        · exact Or.inl ⟨by decide, rfl, by decide, by decide⟩
        · exact Or.inl ⟨by decide, rfl, by decide, by decide⟩
        · exact Or.inr ⟨rfl, Or.inl rfl⟩
        · exact Or.inr ⟨rfl, Or.inr ⟨by decide, rfl⟩⟩
        · exact Or.inl ⟨by decide, rfl, by decide, by decide⟩
        · exact Or.inl ⟨by decide, rfl, by decide, by decide⟩
        · exact Or.inl ⟨by decide, rfl, by decide, by decide⟩
        · exact Or.inl ⟨by decide, rfl, by decide, by decide⟩
      rcases this with ⟨a1, a2, a3, a4⟩ | ⟨a1, a2 | ⟨a2, a3⟩⟩
      · exact Or.inl ⟨a2, a1, h1, h3, a3, a4⟩
      · exact Or.inr ⟨a1, Or.inr (Or.inr (Or.inl ⟨h1, h3, a2⟩))⟩
      · exact Or.inr ⟨a1, Or.inr (Or.inr (Or.inr ⟨h1, h3, a2, a3⟩))⟩
    · refine Or.inr ⟨?_, Or.inr (Or.inl ⟨h1, Int32.not_le.mp h2⟩)⟩
      have h3 := Int32.not_le.mp h2
      unfold tc_G_exists tc_G_exists_j9
      rw [if_neg h1, if_neg, if_neg, if_pos h3]
      · rw [Int32.lt_iff_toInt_lt] at h3 ⊢
        have e0 : (11 : Int32).toInt = 11 := by decide
        have e8 : (8 : Int32).toInt = 8 := by decide
        omega
      · rw [Int32.lt_iff_toInt_lt] at h3
        rw [Int32.le_iff_toInt_le]
        have e0 : (11 : Int32).toInt = 11 := by decide
        have e8 : (5 : Int32).toInt = 5 := by decide
        omega
theorem get_some (y a b d c x yy u s p : Int32) : ∃ r, tc_G_get y a b d c x yy u s p = some r := by
  unfold tc_G_get
  repeat' split
  all_goals exact ⟨_, rfl⟩
theorem register_ok (hK : KB uz ul ks kv kz ku cb cb so sv tl su qu wa) (hR : RN kr ru ks g rg) (x y : Int32) (q : R9) : ∃ (r : Int32) (q' : R9), tc_T_register x y kr ks kv cb g.1 g.2.1 g.2.2.1 g.2.2.2.1 g.2.2.2.2.1 g.2.2.2.2.2.1 g.2.2.2.2.2.2.1 g.2.2.2.2.2.2.2.1 g.2.2.2.2.2.2.2.2 q.1 q.2.1 q.2.2.1 q.2.2.2.1 q.2.2.2.2.1 q.2.2.2.2.2.1 q.2.2.2.2.2.2.1 q.2.2.2.2.2.2.2.1 q.2.2.2.2.2.2.2.2 = some (r, q') ∧ mo_register x y cb rg so sv = some r := by
  have hB := hK.2.2.2.2.1
  have eso := hK.2.1
  subst eso
  have esv := hK.2.2.1
  subst esv
  unfold tc_T_register mo_register
  rcases ta_ok x with ⟨t, ht, rfl, e1, e2, e3, e4⟩ | ⟨e1, e2⟩
  · rw [e1, e2, Option.bind_some, Option.bind_some, if_pos (show bz_i false = 0 from rfl), if_pos e3, e4]
    show ∃ (r : Int32) (q' : R9), (if t < 4 then _ else _) = _ ∧ _
    rw [if_pos ht]
    by_cases h0 : so t = 0
    · rw [if_pos h0, if_pos h0]
      exact ⟨-1, q, rfl, rfl⟩
    · rw [if_neg h0, if_neg h0]
      rcases re_ok y with ⟨f1, f2, f3, f4, f5, f6⟩ | ⟨f1, f2⟩
      · rw [f1, Option.bind_some, if_neg (show ¬ bz_i true = 0 by decide), if_neg f3, if_neg f4, if_neg f5, if_neg f6]
        have tkt : tk_ok (some t) = true := decide_eq_true ht
        -- not the running one
        have other : ∀ (kr : Option Nat), tk_ok kr = true → ¬ some t = kr → ¬ so t = 1 → ∃ (r : Int32) (q' : R9), ((tc_K_registersOf t kr sv cb q.1 q.2.1 q.2.2.1 q.2.2.2.1 q.2.2.2.2.1 q.2.2.2.2.2.1 q.2.2.2.2.2.2.1 q.2.2.2.2.2.2.2.1 q.2.2.2.2.2.2.2.2).bind fun z13 => if z13.1 = true then (tc_G_get y g.1 g.2.1 g.2.2.1 g.2.2.2.1 g.2.2.2.2.1 g.2.2.2.2.2.1 g.2.2.2.2.2.2.1 g.2.2.2.2.2.2.2.1 g.2.2.2.2.2.2.2.2).bind fun z15 => some (z15, z13.2.1, z13.2.2.1, z13.2.2.2.1, z13.2.2.2.2.1, z13.2.2.2.2.2.1, z13.2.2.2.2.2.2.1, z13.2.2.2.2.2.2.2.1, z13.2.2.2.2.2.2.2.2.1, z13.2.2.2.2.2.2.2.2.2) else (tc_G_get y z13.2.1 z13.2.2.1 z13.2.2.2.1 z13.2.2.2.2.1 z13.2.2.2.2.2.1 z13.2.2.2.2.2.2.1 z13.2.2.2.2.2.2.2.1 z13.2.2.2.2.2.2.2.2.1 z13.2.2.2.2.2.2.2.2.2).bind fun z16 => some (z16, z13.2.1, z13.2.2.1, z13.2.2.2.1, z13.2.2.2.2.1, z13.2.2.2.2.2.1, z13.2.2.2.2.2.2.1, z13.2.2.2.2.2.2.2.1, z13.2.2.2.2.2.2.2.2.1, z13.2.2.2.2.2.2.2.2.2)) = some (r, q') ∧ (if so t = 1 then (mo_get y rg).bind fun z8 => some z8 else if y = 4 then some ((sv t + 12) &&& 65535) else (mo_inFrame (sv t) y cb).bind fun z7 => some z7) = some r := by
          intro kr hk hn h1
          obtain ⟨g', t1, t2, t3, -⟩ := take_ok hB ht sv q
          have er : tc_K_registersOf t kr sv cb q.1 q.2.1 q.2.2.1 q.2.2.2.1 q.2.2.2.2.1 q.2.2.2.2.2.1 q.2.2.2.2.2.2.1 q.2.2.2.2.2.2.2.1 q.2.2.2.2.2.2.2.2 = some (false, g') := by
            unfold tc_K_registersOf
            rw [if_pos tkt, if_pos hk, if_neg hn, show tc_K_take_S t sv cb q.1 q.2.1 q.2.2.1 q.2.2.2.1 q.2.2.2.2.1 q.2.2.2.2.2.1 q.2.2.2.2.2.2.1 q.2.2.2.2.2.2.2.1 q.2.2.2.2.2.2.2.2 = _ from t1]
            rfl
          rw [er, Option.bind_some, if_neg (show ¬ (false, g').1 = true from fun h => Bool.noConfusion h), if_neg h1, rf_get f2 (sv t) hB, ← t3]
          obtain ⟨r, hr⟩ := get_some y g'.1 g'.2.1 g'.2.2.1 g'.2.2.2.1 g'.2.2.2.2.1 g'.2.2.2.2.2.1 g'.2.2.2.2.2.2.1 g'.2.2.2.2.2.2.2.1 g'.2.2.2.2.2.2.2.2
          refine ⟨r, g', ?_, ?_⟩
          · show ((tc_G_get y g'.1 g'.2.1 g'.2.2.1 g'.2.2.2.1 g'.2.2.2.2.1 g'.2.2.2.2.2.1 g'.2.2.2.2.2.2.1 g'.2.2.2.2.2.2.2.1 g'.2.2.2.2.2.2.2.2).bind _) = _
            rw [hr]
            rfl
          · rw [show mo_get y (rg_ g') = _ from get_eq f2 t2.1 t2.2.1, hr]
        rcases hR with ⟨rfl, rfl, h3, h4⟩ | ⟨i, hi, rfl, rfl, h4, h5, rfl, h7⟩
        · exact other none rfl (fun h => by cases h) (h3 t ht)
        · by_cases hti : t = i
          · subst hti
            rw [if_pos h4]
            have er : tc_K_registersOf t (some t) sv cb q.1 q.2.1 q.2.2.1 q.2.2.2.1 q.2.2.2.2.1 q.2.2.2.2.2.1 q.2.2.2.2.2.2.1 q.2.2.2.2.2.2.2.1 q.2.2.2.2.2.2.2.2 = some (true, q) := by
              unfold tc_K_registersOf
              rw [if_pos tkt, if_pos tkt, if_pos rfl]
            obtain ⟨r, hr⟩ := get_some y g.1 g.2.1 g.2.2.1 g.2.2.2.1 g.2.2.2.2.1 g.2.2.2.2.2.1 g.2.2.2.2.2.2.1 g.2.2.2.2.2.2.2.1 g.2.2.2.2.2.2.2.2
            rw [er, Option.bind_some, if_pos (show (true, q).1 = true from rfl), hr, show mo_get y (rg_ g) = _ from get_eq f2 h7.1 h7.2.1, hr]
            exact ⟨r, q, rfl, rfl⟩
          · exact other (some i) (decide_eq_true hi) (fun h => hti (Option.some.inj h)) (fun h => hti (h5 t ht h))
      · rw [f1, Option.bind_some, if_pos (show bz_i false = 0 from rfl)]
        refine ⟨-1, q, rfl, ?_⟩
        rcases f2 with h | ⟨h, h2⟩ | ⟨h, h2, h3⟩ | ⟨h, h2, h3, h4⟩
        · rw [if_pos h]
        · rw [if_neg h, if_pos h2]
        · rw [if_neg h, if_neg h2, if_pos h3]
        · rw [if_neg h, if_neg h2, if_neg h3, if_pos h4]
  · rw [e1, e2, Option.bind_some, Option.bind_some, if_neg (show ¬ bz_i true = 0 by decide)]
    exact ⟨-1, q, rfl, rfl⟩
theorem lost_ok (tm : Int32) (tg : Bool) : ∃ r : Int32, tc_T_lost tm tg = some r ∧ mo_lost tg tm = some r := by
  unfold tc_T_lost mo_lost
  cases tg with
  | false => exact ⟨tm, rfl, by rw [if_pos (show bz_i false = 0 from rfl), i_a0]⟩
  | true => exact ⟨tm + 100000, rfl, rfl⟩
theorem left_ok (pe re : Int32) (h : pe = 0 → re = 0) : mo_left pe re = some re := by
  unfold mo_left
  by_cases h1 : pe = 0
  · rw [if_pos h1, h h1]
  · rw [if_neg h1]
end OU
