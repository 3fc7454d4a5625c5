section GT
variable {cb : Nat → Int32} {a b d c x y u s p : Int32} {so sv tl su qu : Nat → Int32} {wa ru : Int32}
theorem mny_push (op st v : Int32) (me rg : Nat → Int32) (sp : Int32) (hs : ts_ st) (hop : op - op / 2 * 2 = 0) : mo_many_j16 op v st me rg sp = pu_ st v 8 me rg sp := by
  unfold mo_many_j16
  rw [show (7 : Int32) = dn_ 8 by decide]
  exact many_push hs hop 8 (by omega) me rg sp
theorem mny_pull (op st v : Int32) (me rg : Nat → Int32) (sp : Int32) (hs : ts_ st) (hop : op - op / 2 * 2 = 1) : mo_many_j16 op v st me rg sp = (pl_ st v 8 me rg sp).bind fun z => some (me, z.1, z.2) := by
  unfold mo_many_j16
  rw [mo_many_l21_s, if_neg (by decide), if_neg (by rw [hop]; decide)]
  unfold mo_many_j59
  exact many_pull hs hop 8 (by omega) me rg sp
theorem mul_nat {n m : Nat} (h1 : n < 256) (h2 : m < 256) : n * m < 65536 := by
  have := Nat.mul_le_mul (Nat.le_of_lt_succ (show n < 255 + 1 from h1)) (Nat.le_of_lt_succ (show m < 255 + 1 from h2))
  omega
theorem g3_ok (hB : okB cb) (ho : ok_ a b d c x y u s p) (op py : Int32) (hop : op = 48 ∨ op = 49 ∨ op = 50 ∨ op = 51 ∨ op = 52 ∨ op = 53 ∨ op = 54 ∨ op = 55 ∨ op = 56 ∨ op = 57 ∨ op = 58 ∨ op = 59 ∨ op = 60 ∨ op = 61 ∨ op = 62) : ∃ z, tc_P_doGroup3 op py (-1) cb a b d c x y u s p = some z ∧ sg_ok so sv tl su qu wa ru z (mo_single op cb (rf_ a b d c x y u s p) so sv tl su qu wa ru py false) := by
  have bad : ∃ z, tc_P_doGroup3_j223 py (-1) cb a b d c x y u s p = some z ∧ sg_ok so sv tl su qu wa ru z (some (cb, rf_ a b d c x y u s p, so, sv, tl, su, qu, wa, ru, py, true)) :=
    ⟨_, rfl, Or.inr ⟨rfl, hB, (a, b, d, c, x, y, u, s, p), _, rfl⟩⟩
  have lea : ∀ q, ((op = 48 ∧ q = 1) ∨ (op = 49 ∧ q = 2) ∨ (op = 50 ∧ q = 4) ∨ (op = 51 ∧ q = 3)) → ∃ z, ((tc_P_loadAddress q py (-1) cb a b d c x y u s p).bind fun z18 => some (z18.1, z18.2.1, cb, z18.2.2.1, z18.2.2.2.1, z18.2.2.2.2.1, z18.2.2.2.2.2.1, z18.2.2.2.2.2.2.1, z18.2.2.2.2.2.2.2.1, z18.2.2.2.2.2.2.2.2.1, z18.2.2.2.2.2.2.2.2.2.1, z18.2.2.2.2.2.2.2.2.2.2)) = some z ∧ sg_ok so sv tl su qu wa ru z (mo_single op cb (rf_ a b d c x y u s p) so sv tl su qu wa ru py false) := by
    intro q hq
    obtain ⟨py', po', g', h1, h2⟩ := la_ok (so := so) (sv := sv) (tl := tl) (su := su) (qu := qu) (wa := wa) (ru := ru) hB ho op q py hq
    exact ⟨(py', po', cb, g'), by rw [h1]; rfl, h2⟩
  have push : ∀ st, ts_ st → op - op / 2 * 2 = 0 → (mo_single op cb (rf_ a b d c x y u s p) so sv tl su qu wa ru py false = ((mo_fetch cb (rf_ a b d c x y u s p) py).bind fun z14 => mo_many_j16 op z14.1 st cb z14.2.1 z14.2.2).bind fun z32 => some (z32.1, z32.2.1, so, sv, tl, su, qu, wa, ru, z32.2.2, false)) → ∃ z, ((tc_P_fetch 1 py cb p).bind fun z26 => (tc_P_push st z26.1 z26.2.1 cb a b d c x y u s z26.2.2).bind fun z27 => some (z27.1, (-1 : Int32), z27.2.1, z27.2.2.1, z27.2.2.2.1, z27.2.2.2.2.1, z27.2.2.2.2.2.1, z27.2.2.2.2.2.2.1, z27.2.2.2.2.2.2.2.1, z27.2.2.2.2.2.2.2.2.1, z27.2.2.2.2.2.2.2.2.2.1, z27.2.2.2.2.2.2.2.2.2.2)) = some z ∧ sg_ok so sv tl su qu wa ru z (mo_single op cb (rf_ a b d c x y u s p) so sv tl su qu wa ru py false) := by
    intro st hs hev e
    obtain ⟨py', g', cb', h1, h2, h3, h4⟩ := tp_push (ch := rd_ cb p) hB hs (a, b, d, c, x, y, u, s, (p + 1) &&& 65535) (py + 1)
    refine ⟨(py', -1, cb', g'), ?_, Or.inl ⟨rfl, h2, h3 (ok_p ho _), ?_⟩⟩
    · rw [tc_fetch1, Option.bind_some, show tc_P_push st (rd_ cb p) (py + 1) cb a b d c x y u s ((p + 1) &&& 65535) = some (py', cb', g') from h1]
      rfl
    · rw [e, mo_fetch_eq, Option.bind_some]
      dsimp only
      rw [mny_push op st _ _ _ _ hs hev, show pu_ st (rd_ cb p) 8 cb (rf_ a b d c x y u s ((p + 1) &&& 65535)) (py + 1) = some (cb', rg_ g', py') from h4]
      rfl
  have pull : ∀ st, ts_ st → op - op / 2 * 2 = 1 → (mo_single op cb (rf_ a b d c x y u s p) so sv tl su qu wa ru py false = ((mo_fetch cb (rf_ a b d c x y u s p) py).bind fun z14 => mo_many_j16 op z14.1 st cb z14.2.1 z14.2.2).bind fun z32 => some (z32.1, z32.2.1, so, sv, tl, su, qu, wa, ru, z32.2.2, false)) → ∃ z, ((tc_P_fetch 1 py cb p).bind fun z26 => (tc_P_pull st z26.1 z26.2.1 cb a b d c x y u s z26.2.2).bind fun z30 => some (z30.1, (-1 : Int32), cb, z30.2.1, z30.2.2.1, z30.2.2.2.1, z30.2.2.2.2.1, z30.2.2.2.2.2.1, z30.2.2.2.2.2.2.1, z30.2.2.2.2.2.2.2.1, z30.2.2.2.2.2.2.2.2.1, z30.2.2.2.2.2.2.2.2.2)) = some z ∧ sg_ok so sv tl su qu wa ru z (mo_single op cb (rf_ a b d c x y u s p) so sv tl su qu wa ru py false) := by
    intro st hs hod e
    obtain ⟨py', g', h1, h3, h4⟩ := tp_pull (ch := rd_ cb p) hB hs (a, b, d, c, x, y, u, s, (p + 1) &&& 65535) (py + 1)
    refine ⟨(py', -1, cb, g'), ?_, Or.inl ⟨rfl, hB, h3 (ok_p ho _), ?_⟩⟩
    · rw [tc_fetch1, Option.bind_some, show tc_P_pull st (rd_ cb p) (py + 1) cb a b d c x y u s ((p + 1) &&& 65535) = some (py', g') from h1]
      rfl
    · rw [e, mo_fetch_eq, Option.bind_some]
      dsimp only
      rw [mny_pull op st _ _ _ _ hs hod, show pl_ st (rd_ cb p) 8 cb (rf_ a b d c x y u s ((p + 1) &&& 65535)) (py + 1) = some (rg_ g', py') from h4]
      rfl
  have many : ∀ st : Int32, ((54 : Int32) ≤ op ∧ st = 3) ∨ (¬ (54 : Int32) ≤ op ∧ st = 4) → mo_many op cb (rf_ a b d c x y u s p) py = (mo_fetch cb (rf_ a b d c x y u s p) py).bind fun z14 => mo_many_j16 op z14.1 st cb z14.2.1 z14.2.2 := by
    intro st h
    unfold mo_many
    rcases h with ⟨h, rfl⟩ | ⟨h, rfl⟩
    · simp only [if_pos h]
    · simp only [if_neg h]
  rcases hop with rfl | rfl | rfl | rfl | rfl | rfl | rfl | rfl | rfl | rfl | rfl | rfl | rfl | rfl | rfl
  · rw [dg_48]
    exact lea 1 (Or.inl ⟨rfl, rfl⟩)
  · rw [dg_49]
    exact lea 2 (Or.inr (Or.inl ⟨rfl, rfl⟩))
  · rw [dg_50]
    exact lea 4 (Or.inr (Or.inr (Or.inl ⟨rfl, rfl⟩)))
  · rw [dg_51]
    exact lea 3 (Or.inr (Or.inr (Or.inr ⟨rfl, rfl⟩)))
  · rw [dg_52]
    exact push 4 (Or.inl rfl) (by decide) (by rw [sl_52, many 4 (Or.inr ⟨by decide, rfl⟩)])
  · rw [dg_53]
    exact pull 4 (Or.inl rfl) (by decide) (by rw [sl_53, many 4 (Or.inr ⟨by decide, rfl⟩)])
  · rw [dg_54]
    exact push 3 (Or.inr rfl) (by decide) (by rw [sl_54, many 3 (Or.inl ⟨by decide, rfl⟩)])
  · rw [dg_55]
    exact pull 3 (Or.inr rfl) (by decide) (by rw [sl_55, many 3 (Or.inl ⟨by decide, rfl⟩)])
  · rw [dg_56, sl_56]
    exact bad
  · rw [dg_57, sl_57]
    unfold mo_single_j223
    obtain ⟨py', g', h1, h3, h4⟩ := tp_pull (ch := 128) hB (Or.inl rfl) (a, b, d, c, x, y, u, s, p) py
    rw [if_pos rfl, show mo_pull 4 5 cb (rf_ a b d c x y u s p) py = some (rg_ g', py') from mo_pull_of h4, show tc_P_pull 4 128 py cb a b d c x y u s p = some (py', g') from h1]
    exact ⟨(py', -1, cb, g'), rfl, Or.inl ⟨rfl, hB, h3 ho, rfl⟩⟩
  · rw [dg_58, sl_58]
    unfold mo_single_j223
    obtain ⟨g9, n1, n2, n3⟩ := set_eq (k := 1) (v := x + b) (Or.inr (Or.inl rfl)) ho
    rw [if_neg (by decide), if_pos rfl, n1, show mo_set 1 (rf_ a b d c x y u s p 1 + rf_ a b d c x y u s p 9) (rf_ a b d c x y u s p) = some (rg_ g9) from n2]
    exact ⟨(py, -1, cb, g9), rfl, Or.inl ⟨rfl, hB, n3, rfl⟩⟩
  · rw [dg_59, sl_59]
    exact bad
  · rw [dg_60, sl_60]
    exact bad
  · obtain ⟨n, hn, rfl⟩ := ho.1
    obtain ⟨m, hm, rfl⟩ := ho.2.1
    obtain ⟨k, hk, rfl⟩ := ho.2.2.2.1
    have hlt := mul_nat hn hm
    have ew : rw_ (nI n * nI m) := ⟨n * m, hlt, pk_mul n m⟩
    obtain ⟨B', hB', eB⟩ := rb_and (nI n * nI m)
    have eA : ((nI n * nI m) &&& 65535) >>> ((8 : Int32) &&& 31) = ((nI n * nI m) >>> ((8 : Int32) &&& 31)) &&& 255 := hi_b _
    have eD : (256 : Int32) * (((nI n * nI m) >>> ((8 : Int32) &&& 31)) &&& 255) + ((nI n * nI m) &&& 255) = nI n * nI m := by
      rw [← hl_eq (rb_and _) (rb_and _)]
      rw [pk_mul, pk_shrN (by omega) _ 8 (by decide), and_b, and_b, pk_tn (by omega), pk_tn (by omega), pk_shlN _ 8 (by decide) (by omega), nI_or, show (2 : Nat) ^ 8 = 256 by decide, or_add (Nat.mod_lt _ (by decide))]
      congr 1
      omega
    refine ⟨(py, -1, cb, ((nI n * nI m) >>> ((8 : Int32) &&& 31)) &&& 255, (nI n * nI m) &&& 255, d, mk_ 1 (decide (¬ ((nI n * nI m) &&& 255) ≤ 127)) (mk_ 4 (decide (nI n * nI m = 0)) (nI k)), x, y, u, s, p), ?_, Or.inl ⟨rfl, hB, ?_, ?_⟩⟩
    · rw [dg_61]
      unfold tc_C_multiply
      rw [show tc_G_set 0 (nI n * nI m) (nI n) (nI m) d (nI k) x y u s p = some (((nI n * nI m) &&& 65535) >>> ((8 : Int32) &&& 31), (nI n * nI m) &&& 255, d, nI k, x, y, u, s, p) from rfl, Option.bind_some, eA]
      dsimp only
      unfold tc_C_multiply_j34 tc_G_setFlags
      rw [fl5_all k hk]
      by_cases h0 : nI n * nI m = 0
      · rw [if_pos h0, decide_eq_true h0, eB, b7_all B' hB']
        rfl
      · rw [if_neg h0, decide_eq_false h0, eB, b7_all B' hB']
        rfl
    · obtain ⟨ha, hb, hd, hc, hx, hy, hu, hs, hp⟩ := ho
      exact ⟨rb_and _, rb_and _, hd, rb_mk1 (rb_mk4 hc _) _, hx, hy, hu, hs, hp⟩
    · rw [sl_61]
      unfold mo_single_j223
      rw [if_neg (by decide), if_neg (by decide), if_pos rfl]
      rw [show mo_set 0 (rf_ (nI n) (nI m) d (nI k) x y u s p 8 * rf_ (nI n) (nI m) d (nI k) x y u s p 9) (rf_ (nI n) (nI m) d (nI k) x y u s p) = mo_set 0 (nI n * nI m) (rf_ (nI n) (nI m) d (nI k) x y u s p) from rfl, show mo_set 0 (nI n * nI m) (rf_ (nI n) (nI m) d (nI k) x y u s p) = some (upd (upd (rf_ (nI n) (nI m) d (nI k) x y u s p) 8 (((nI n * nI m) >>> ((8 : Int32) &&& 31)) &&& 255)) 9 ((nI n * nI m) &&& 255)) from rfl, rf_8, rf_9, Option.bind_some]
      rw [show mo_get 0 (rf_ (((nI n * nI m) >>> ((8 : Int32) &&& 31)) &&& 255) ((nI n * nI m) &&& 255) d (nI k) x y u s p) = some ((256 : Int32) * (((nI n * nI m) >>> ((8 : Int32) &&& 31)) &&& 255) + ((nI n * nI m) &&& 255)) from rfl, eD, Option.bind_some]
      have tail : ∀ t : Bool, mo_single_j307 t cb (rf_ (((nI n * nI m) >>> ((8 : Int32) &&& 31)) &&& 255) ((nI n * nI m) &&& 255) d (nI k) x y u s p) so sv tl su qu wa ru py false = some (cb, rf_ (((nI n * nI m) >>> ((8 : Int32) &&& 31)) &&& 255) ((nI n * nI m) &&& 255) d (mk_ 1 (decide (¬ ((nI n * nI m) &&& 255) ≤ 127)) (mk_ 4 t (nI k))) x y u s p, so, sv, tl, su, qu, wa, ru, py, false) := by
        intro t
        unfold mo_single_j307 mo_single_j329
        rw [mo_mark_eq, Option.bind_some, mo_mark_eq, mo_mark_eq]
        show (if ((nI n * nI m) &&& 255) ≤ 127 then _ else _) = _
        by_cases h : ((nI n * nI m) &&& 255) ≤ 127
        · rw [if_pos h, decide_eq_false (not_not_intro h)]
          rfl
        · rw [if_neg h, decide_eq_true h]
          rfl
      by_cases h0 : nI n * nI m = 0
      · rw [if_pos h0, tail, decide_eq_true h0]
      · rw [if_neg h0, tail, decide_eq_false h0]
  · rw [dg_62, sl_62]
    exact bad
end GT
