section GS
variable {cb : Nat → Int32} {a b d c x y u s p : Int32} {so sv tl su qu : Nat → Int32} {wa ru : Int32}
/-- group 1 but 16 -/
theorem g1_ok (hB : okB cb) (ho : ok_ a b d c x y u s p) (op py : Int32) (hop : op = 17 ∨ op = 18 ∨ op = 19 ∨ op = 20 ∨ op = 21 ∨ op = 22 ∨ op = 23 ∨ op = 24 ∨ op = 25 ∨ op = 26 ∨ op = 27 ∨ op = 28 ∨ op = 29 ∨ op = 30 ∨ op = 31) : ∃ (py' po' : Int32) (g' : R9), tc_P_doGroup1 op py (-1) cb a b d c x y u s p = some (py', po', g') ∧ sg_ok so sv tl su qu wa ru (py', po', cb, g') (mo_single op cb (rf_ a b d c x y u s p) so sv tl su qu wa ru py false) := by
  have bad : ∃ (py' po' : Int32) (g' : R9), tc_P_doGroup1_j141 py (-1) cb a b d c x y u s p = some (py', po', g') ∧ sg_ok so sv tl su qu wa ru (py', po', cb, g') (some (cb, rf_ a b d c x y u s p, so, sv, tl, su, qu, wa, ru, py, true)) :=
    ⟨_, _, (a, b, d, c, x, y, u, s, p), rfl, Or.inr ⟨rfl, hB, (a, b, d, c, x, y, u, s, p), _, rfl⟩⟩
  have tr : ∀ ex : Bool, ∃ (py' po' : Int32) (g' : R9), ((tc_P_moveRegister ex py (-1) cb a b d c x y u s p).bind fun z22 => some (z22.1, z22.2.1, z22.2.2.1, z22.2.2.2.1, z22.2.2.2.2.1, z22.2.2.2.2.2.1, z22.2.2.2.2.2.2.1, z22.2.2.2.2.2.2.2.1, z22.2.2.2.2.2.2.2.2.1, z22.2.2.2.2.2.2.2.2.2.1, z22.2.2.2.2.2.2.2.2.2.2)) = some (py', po', g') ∧ sg_ok so sv tl su qu wa ru (py', po', cb, g') (mo_single_j108 (bif ex then 30 else 31) cb (rf_ a b d c x y u s p) so sv tl su qu wa ru py false) := by
    intro ex
    obtain ⟨py', po', g', h1, h2⟩ := td_ok hB ho py ex
    refine ⟨py', po', g', by rw [h1]; rfl, ?_⟩
    unfold mo_single_j108
    rcases h2 with ⟨k1, k2, k3⟩ | ⟨k1, g0, sp, k3⟩
    · rw [k3]
      exact Or.inl ⟨k1, hB, k2, rfl⟩
    · rw [k3]
      exact Or.inr ⟨k1, hB, g0, sp, rfl⟩
  rcases hop with rfl | rfl | rfl | rfl | rfl | rfl | rfl | rfl | rfl | rfl | rfl | rfl | rfl | rfl | rfl
  · exact bad
  · exact ⟨_, _, (a, b, d, c, x, y, u, s, p), rfl, Or.inl ⟨rfl, hB, ho, rfl⟩⟩
  · exact bad
  · exact bad
  · exact bad
  · exact bad
  · exact bad
  · exact bad
  · exact bad
  · refine ⟨py + 1, -1, (a, b, d, c ||| rd_ cb p, x, y, u, s, (p + 1) &&& 65535), ?_, Or.inl ⟨rfl, hB, ?_, ?_⟩⟩
    · show ((tc_P_fetch 1 py cb p).bind _) = _
      rw [tc_fetch1]
      rfl
    · obtain ⟨ha, hb, hd, hc, hx, hy, hu, hs, hp⟩ := ok_p ho (p + 1)
      exact ⟨ha, hb, hd, rb_bor hc (rd_ok hB _), hx, hy, hu, hs, hp⟩
    · show ((mo_fetch cb _ py).bind _) = _
      rw [mo_fetch_eq, Option.bind_some]
      show ((mo_set 10 (c ||| rd_ cb p) (rf_ a b d c x y u s ((p + 1) &&& 65535))).bind _) = _
      rw [show mo_set 10 (c ||| rd_ cb p) (rf_ a b d c x y u s ((p + 1) &&& 65535)) = some (upd (rf_ a b d c x y u s ((p + 1) &&& 65535)) 10 ((c ||| rd_ cb p) &&& 255)) from rfl, rf_10, rb_id (rb_bor ho.2.2.2.1 (rd_ok hB _))]
      rfl
  · exact bad
  · refine ⟨py + 1, -1, (a, b, d, c &&& rd_ cb p, x, y, u, s, (p + 1) &&& 65535), ?_, Or.inl ⟨rfl, hB, ?_, ?_⟩⟩
    · show ((tc_P_fetch 1 py cb p).bind _) = _
      rw [tc_fetch1]
      rfl
    · obtain ⟨ha, hb, hd, hc, hx, hy, hu, hs, hp⟩ := ok_p ho (p + 1)
      exact ⟨ha, hb, hd, rb_band hc (rd_ok hB _), hx, hy, hu, hs, hp⟩
    · show ((mo_fetch cb _ py).bind _) = _
      rw [mo_fetch_eq, Option.bind_some]
      show ((mo_set 10 (c &&& rd_ cb p) (rf_ a b d c x y u s ((p + 1) &&& 65535))).bind _) = _
      rw [show mo_set 10 (c &&& rd_ cb p) (rf_ a b d c x y u s ((p + 1) &&& 65535)) = some (upd (rf_ a b d c x y u s ((p + 1) &&& 65535)) 10 ((c &&& rd_ cb p) &&& 255)) from rfl, rf_10, rb_id (rb_band ho.2.2.2.1 (rd_ok hB _))]
      rfl
  · obtain ⟨n, hn, rfl⟩ := ho.2.1
    obtain ⟨e1, e2, e3, e4⟩ := sex_all n hn
    obtain ⟨m, hm, rfl⟩ := ho.2.2.2.1
    have hw : rw_ ((nI n).toInt8.toInt32 &&& 65535) := rw_and _
    refine ⟨py, -1, (((nI n).toInt8.toInt32 >>> ((8 : Int32) &&& 31)) &&& 255, (nI n).toInt8.toInt32 &&& 255, d, mk_ 4 (sz_ ((nI n).toInt8.toInt32 &&& 65535) 16) (mk_ 8 (sn_ ((nI n).toInt8.toInt32 &&& 65535) 16) (nI m)), x, y, u, s, p), ?_, Or.inl ⟨rfl, hB, ?_, ?_⟩⟩
    · show ((tc_C_extendB a (nI n) d (nI m) x y u s p).bind _) = _
      unfold tc_C_extendB
      rw [tc_signed1, Option.bind_some, show tc_G_set 0 ((nI n).toInt8.toInt32 &&& 65535) a (nI n) d (nI m) x y u s p = some ((((nI n).toInt8.toInt32 &&& 65535) &&& 65535) >>> ((8 : Int32) &&& 31), ((nI n).toInt8.toInt32 &&& 65535) &&& 255, d, nI m, x, y, u, s, p) from rfl, Option.bind_some, e3, e4, (so16 hw).1, Option.bind_some, fl12_all m hm _ _ (so16 hw).2]
      rfl
    · obtain ⟨ha, hb, hd, hc, hx, hy, hu, hs, hp⟩ := ho
      exact ⟨rb_and _, rb_and _, hd, rb_mk4 (rb_mk8 hc _) _, hx, hy, hu, hs, hp⟩
    · show ((mo_signed (nI n)).bind _) = _
      rw [mo_signed_eq ⟨n, hn, rfl⟩, Option.bind_some, show mo_set 0 (nI n).toInt8.toInt32 (rf_ a (nI n) d (nI m) x y u s p) = some (upd (upd (rf_ a (nI n) d (nI m) x y u s p) 8 (((nI n).toInt8.toInt32 >>> ((8 : Int32) &&& 31)) &&& 255)) 9 ((nI n).toInt8.toInt32 &&& 255)) from rfl, rf_8, rf_9, Option.bind_some]
      rw [show mo_get 0 (rf_ (((nI n).toInt8.toInt32 >>> ((8 : Int32) &&& 31)) &&& 255) ((nI n).toInt8.toInt32 &&& 255) d (nI m) x y u s p) = some ((256 : Int32) * (((nI n).toInt8.toInt32 >>> ((8 : Int32) &&& 31)) &&& 255) + ((nI n).toInt8.toInt32 &&& 255)) from rfl, e2, Option.bind_some, mo_sign_eq]
      rfl
  · exact tr true
  · exact tr false
/-- an address into a register -/
theorem la_ok (hB : okB cb) (ho : ok_ a b d c x y u s p) (op q py : Int32) (hq : (op = 48 ∧ q = 1) ∨ (op = 49 ∧ q = 2) ∨ (op = 50 ∧ q = 4) ∨ (op = 51 ∧ q = 3)) : ∃ (py' po' : Int32) (g' : R9), tc_P_loadAddress q py (-1) cb a b d c x y u s p = some (py', po', g') ∧ sg_ok so sv tl su qu wa ru (py', po', cb, g') (mo_single op cb (rf_ a b d c x y u s p) so sv tl su qu wa ru py false) := by
  have vq : vk_ q := by rcases hq with ⟨-, rfl⟩ | ⟨-, rfl⟩ | ⟨-, rfl⟩ | ⟨-, rfl⟩ <;> (unfold vk_; decide)
  have pq : pn_ q := by rcases hq with ⟨-, rfl⟩ | ⟨-, rfl⟩ | ⟨-, rfl⟩ | ⟨-, rfl⟩ <;> (unfold pn_; decide)
  have e : mo_single op cb (rf_ a b d c x y u s p) so sv tl su qu wa ru py false = (mo_address 2 cb (rf_ a b d c x y u s p) py false).bind fun z36 => mo_single_j165 op z36.1 q cb z36.2.1 so sv tl su qu wa ru z36.2.2.1 z36.2.2.2 := by
    rcases hq with ⟨rfl, rfl⟩ | ⟨rfl, rfl⟩ | ⟨rfl, rfl⟩ | ⟨rfl, rfl⟩ <;> rfl
  obtain ⟨z, h1, h2⟩ := ix_ok hB ho py
  rw [e]
  unfold tc_P_loadAddress
  rw [h1, Option.bind_some]
  obtain ⟨ad, py1, po, g⟩ := z
  rcases h2 with ⟨g1, g2, g3, g4⟩ | ⟨g1, w, g0, sp, g4⟩
  · dsimp only at g1 g2 g3 g4 ⊢
    obtain ⟨g9, n1, n2, n3⟩ := set_eq (v := ad) vq g3
    rw [g4, Option.bind_some, n1, Option.bind_some]
    unfold mo_single_j165
    rw [if_pos (show bz_i false = 0 from rfl), n2, Option.bind_some]
    have flag : ∀ t : Bool, ∃ c', rb_ c' ∧ tc_P_loadAddress_j38 (bif t then 4 else 0) py1 po cb g9.1 g9.2.1 g9.2.2.1 g9.2.2.2.1 g9.2.2.2.2.1 g9.2.2.2.2.2.1 g9.2.2.2.2.2.2.1 g9.2.2.2.2.2.2.2.1 g9.2.2.2.2.2.2.2.2 = some (py1, po, g9.1, g9.2.1, g9.2.2.1, c', g9.2.2.2.2.1, g9.2.2.2.2.2.1, g9.2.2.2.2.2.2.1, g9.2.2.2.2.2.2.2.1, g9.2.2.2.2.2.2.2.2) ∧ mo_single_j197 t cb (rg_ g9) so sv tl su qu wa ru py1 false = some (cb, rf_ g9.1 g9.2.1 g9.2.2.1 c' g9.2.2.2.2.1 g9.2.2.2.2.2.1 g9.2.2.2.2.2.2.1 g9.2.2.2.2.2.2.2.1 g9.2.2.2.2.2.2.2.2, so, sv, tl, su, qu, wa, ru, py1, false) := by
      intro t
      obtain ⟨m, hm, em⟩ := n3.2.2.2.1
      refine ⟨mk_ 4 t g9.2.2.2.1, rb_mk4 n3.2.2.2.1 _, ?_, ?_⟩
      · unfold tc_P_loadAddress_j38 tc_G_setFlags
        rw [em, fl4_1 m hm]
        rfl
      · unfold mo_single_j197 mo_single_j200
        rw [mo_mark_eq]
        rfl
    have fin : ∀ t : Bool, ∃ (py' po' : Int32) (g' : R9), tc_P_loadAddress_j38 (bif t then 4 else 0) py1 po cb g9.1 g9.2.1 g9.2.2.1 g9.2.2.2.1 g9.2.2.2.2.1 g9.2.2.2.2.2.1 g9.2.2.2.2.2.2.1 g9.2.2.2.2.2.2.2.1 g9.2.2.2.2.2.2.2.2 = some (py', po', g') ∧ sg_ok so sv tl su qu wa ru (py', po', cb, g') (mo_single_j197 t cb (rg_ g9) so sv tl su qu wa ru py1 false) := by
      intro t
      obtain ⟨c', k1, k2, k3⟩ := flag t
      refine ⟨_, _, (g9.1, g9.2.1, g9.2.2.1, c', g9.2.2.2.2.1, g9.2.2.2.2.2.1, g9.2.2.2.2.2.2.1, g9.2.2.2.2.2.2.2.1, g9.2.2.2.2.2.2.2.2), k2, Or.inl ⟨g1, hB, ?_, k3⟩⟩
      exact ⟨n3.1, n3.2.1, n3.2.2.1, k1, n3.2.2.2.2⟩
    have low : (op = 48 ∨ op = 49) → (q = 1 ∨ q = 2) → ∃ (py' po' : Int32) (g' : R9), tc_P_loadAddress_j24 ad py1 po cb g9.1 g9.2.1 g9.2.2.1 g9.2.2.2.1 g9.2.2.2.2.1 g9.2.2.2.2.2.1 g9.2.2.2.2.2.2.1 g9.2.2.2.2.2.2.2.1 g9.2.2.2.2.2.2.2.2 = some (py', po', g') ∧ sg_ok so sv tl su qu wa ru (py', po', cb, g') (if ad = 0 then mo_single_j197 true cb (rg_ g9) so sv tl su qu wa ru py1 false else mo_single_j197 false cb (rg_ g9) so sv tl su qu wa ru py1 false) := by
      intro _ _
      unfold tc_P_loadAddress_j24
      by_cases h0 : ad = 0
      · rw [if_pos h0, if_pos h0]
        exact fin true
      · rw [if_neg h0, if_neg h0]
        exact fin false
    rcases hq with ⟨rfl, rfl⟩ | ⟨rfl, rfl⟩ | ⟨rfl, rfl⟩ | ⟨rfl, rfl⟩
    · rw [if_neg (show ¬ (50 : Int32) ≤ 48 by decide), if_pos rfl]
      exact low (Or.inl rfl) (Or.inl rfl)
    · rw [if_neg (show ¬ (50 : Int32) ≤ 49 by decide), if_neg (by decide), if_pos rfl]
      exact low (Or.inr rfl) (Or.inr rfl)
    · rw [if_pos (show (50 : Int32) ≤ 50 by decide), if_neg (by decide), if_neg (by decide)]
      exact ⟨_, _, g9, rfl, Or.inl ⟨g1, hB, n3, rfl⟩⟩
    · rw [if_pos (show (50 : Int32) ≤ 51 by decide), if_neg (by decide), if_neg (by decide)]
      exact ⟨_, _, g9, rfl, Or.inl ⟨g1, hB, n3, rfl⟩⟩
  · dsimp only at g1 g4 ⊢
    obtain ⟨g9, n1, -, -⟩ := set_rg ad pq g
    rw [g4, Option.bind_some, n1, Option.bind_some]
    have bad : ∀ g' : R9, sg_ok so sv tl su qu wa ru (py1, po, cb, g') (mo_single_j165 op w q cb (rg_ g0) so sv tl su qu wa ru sp true) := by
      intro g'
      exact Or.inr ⟨g1, hB, g0, sp, rfl⟩
    have any : ∃ g' : R9, tc_P_loadAddress_j24 ad py1 po cb g9.1 g9.2.1 g9.2.2.1 g9.2.2.2.1 g9.2.2.2.2.1 g9.2.2.2.2.2.1 g9.2.2.2.2.2.2.1 g9.2.2.2.2.2.2.2.1 g9.2.2.2.2.2.2.2.2 = some (py1, po, g') := by
      unfold tc_P_loadAddress_j24
      by_cases h0 : ad = 0
      · rw [if_pos h0]
        exact ⟨_, rfl⟩
      · rw [if_neg h0]
        exact ⟨_, rfl⟩
    obtain ⟨g', hg'⟩ := any
    by_cases h1 : q = 1
    · rw [if_pos h1]
      exact ⟨_, _, g', hg', bad g'⟩
    · by_cases h2 : q = 2
      · rw [if_neg h1, if_pos h2]
        exact ⟨_, _, g', hg', bad g'⟩
      · rw [if_neg h1, if_neg h2]
        exact ⟨_, _, g9, rfl, bad g9⟩
end GS
