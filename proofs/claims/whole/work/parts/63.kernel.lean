/-! Tasks: what holds between the class's kernel and the reference's. -/
def KB (uz : Int32) (ul : Nat → Option Nat) (ks kv kz ku cb : Nat → Int32) (me so sv tl su qu : Nat → Int32) (wa : Int32) : Prop :=
  me = cb ∧ so = ks ∧ sv = kv ∧ su = ku ∧ okB cb ∧ (∀ i, i < 4 → ks i = 3 → kz i = tl i) ∧ ∃ L : List Nat, QL L uz ul qu wa ∧ ∀ i ∈ L, ks i = 2
def RN (kr : Option Nat) (ru : Int32) (ks : Nat → Int32) (g : R9) (rg : Nat → Int32) : Prop :=
  (kr = none ∧ ru = -1 ∧ (∀ i, i < 4 → ks i ≠ 1) ∧ ∃ g0 : R9, rg = rg_ g0) ∨ (∃ i, i < 4 ∧ kr = some i ∧ ru = nI i ∧ ks i = 1 ∧ (∀ j, j < 4 → ks j = 1 → j = i) ∧ rg = rg_ g ∧ og_ g)
theorem ne_1 {i : Nat} (h : i < 4) : ¬ nI i = -1 := (by decide +kernel : ∀ i, i < 4 → ¬ nI i = -1) i h
theorem take_ok {cb : Nat → Int32} (hB : okB cb) {t : Nat} (ht : t < 4) (kv : Nat → Int32) (g : R9) : ∃ g' : R9, tc_K_take_G t kv cb g.1 g.2.1 g.2.2.1 g.2.2.2.1 g.2.2.2.2.1 g.2.2.2.2.2.1 g.2.2.2.2.2.2.1 g.2.2.2.2.2.2.2.1 g.2.2.2.2.2.2.2.2 = some g' ∧ og_ g' ∧ rg_ g' = rf_ (rd_ cb (kv t + 1)) (rd_ cb (kv t + 2)) (rd_ cb (kv t + 3)) (rd_ cb (kv t)) (rd2_ cb (kv t + 4)) (rd2_ cb (kv t + 6)) (rd2_ cb (kv t + 8)) ((kv t + 12) &&& 65535) (rd2_ cb (kv t + 10)) ∧ ∀ (g0 : R9) (so : Nat → Int32) (ru sp : Int32), mo_take (nI t) cb (rg_ g0) so kv ru sp = some (rg_ g', upd so t 1, nI t, sp) := by
  obtain ⟨mv', g', h1, -, h3, -⟩ := pull_loop (st := 4) (ch := 255) (Or.inl rfl) hB 8 (by omega) 0 (g.1, g.2.1, g.2.2.1, g.2.2.2.1, g.2.2.2.2.1, g.2.2.2.2.2.1, g.2.2.2.2.2.2.1, kv t, g.2.2.2.2.2.2.2.2)
  have e := h3 0
  rw [pl_all _ _ _ _ _ _ _ _ _ _ _ hB] at e
  have erg : rg_ g' = rf_ (rd_ cb (kv t + 1)) (rd_ cb (kv t + 2)) (rd_ cb (kv t + 3)) (rd_ cb (kv t)) (rd2_ cb (kv t + 4)) (rd2_ cb (kv t + 6)) (rd2_ cb (kv t + 8)) ((kv t + 12) &&& 65535) (rd2_ cb (kv t + 10)) := (Prod.mk.inj (Option.some.inj e)).1.symm
  refine ⟨g', ?_, ?_, erg, ?_⟩
  · unfold tc_K_take_G tc_G_pull
    rw [if_pos ht]
    rw [show tc_G_pull_l6 9 4 255 0 0 g.1 g.2.1 g.2.2.1 g.2.2.2.1 g.2.2.2.2.1 g.2.2.2.2.2.1 g.2.2.2.2.2.2.1 (kv t) g.2.2.2.2.2.2.2.2 cb = _ from h1]
    rfl
  · refine og_of ?_ ?_ ?_ ?_ ?_ ?_ ?_ ?_ ?_ <;> rw [erg]
    · exact rd2_ok hB _
    · exact rd2_ok hB _
    · exact rd2_ok hB _
    · exact rw_and _
    · exact rd2_ok hB _
    · exact rd_ok hB _
    · exact rd_ok hB _
    · exact rd_ok hB _
    · exact rd_ok hB _
  · intro g0 so ru sp
    unfold mo_take
    rw [if_pos (in_nI ht (by decide)), nI_clamp (by omega), rf_4]
    rw [show mo_take_l19 9 (nI t) sp 0 cb (rf_ g0.1 g0.2.1 g0.2.2.1 g0.2.2.2.1 g0.2.2.2.2.1 g0.2.2.2.2.2.1 g0.2.2.2.2.2.2.1 (kv t) g0.2.2.2.2.2.2.2.2) so kv ru sp = _ from take_pull (nI t) sp ru so kv 8 (by omega) cb _ sp]
    rw [pl_all _ _ _ _ _ _ _ _ _ _ _ hB, Option.bind_some, if_pos (in_nI ht (by decide)), nI_clamp (by omega), ← erg]
theorem stack_ok {cb : Nat → Int32} (hB : okB cb) {t : Nat} (ht : t < 4) (kv : Nat → Int32) {g : R9} (hg : og_ g) (sp : Int32) : ∃ (kv' cb' : Nat → Int32) (g' : R9), tc_K_stack_G t kv cb g.1 g.2.1 g.2.2.1 g.2.2.2.1 g.2.2.2.2.1 g.2.2.2.2.2.1 g.2.2.2.2.2.2.1 g.2.2.2.2.2.2.2.1 g.2.2.2.2.2.2.2.2 = some (kv', cb', g') ∧ okB cb' ∧ og_ g' ∧ mo_stack cb (rg_ g) kv (nI t) sp = some (cb', rg_ g', kv', -1, sp) := by
  have hg1 : og_ (g.1, g.2.1, g.2.2.1, g.2.2.2.1 ||| 128, g.2.2.2.2.1, g.2.2.2.2.2.1, g.2.2.2.2.2.2.1, g.2.2.2.2.2.2.2.1, g.2.2.2.2.2.2.2.2) := ⟨hg.1, hg.2.1, hg.2.2.1, rb_mk128 hg.2.2.2.1 true, hg.2.2.2.2⟩
  obtain ⟨mv', g', cb', h1, h2, h3, h4⟩ := push_loop (st := 4) (ch := 255) (Or.inl rfl) 8 (by omega) 0 (g.1, g.2.1, g.2.2.1, g.2.2.2.1 ||| 128, g.2.2.2.2.1, g.2.2.2.2.2.1, g.2.2.2.2.2.2.1, g.2.2.2.2.2.2.2.1, g.2.2.2.2.2.2.2.2) cb hB
  refine ⟨upd kv t g'.2.2.2.2.2.2.2.1, cb', g', ?_, h2, h3 hg1, ?_⟩
  · unfold tc_K_stack_G tc_G_push
    rw [show (7 : Int32) = dn_ 8 by decide, show tc_G_push_l7 9 4 255 0 (dn_ 8) g.1 g.2.1 g.2.2.1 (g.2.2.2.1 ||| 128) g.2.2.2.2.1 g.2.2.2.2.2.1 g.2.2.2.2.2.2.1 g.2.2.2.2.2.2.2.1 g.2.2.2.2.2.2.2.2 cb = _ from h1, Option.bind_some, if_pos ht]
  · unfold mo_stack
    rw [mo_mark_eq, Option.bind_some, show (7 : Int32) = dn_ 8 by decide]
    rw [show mo_stack_l16 9 sp (dn_ 8) cb (rf_ g.1 g.2.1 g.2.2.1 (mk_ 128 true g.2.2.2.1) g.2.2.2.2.1 g.2.2.2.2.2.1 g.2.2.2.2.2.2.1 g.2.2.2.2.2.2.2.1 g.2.2.2.2.2.2.2.2) kv (nI t) sp = _ from stack_push sp (nI t) kv 8 (by omega) cb _ sp]
    have := h4 sp
    rw [i_a0] at this
    rw [show pu_ 4 255 8 cb (rf_ g.1 g.2.1 g.2.2.1 (mk_ 128 true g.2.2.2.1) g.2.2.2.2.1 g.2.2.2.2.2.1 g.2.2.2.2.2.2.1 g.2.2.2.2.2.2.2.1 g.2.2.2.2.2.2.2.2) sp = _ from this, Option.bind_some, if_pos (in_nI ht (by decide)), nI_clamp (by omega)]
    rfl
section KN
variable {uz : Int32} {ul : Nat → Option Nat} {ks kv kz ku cb : Nat → Int32} {me so sv tl su qu : Nat → Int32} {wa : Int32} {kr : Option Nat} {ru : Int32} {g : R9} {rg : Nat → Int32}
/-- nobody runs: the first of the queue is taken -/
theorem nx_ok (hK : KB uz ul ks kv kz ku cb me so sv tl su qu wa) (hR : RN kr ru ks g rg) (sp : Int32) : ∃ (kr' : Option Nat) (uz' : Int32) (ul' : Nat → Option Nat) (ks' : Nat → Int32) (g' : R9) (rg' so' qu' : Nat → Int32) (wa' ru' : Int32), tc_K_takeNext kr uz ul ks kv cb g.1 g.2.1 g.2.2.1 g.2.2.2.1 g.2.2.2.2.1 g.2.2.2.2.2.1 g.2.2.2.2.2.2.1 g.2.2.2.2.2.2.2.1 g.2.2.2.2.2.2.2.2 = some (kr', uz', ul', ks', g') ∧ mo_next me rg so sv qu wa ru sp = some (rg', so', qu', wa', ru', sp) ∧ KB uz' ul' ks' kv kz ku cb me so' sv tl su qu' wa' ∧ RN kr' ru' ks' g' rg' := by
  rcases hR with ⟨rfl, rfl, h3, g0, rfl⟩ | ⟨i, hi, rfl, rfl, h4, h5, rfl, h7⟩
  · obtain ⟨rfl, rfl, rfl, rfl, hB, hsl, L, hQ, h2⟩ := hK
    cases L with
    | nil =>
      have hQ9 := hQ
      obtain ⟨e1, e2, -⟩ := hQ
      refine ⟨none, uz, ul, _, g, rg_ g0, _, qu, wa, -1, ?_, ?_, ⟨rfl, rfl, rfl, rfl, hB, hsl, [], ?_, h2⟩, Or.inl ⟨rfl, rfl, h3, g0, rfl⟩⟩
      · show ((tc_Q_removeFirst uz ul).bind _) = _
        unfold tc_Q_removeFirst
        rw [if_pos (by rw [e1]; rfl)]
        rfl
      · unfold mo_next
        rw [if_neg (by decide), if_pos (by rw [e2]; rfl)]
      · exact hQ9
    | cons t T =>
      have hQ0 := hQ
      have ht : t < 4 := hQ.2.2.2.2.2 t List.mem_cons_self
      have hlen := QL_len hQ
      obtain ⟨uz', wa', ul', qu', r1, r2, r3⟩ := leave_ok hQ ht
      rw [kp_head hQ.2.2.2.2.1] at r3
      obtain ⟨g', t1, t2, -, t4⟩ := take_ok hB ht sv g
      obtain ⟨e1, e2, e3, e4, e5, e6⟩ := hQ
      have eu : ul 0 = some t := e3 0 (by simp)
      have eq0 : qu 0 = nI t := e4 0 (by simp)
      refine ⟨some t, uz', ul', upd so t 1, g', rg_ g', upd so t 1, qu', wa', nI t, ?_, ?_, ⟨rfl, rfl, rfl, rfl, hB, ?_, T, r3, ?_⟩, Or.inr ⟨t, ht, rfl, rfl, upd_eq, ?_, rfl, t2⟩⟩
      · show ((tc_Q_removeFirst uz ul).bind _) = _
        unfold tc_Q_removeFirst
        rw [if_neg (by rw [e1]; exact nI_ne0 (by simp) (by omega)), eu]
        show (((tc_Q_remove t uz ul).bind _).bind _) = _
        rw [r1, Option.bind_some, Option.bind_some]
        show ((tc_K_resume t none so sv me g.1 g.2.1 g.2.2.1 g.2.2.2.1 g.2.2.2.2.1 g.2.2.2.2.2.1 g.2.2.2.2.2.2.1 g.2.2.2.2.2.2.2.1 g.2.2.2.2.2.2.2.2).bind _) = _
        unfold tc_K_resume
        rw [t1, Option.bind_some, if_pos ht]
        rfl
      · unfold mo_next
        rw [if_neg (by decide), if_neg (by rw [e2]; exact nI_ne0 (by simp) (by omega)), eq0, r2, Option.bind_some, t4]
        rfl
      · intro i hi hs
        by_cases e : i = t
        · rw [e, upd_eq] at hs
          exact absurd hs (by decide)
        · rw [upd_ne e] at hs
          exact hsl i hi hs
      · intro i hi
        have : i ≠ t := fun q => (List.nodup_cons.mp e5).1 (q ▸ hi)
        rw [upd_ne this]
        exact h2 i (List.mem_cons_of_mem _ hi)
      · intro j hj hs
        by_cases e : j = t
        · exact e
        · rw [upd_ne e] at hs
          exact absurd hs (h3 j hj)
  · refine ⟨some i, uz, ul, ks, g, rg_ g, so, qu, wa, nI i, rfl, ?_, hK, Or.inr ⟨i, hi, rfl, rfl, h4, h5, rfl, h7⟩⟩
    unfold mo_next
    rw [if_pos (nI_pos' (by omega))]
/-- a task ends; then the next runs -/
theorem end_ok (hK : KB uz ul ks kv kz ku cb me so sv tl su qu wa) {t : Nat} (ht : t < 4) (hR : (kr = none ∧ ru = -1 ∧ (∀ i, i < 4 → i ≠ t → ks i ≠ 1) ∧ ∃ g0 : R9, rg = rg_ g0) ∨ (∃ i, i < 4 ∧ kr = some i ∧ ru = nI i ∧ (∀ j, j < 4 → j ≠ t → ks j = 1 → j = i) ∧ (i ≠ t → ks i = 1) ∧ (i ≠ t → rg = rg_ g ∧ og_ g) ∧ ∃ g0 : R9, rg = rg_ g0)) (st sp : Int32) : ∃ (kr1 kr' : Option Nat) (uz1 uz' : Int32) (ul1 ul' : Nat → Option Nat) (ks1 ks' ku' : Nat → Int32) (g' : R9) (rg' so' tl' su' qu' : Nat → Int32) (wa' ru' : Int32), tc_K_end t st kr uz ul ks ku = some (kr1, uz1, ul1, ks1, ku') ∧ tc_K_takeNext kr1 uz1 ul1 ks1 kv cb g.1 g.2.1 g.2.2.1 g.2.2.2.1 g.2.2.2.2.1 g.2.2.2.2.2.1 g.2.2.2.2.2.2.1 g.2.2.2.2.2.2.2.1 g.2.2.2.2.2.2.2.2 = some (kr', uz', ul', ks', g') ∧ mo_end (nI t) st me rg so sv tl su qu wa ru sp = some (rg', so', tl', su', qu', wa', ru', sp) ∧ KB uz' ul' ks' kv kz ku' cb me so' sv tl' su' qu' wa' ∧ RN kr' ru' ks' g' rg' := by
  obtain ⟨rfl, rfl, rfl, rfl, hB, hsl, L, hQ, h2⟩ := hK
  obtain ⟨uz1, wa1, ul1, qu1, r1, r2, r3⟩ := leave_ok hQ ht
  have hK1 : KB uz1 ul1 (upd so t 0) sv kz (upd su t st) me me (upd so t 0) sv (upd tl t 0) (upd su t st) qu1 wa1 := by
    refine ⟨rfl, rfl, rfl, rfl, hB, ?_, kp_ t L, r3, ?_⟩
    · intro i hi hs
      by_cases e : i = t
      · rw [e, upd_eq] at hs
        exact absurd hs (by decide)
      · rw [upd_ne e] at hs ⊢
        exact hsl i hi hs
    · intro i hi
      have h := List.mem_filter.mp hi
      rw [upd_ne (of_decide_eq_true h.2)]
      exact h2 i h.1
  have tkt : tk_ok (some t) = true := decide_eq_true ht
  have fin : ∀ (kr1 : Option Nat) (ru1 : Int32), RN kr1 ru1 (upd so t 0) g rg → tc_K_end t st kr uz ul so su = tc_K_end_j13 t st kr1 uz ul so su → mo_end (nI t) st me rg so sv tl su qu wa ru sp = mo_end_j43 ru1 me rg (upd so t 0) sv (upd tl t 0) (upd su t st) qu1 wa1 ru sp → ∃ (kr1 kr' : Option Nat) (uz1 uz' : Int32) (ul1 ul' : Nat → Option Nat) (ks1 ks' ku' : Nat → Int32) (g' : R9) (rg' so' tl' su' qu' : Nat → Int32) (wa' ru' : Int32), tc_K_end t st kr uz ul so su = some (kr1, uz1, ul1, ks1, ku') ∧ tc_K_takeNext kr1 uz1 ul1 ks1 sv me g.1 g.2.1 g.2.2.1 g.2.2.2.1 g.2.2.2.2.1 g.2.2.2.2.2.1 g.2.2.2.2.2.2.1 g.2.2.2.2.2.2.2.1 g.2.2.2.2.2.2.2.2 = some (kr', uz', ul', ks', g') ∧ mo_end (nI t) st me rg so sv tl su qu wa ru sp = some (rg', so', tl', su', qu', wa', ru', sp) ∧ KB uz' ul' ks' sv kz ku' me me so' sv tl' su' qu' wa' ∧ RN kr' ru' ks' g' rg' := by
    intro kr1 ru1 hR1 e1 e2
    obtain ⟨kr', uz', ul', ks', g', rg', so', qu', wa', ru', n1, n2, n3, n4⟩ := nx_ok hK1 hR1 sp
    refine ⟨kr1, kr', uz1, uz', ul1, ul', upd so t 0, ks', upd su t st, g', rg', so', upd tl t 0, upd su t st, qu', wa', ru', ?_, n1, ?_, n3, n4⟩
    · rw [e1]
      unfold tc_K_end_j13
      rw [r1, Option.bind_some, if_pos ht]
    · rw [e2]
      unfold mo_end_j43
      rw [n2]
      rfl
  have emo : ∀ (z : Int32), (if ru = nI t then z = -1 else z = ru) → mo_end (nI t) st me rg so sv tl su qu wa ru sp = mo_end_j43 z me rg (upd so t 0) sv (upd tl t 0) (upd su t st) qu1 wa1 ru sp := by
    intro z hz
    unfold mo_end
    rw [r2, Option.bind_some, if_pos (in_nI ht (by decide)), nI_clamp (by omega)]
    by_cases e : ru = nI t
    · rw [if_pos e] at hz ⊢
      rw [hz]
    · rw [if_neg e] at hz ⊢
      rw [hz]
  rcases hR with ⟨rfl, rfl, h3, g0, rfl⟩ | ⟨i, hi, rfl, rfl, h5, h6, h7, g0, hg0⟩
  · refine fin none (-1) (Or.inl ⟨rfl, rfl, ?_, g0, rfl⟩) ?_ (emo _ ?_)
    · intro i hi
      by_cases e : i = t
      · rw [e, upd_eq]; decide
      · rw [upd_ne e]; exact h3 i hi e
    · unfold tc_K_end
      rw [if_pos tkt, if_pos (show tk_ok none = true from rfl), if_neg (by intro q; cases q)]
    · rw [if_neg (fun q => ne_1 ht q.symm)]
  · by_cases e : i = t
    · subst e
      refine fin none (-1) (Or.inl ⟨rfl, rfl, ?_, g0, hg0⟩) ?_ (emo _ ?_)
      · intro j hj
        by_cases e : j = i
        · rw [e, upd_eq]; decide
        · rw [upd_ne e]; exact fun q => e (h5 j hj e q)
      · unfold tc_K_end
        rw [if_pos tkt, if_pos tkt, if_pos rfl]
      · rw [if_pos rfl]
    · obtain ⟨q1, q2⟩ := h7 e
      refine fin (some i) (nI i) (Or.inr ⟨i, hi, rfl, rfl, by rw [upd_ne e]; exact h6 e, ?_, q1, q2⟩) ?_ (emo _ ?_)
      · intro j hj hs
        by_cases ej : j = t
        · rw [ej, upd_eq] at hs
          exact absurd hs (by decide)
        · rw [upd_ne ej] at hs
          exact h5 j hj ej hs
      · unfold tc_K_end
        rw [if_pos tkt, if_pos (show tk_ok (some i) = true from decide_eq_true hi), if_neg (fun q => e (Option.some.inj q).symm)]
      · rw [if_neg (fun q => e ((nI_eq (by omega) (by omega)).mp q))]
end KN
