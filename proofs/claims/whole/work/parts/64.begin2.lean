/-! A task begins; answers in frames. -/
def zf_ (B : Nat) : Nat → (Nat → Int32) → (Nat → Int32)
  | 0, me => me
  | r + 1, me => zf_ B r (wr_ me (nI (B + (12 - (r + 1)))) 0)
theorem zf_12 (B : Nat) (me : Nat → Int32) : zf_ B 12 me = wr_ (wr_ (wr_ (wr_ (wr_ (wr_ (wr_ (wr_ (wr_ (wr_ (wr_ (wr_ me (nI (B + 0)) 0) (nI (B + 1)) 0) (nI (B + 2)) 0) (nI (B + 3)) 0) (nI (B + 4)) 0) (nI (B + 5)) 0) (nI (B + 6)) 0) (nI (B + 7)) 0) (nI (B + 8)) 0) (nI (B + 9)) 0) (nI (B + 10)) 0) (nI (B + 11)) 0 := rfl
theorem bg_loop (t a p : Int32) (B : Nat) (so sv qu : Nat → Int32) (wa : Int32) : ∀ (r : Nat), r ≤ 12 → ∀ me, mo_begin_l13 (r + 1) t p a (nI B) (nI (12 - r)) me so sv qu wa = mo_begin_l13 1 t p a (nI B) (nI 12) (zf_ B r me) so sv qu wa := by
  intro r
  induction r with
  | zero => intro _ me; rfl
  | succ r ih =>
    intro hr me
    rw [mo_begin_l13_s, if_neg (by rw [show (12 : Int32) = nI 12 by decide, nI_leI (by omega) (by omega)]; omega), mo_put_eq, Option.bind_some, nI_add, i_inc, show 12 - (r + 1) + 1 = 12 - r by omega]
    exact ih (by omega) _
section BG
variable {uz : Int32} {ul : Nat → Option Nat} {ks kv kz ku cb : Nat → Int32} {me so sv tl su qu : Nat → Int32} {wa : Int32}
theorem bg_ok (hK : KB uz ul ks kv kz ku cb me so sv tl su qu wa) {t : Nat} (ht : t < 4) (hf : ks t = 0) (p a : Int32) (q : R9) : ∃ (uz' : Int32) (ul' : Nat → Option Nat) (cb' : Nat → Int32) (q' : R9) (qu' : Nat → Int32) (wa' : Int32), tc_K_begin t p a uz ul ks kv cb q.1 q.2.1 q.2.2.1 q.2.2.2.1 q.2.2.2.2.1 q.2.2.2.2.2.1 q.2.2.2.2.2.2.1 q.2.2.2.2.2.2.2.1 q.2.2.2.2.2.2.2.2 = some (uz', ul', upd ks t 2, upd kv t (nI (128 * t + 116)), cb', q') ∧ mo_begin (nI t) p a me so sv qu wa = some (cb', upd ks t 2, upd kv t (nI (128 * t + 116)), qu', wa') ∧ KB uz' ul' (upd ks t 2) (upd kv t (nI (128 * t + 116))) kz ku cb' cb' (upd ks t 2) (upd kv t (nI (128 * t + 116))) tl su qu' wa' := by
  obtain ⟨rfl, rfl, rfl, rfl, hB, hsl, L, hQ, h2⟩ := hK
  have hn : t ∉ L := fun q => by
    have := h2 t q
    rw [hf] at this
    exact absurd this (by decide)
  obtain ⟨uz', wa', ul', qu', r1, r2, r3⟩ := last_ok hQ ht hn so
  have es : (128 : Int32) * nI t + 128 = nI (128 * t + 116 + 12) := by
    rw [show (128 : Int32) = nI 128 by decide, pk_mul, nI_add]
  have es2 : (128 : Int32) * nI t + 116 = nI (128 * t + 116) := by
    rw [show (128 : Int32) = nI 128 by decide, show (116 : Int32) = nI 116 by decide, pk_mul, nI_add]
  obtain ⟨mv', g', cb', h1, h2', -, h4⟩ := push_loop (st := 4) (ch := 255) (Or.inl rfl) 8 (by omega) 0 (a, 0, 0, 0 ||| 128, 0, 0, 0, nI (128 * t + 116 + 12), p) me hB
  have e := h4 0
  rw [pu_nI _ _ _ _ _ _ _ _ _ _ (by omega)] at e
  have ecb := (Prod.mk.inj (Option.some.inj e)).1
  have erg := (Prod.mk.inj (Prod.mk.inj (Option.some.inj e)).2).1
  have es4 : g'.2.2.2.2.2.2.2.1 = nI (128 * t + 116) := (congrFun erg 4).symm
  refine ⟨uz', ul', cb', g', qu', wa', ?_, ?_, ⟨rfl, rfl, rfl, rfl, h2', ?_, L ++ [t], r3, ?_⟩⟩
  · unfold tc_K_begin tc_K_stack_S tc_G_push
    rw [if_pos ht, es, show (7 : Int32) = dn_ 8 by decide, show tc_G_push_l7 9 4 255 0 (dn_ 8) a 0 0 (0 ||| 128) 0 0 0 (nI (128 * t + 116 + 12)) p me = _ from h1, Option.bind_some, if_pos ht, Option.bind_some, r1, ← es4]
    rfl
  · unfold mo_begin
    rw [es2, show mo_begin_l13 13 (nI t) p a (nI (128 * t + 116)) 0 me so sv qu wa = _ from bg_loop (nI t) a p (128 * t + 116) so sv qu wa 12 (by omega) me, mo_begin_l13_s, if_pos (by decide)]
    simp only [mo_put_eq, Option.bind_some]
    rw [if_pos (in_nI ht (by decide)), r2, Option.bind_some, nI_clamp (by omega), ← ecb, fr_eq me a p (by omega), zf_12]
    rw [show nI (128 * t + 116) + 1 = nI (128 * t + 116 + 1) from nI_1 _, show nI (128 * t + 116) + 10 = nI (128 * t + 116 + 10) from nI_add _ 10, show nI (128 * t + 116) + 11 = nI (128 * t + 116 + 11) from nI_add _ 11]
  · intro i hi hs
    by_cases e : i = t
    · rw [e, upd_eq] at hs
      exact absurd hs (by decide)
    · rw [upd_ne e] at hs
      exact hsl i hi hs
  · intro i hi
    by_cases e : i = t
    · rw [e, upd_eq]
    · rw [upd_ne e]
      rcases List.mem_append.mp hi with hi | hi
      · exact h2 i hi
      · simp only [List.mem_cons, List.not_mem_nil, or_false] at hi
        exact absurd hi e
end BG
theorem an_all : ∀ n, n < 256 → (nI n &&& -2) &&& 255 = (nI n &&& 254) &&& 255 := by decide +kernel
theorem suc_ok {cb : Nat → Int32} (hB : okB cb) {t : Nat} (ht : t < 4) (v : Int32) (kv : Nat → Int32) : ∃ cb', tc_K_succeed t v kv cb = some cb' ∧ okB cb' ∧ mo_answer (nI t) 8 v false cb kv = some cb' := by
  refine ⟨wr_ (wr_ cb (kv t + 1) v) (kv t) (rd_ (wr_ cb (kv t + 1) v) (kv t) &&& 254), ?_, wr_ok (wr_ok hB _ _) _ _, ?_⟩
  · unfold tc_K_succeed
    rw [if_pos ht, tc_store1, Option.bind_some, tc_load1, Option.bind_some, tc_store1, Option.bind_some]
    obtain ⟨n, hn, en⟩ := rd_ok (wr_ok hB (kv t + 1) v) (kv t)
    rw [en]
    unfold wr_
    rw [an_all n hn]
  · unfold mo_answer mo_answer_j22 mo_answer_j56
    rw [if_pos (in_nI ht (by decide)), if_pos rfl, nI_clamp (by omega), mo_put_eq, Option.bind_some, mo_at_eq, Option.bind_some, if_pos (show bz_i false = 0 from rfl), mo_put_eq]
    rfl
theorem fai_ok {cb : Nat → Int32} (hB : okB cb) {t : Nat} (ht : t < 4) (v : Int32) (kv : Nat → Int32) : ∃ cb', tc_K_fail t v kv cb = some cb' ∧ okB cb' ∧ mo_answer (nI t) 9 v true cb kv = some cb' := by
  refine ⟨wr_ (wr_ cb (kv t + 2) v) (kv t) (rd_ (wr_ cb (kv t + 2) v) (kv t) ||| 1), ?_, wr_ok (wr_ok hB _ _) _ _, ?_⟩
  · unfold tc_K_fail
    rw [if_pos ht, tc_store1, Option.bind_some, tc_load1, Option.bind_some, tc_store1]
    rfl
  · unfold mo_answer mo_answer_j22 mo_answer_j56
    rw [if_pos (in_nI ht (by decide)), if_neg (by decide), nI_clamp (by omega), mo_put_eq, Option.bind_some, mo_at_eq, Option.bind_some, if_neg (show ¬ bz_i true = 0 by decide), mo_put_eq]
    rfl
/-- the block is copied -/
def cy2_ (f t : Nat) : Nat → (Nat → Int32) → (Nat → Int32)
  | 0, me => me
  | r + 1, me => cy2_ f t r (wr_ me (nI (128 * t + (128 - (r + 1)))) (rd_ me (nI (128 * f + (128 - (r + 1))))))
theorem cp_tc (f t : Nat) : ∀ (r : Nat), r ≤ 128 → ∀ cb, tc_Y_copyBlock_l2 (r + 1) (nI f) (nI t) (nI (128 - r)) cb = some (cy2_ f t r cb) := by
  intro r
  induction r with
  | zero => intro _ cb; rw [tc_Y_copyBlock_l2_s, if_pos (by decide)]; rfl
  | succ r ih =>
    intro hr cb
    rw [tc_Y_copyBlock_l2_s, if_neg (by rw [show (128 : Int32) = nI 128 by decide, nI_leI (by omega) (by omega)]; omega), tc_load1, Option.bind_some, tc_store1, Option.bind_some, show (128 : Int32) = nI 128 by decide, pk_mul, pk_mul, nI_add, nI_add, i_inc, show 128 - (r + 1) + 1 = 128 - r by omega]
    exact ih (by omega) _
theorem cp_mo (f t : Nat) (v3 v4 : Int32) (rg so sv tl su qu : Nat → Int32) (wa ru sp : Int32) : ∀ (r : Nat), r ≤ 128 → ∀ me, mo_kernel_l142 (r + 1) (nI f) v3 v4 (nI t) (nI (128 - r)) me rg so sv tl su qu wa ru sp = mo_kernel_l142 1 (nI f) v3 v4 (nI t) (nI 128) (cy2_ f t r me) rg so sv tl su qu wa ru sp := by
  intro r
  induction r with
  | zero => intro _ me; rfl
  | succ r ih =>
    intro hr me
    rw [mo_kernel_l142_s, if_neg (by rw [show (128 : Int32) = nI 128 by decide, nI_leI (by omega) (by omega)]; omega), mo_at_eq, Option.bind_some, mo_put_eq, Option.bind_some, show (128 : Int32) = nI 128 by decide, pk_mul, pk_mul, nI_add, nI_add, i_inc, show 128 - (r + 1) + 1 = 128 - r by omega]
    exact ih (by omega) _
theorem cy2_ok (f t : Nat) : ∀ (r : Nat) (me : Nat → Int32), okB me → okB (cy2_ f t r me) := by
  intro r
  induction r with
  | zero => intro me h; exact h
  | succ r ih => intro me h; exact ih _ (wr_ok h _ _)
/-- the least free task -/
theorem lf_ok (ks : Nat → Int32) : (∃ i, i < 4 ∧ ks i = 0 ∧ tc_K_leastFree ks = some (some i) ∧ ∀ (v1 v2 v3 v4 : Int32) (me rg sv tl su qu : Nat → Int32) (wa ru sp : Int32), mo_kernel_l82 5 v1 v2 v3 v4 0 me rg ks sv tl su qu wa ru sp = mo_kernel_j104 v1 v2 v3 v4 (nI i) me rg ks sv tl su qu wa ru sp) ∨ (tc_K_leastFree ks = some none ∧ ∀ (v1 v2 v3 v4 : Int32) (me rg sv tl su qu : Nat → Int32) (wa ru sp : Int32), mo_kernel_l82 5 v1 v2 v3 v4 0 me rg ks sv tl su qu wa ru sp = mo_kernel_j104 v1 v2 v3 v4 (nI 4) me rg ks sv tl su qu wa ru sp) := by
  have key : ∀ (r : Nat), r ≤ 4 → (∃ i, 4 - r ≤ i ∧ i < 4 ∧ ks i = 0 ∧ tc_K_leastFree_l2 (r + 1) (nI (4 - r)) ks = some (some i) ∧ ∀ (v1 v2 v3 v4 : Int32) (me rg sv tl su qu : Nat → Int32) (wa ru sp : Int32), mo_kernel_l82 (r + 1) v1 v2 v3 v4 (nI (4 - r)) me rg ks sv tl su qu wa ru sp = mo_kernel_j104 v1 v2 v3 v4 (nI i) me rg ks sv tl su qu wa ru sp) ∨ (tc_K_leastFree_l2 (r + 1) (nI (4 - r)) ks = some none ∧ ∀ (v1 v2 v3 v4 : Int32) (me rg sv tl su qu : Nat → Int32) (wa ru sp : Int32), mo_kernel_l82 (r + 1) v1 v2 v3 v4 (nI (4 - r)) me rg ks sv tl su qu wa ru sp = mo_kernel_j104 v1 v2 v3 v4 (nI 4) me rg ks sv tl su qu wa ru sp) := by
    intro r
    induction r with
    | zero =>
      intro _
      refine Or.inr ⟨?_, ?_⟩
      · rw [tc_K_leastFree_l2_s, if_pos (by decide)]
      · intros
        rw [mo_kernel_l82_s, if_pos (by decide)]
    | succ r ih =>
      intro hr
      have h4 : ¬ (4 : Int32) ≤ nI (4 - (r + 1)) := by
        rw [show (4 : Int32) = nI 4 by decide, nI_leI (by omega) (by omega)]
        omega
      have hin : in_b (nI (4 - (r + 1))) 4 = true := in_nI (by omega) (by decide)
      by_cases h0 : ks (4 - (r + 1)) = 0
      · refine Or.inl ⟨4 - (r + 1), by omega, by omega, h0, ?_, ?_⟩
        · rw [tc_K_leastFree_l2_s, if_neg h4, if_pos hin, nI_clamp (by omega), if_pos (by omega), if_pos h0]
        · intros
          rw [mo_kernel_l82_s, if_neg h4, if_pos hin, nI_clamp (by omega), if_pos h0]
      · have e1 : tc_K_leastFree_l2 (r + 1 + 1) (nI (4 - (r + 1))) ks = tc_K_leastFree_l2 (r + 1) (nI (4 - r)) ks := by
          rw [tc_K_leastFree_l2_s, if_neg h4, if_pos hin, nI_clamp (by omega), if_pos (by omega), if_neg h0, i_inc, show 4 - (r + 1) + 1 = 4 - r by omega]
        have e2 : ∀ (v1 v2 v3 v4 : Int32) (me rg sv tl su qu : Nat → Int32) (wa ru sp : Int32), mo_kernel_l82 (r + 1 + 1) v1 v2 v3 v4 (nI (4 - (r + 1))) me rg ks sv tl su qu wa ru sp = mo_kernel_l82 (r + 1) v1 v2 v3 v4 (nI (4 - r)) me rg ks sv tl su qu wa ru sp := by
          intros
          rw [mo_kernel_l82_s, if_neg h4, if_pos hin, nI_clamp (by omega), if_neg h0, i_inc, show 4 - (r + 1) + 1 = 4 - r by omega]
        rcases ih (by omega) with ⟨i, i1, i2, i3, i4, i5⟩ | ⟨i4, i5⟩
        · exact Or.inl ⟨i, by omega, i2, i3, by rw [e1]; exact i4, fun v1 v2 v3 v4 me rg sv tl su qu wa ru sp => by rw [e2]; exact i5 ..⟩
        · exact Or.inr ⟨by rw [e1]; exact i4, fun v1 v2 v3 v4 me rg sv tl su qu wa ru sp => by rw [e2]; exact i5 ..⟩
  rcases key 4 (by omega) with ⟨i, -, h2, h3, h4, h5⟩ | ⟨h4, h5⟩
  · exact Or.inl ⟨i, h2, h3, h4, h5⟩
  · exact Or.inr ⟨h4, h5⟩
