/-! The queue: a list of task numbers. -/
theorem ge_app {P : List Nat} {h j : Nat} (hj : j < P.length) : (P ++ [h]).getD j 0 = P.getD j 0 := by
  unfold List.getD
  rw [List.getElem?_append_left hj]
theorem ge_last {P : List Nat} {h : Nat} : (P ++ [h]).getD P.length 0 = h := by
  simp [List.getD]
theorem i_inc (k : Nat) : nI k + Int32.ofInt 1 = nI (k + 1) := by
  show nI k + nI 1 = _
  rw [nI_add]
def kp_ (t : Nat) (L : List Nat) : List Nat := L.filter (fun i => decide (i ≠ t))
theorem mo_leave_loop {t : Nat} (ht : t < 4) : ∀ (Rm P : List Nat) (F k : Nat) (qu : Nat → Int32), Rm.length < F → P.length ≤ k → k + Rm.length ≤ 4 → (∀ i ∈ Rm, i < 4) → (∀ j, j < P.length → qu j = nI (P.getD j 0)) → (∀ j, j < Rm.length → qu (k + j) = nI (Rm.getD j 0)) → ∃ qu', mo_leave_l4 F (nI t) (nI P.length) (nI k) qu (nI (k + Rm.length)) = some (qu', nI (P ++ kp_ t Rm).length) ∧ ∀ j, j < (P ++ kp_ t Rm).length → qu' j = nI ((P ++ kp_ t Rm).getD j 0) := by
  intro Rm
  induction Rm with
  | nil =>
    intro P F k qu hF hk h4 _ hP _
    obtain ⟨n, rfl⟩ : ∃ n, F = n + 1 := ⟨F - 1, by simp at hF; omega⟩
    refine ⟨qu, ?_, ?_⟩
    · rw [mo_leave_l4_s, if_pos (by rw [nI_leI (by simp at h4 ⊢; omega) (by simp at h4; omega)]; simp)]
      simp [kp_]
    · simpa [kp_] using hP
  | cons h T ih =>
    intro P F k qu hF hk h4 hR hP hQ
    obtain ⟨n, rfl⟩ : ∃ n, F = n + 1 := ⟨F - 1, by simp at hF; omega⟩
    simp only [List.length_cons] at hF h4 ⊢
    have hh : h < 4 := hR h (List.mem_cons_self)
    have hq0 : qu k = nI h := by
      have := hQ 0 (by simp)
      simpa [List.getD] using this
    have hT : ∀ j, j < T.length → qu (k + 1 + j) = nI (T.getD j 0) := by
      intro j hj
      have := hQ (j + 1) (by simp; omega)
      rw [show k + 1 + j = k + (j + 1) by omega]
      simpa [List.getD] using this
    rw [mo_leave_l4_s, if_neg (by rw [nI_leI (by omega) (by omega)]; omega), if_pos (in_nI (by omega) (by decide)), nI_clamp (by omega), hq0]
    unfold mo_leave_j37
    rw [i_inc, show k + (T.length + 1) = k + 1 + T.length by omega]
    by_cases e : h = t
    · rw [if_pos (by rw [e])]
      have hk' : kp_ t (h :: T) = kp_ t T := by
        unfold kp_
        rw [List.filter_cons_of_neg (by simp [e])]
      rw [hk']
      exact ih P n (k + 1) qu (by omega) (by omega) (by omega) (fun i hi => hR i (List.mem_cons_of_mem _ hi)) hP hT
    · rw [if_neg (fun q => e ((nI_eq (by omega) (by omega)).mp q)), if_pos (in_nI (by omega) (by decide)), nI_clamp (by omega), i_inc]
      have hk' : P ++ kp_ t (h :: T) = (P ++ [h]) ++ kp_ t T := by
        unfold kp_
        rw [List.filter_cons_of_pos (by simp [e])]
        simp
      rw [hk', show P.length + 1 = (P ++ [h]).length by simp]
      refine ih (P ++ [h]) n (k + 1) (upd qu P.length (nI h)) (by omega) (by simp; omega) (by omega) (fun i hi => hR i (List.mem_cons_of_mem _ hi)) ?_ ?_
      · intro j hj
        simp only [List.length_append, List.length_cons, List.length_nil] at hj
        by_cases ej : j = P.length
        · subst ej
          rw [upd_eq, ge_last]
        · rw [upd_ne ej, ge_app (by omega)]
          exact hP j (by omega)
      · intro j hj
        rw [upd_ne (by omega)]
        exact hT j hj
theorem va_ne {f : Nat → Option Nat} {i j : Nat} {v : Option Nat} (h : j ≠ i) : va_up f i v j = f j := va_up_ne f v h
theorem tc_remove_loop {t : Nat} (ht : t < 4) : ∀ (Rm P : List Nat) (F k : Nat) (ul : Nat → Option Nat), Rm.length < F → P.length ≤ k → k + Rm.length ≤ 4 → (∀ i ∈ Rm, i < 4) → (∀ j, j < P.length → ul j = some (P.getD j 0)) → (∀ j, j < Rm.length → ul (k + j) = some (Rm.getD j 0)) → ∃ ul', tc_Q_remove_l4 F t (nI P.length) (nI k) (nI (k + Rm.length)) ul = some (nI (P ++ kp_ t Rm).length, ul') ∧ ∀ j, j < (P ++ kp_ t Rm).length → ul' j = some ((P ++ kp_ t Rm).getD j 0) := by
  intro Rm
  induction Rm with
  | nil =>
    intro P F k ul hF hk h4 _ hP _
    obtain ⟨n, rfl⟩ : ∃ n, F = n + 1 := ⟨F - 1, by simp at hF; omega⟩
    refine ⟨ul, ?_, ?_⟩
    · rw [tc_Q_remove_l4_s, if_pos (by rw [nI_leI (by simp at h4 ⊢; omega) (by simp at h4; omega)]; simp)]
      simp [kp_]
    · simpa [kp_] using hP
  | cons h T ih =>
    intro P F k ul hF hk h4 hR hP hQ
    obtain ⟨n, rfl⟩ : ∃ n, F = n + 1 := ⟨F - 1, by simp at hF; omega⟩
    simp only [List.length_cons] at hF h4 ⊢
    have hh : h < 4 := hR h (List.mem_cons_self)
    have hq0 : ul k = some h := by
      have := hQ 0 (by simp)
      simpa [List.getD] using this
    have hT : ∀ j, j < T.length → ul (k + 1 + j) = some (T.getD j 0) := by
      intro j hj
      have := hQ (j + 1) (by simp; omega)
      rw [show k + 1 + j = k + (j + 1) by omega]
      simpa [List.getD] using this
    rw [tc_Q_remove_l4_s, if_neg (by rw [nI_leI (by omega) (by omega)]; omega), if_pos (in_nI (by omega) (by decide)), nI_clamp (by omega), hq0, if_pos (show tk_ok (some h) = true from decide_eq_true hh), if_pos (show tk_ok (some t) = true from decide_eq_true ht)]
    unfold tc_Q_remove_j37
    rw [i_inc, show k + (T.length + 1) = k + 1 + T.length by omega]
    by_cases e : h = t
    · rw [if_pos (by rw [e])]
      have hk' : kp_ t (h :: T) = kp_ t T := by
        unfold kp_
        rw [List.filter_cons_of_neg (by simp [e])]
      rw [hk']
      exact ih P n (k + 1) ul (by omega) (by omega) (by omega) (fun i hi => hR i (List.mem_cons_of_mem _ hi)) hP hT
    · rw [if_neg (fun q => e (Option.some.inj q))]
      show ∃ ul', (if in_b (nI P.length) 4 = true then if h < 4 then _ else none else none) = _ ∧ _
      rw [if_pos (in_nI (by omega) (by decide)), if_pos hh, nI_clamp (by omega), i_inc]
      have hk' : P ++ kp_ t (h :: T) = (P ++ [h]) ++ kp_ t T := by
        unfold kp_
        rw [List.filter_cons_of_pos (by simp [e])]
        simp
      rw [hk', show P.length + 1 = (P ++ [h]).length by simp]
      refine ih (P ++ [h]) n (k + 1) (va_up ul P.length (some h)) (by omega) (by simp; omega) (by omega) (fun i hi => hR i (List.mem_cons_of_mem _ hi)) ?_ ?_
      · intro j hj
        simp only [List.length_append, List.length_cons, List.length_nil] at hj
        by_cases ej : j = P.length
        · subst ej
          rw [va_up_self, ge_last]
        · rw [va_ne ej, ge_app (by omega)]
          exact hP j (by omega)
      · intro j hj
        rw [va_ne (by omega)]
        exact hT j hj
/-- the queue of both sides is the list L -/
def QL (L : List Nat) (uz : Int32) (ul : Nat → Option Nat) (qu : Nat → Int32) (wa : Int32) : Prop := uz = nI L.length ∧ wa = nI L.length ∧ (∀ j, j < L.length → ul j = some (L.getD j 0)) ∧ (∀ j, j < L.length → qu j = nI (L.getD j 0)) ∧ L.Nodup ∧ ∀ i ∈ L, i < 4
theorem pg_ : ∀ (n : Nat) (L : List Nat), L.Nodup → (∀ i ∈ L, i < n) → L.length ≤ n := by
  intro n
  induction n with
  | zero =>
    intro L _ h
    cases L with
    | nil => simp
    | cons a T => exact absurd (h a List.mem_cons_self) (by omega)
  | succ n ih =>
    intro L hN h
    have h1 := ih (L.filter (fun i => decide (i ≠ n))) (hN.sublist List.filter_sublist) (fun i hi => by
      have h2 := List.mem_filter.mp hi
      have h3 := h i h2.1
      have h4 : i ≠ n := of_decide_eq_true h2.2
      omega)
    have key : ∀ M : List Nat, M.Nodup → M.length ≤ (M.filter (fun i => decide (i ≠ n))).length + 1 := by
      intro M
      induction M with
      | nil => intro _; simp
      | cons a T ihT =>
        intro hM
        have hT := List.nodup_cons.mp hM
        by_cases e : a = n
        · subst e
          have hf : T.filter (fun i => decide (i ≠ a)) = T := by
            apply List.filter_eq_self.mpr
            intro i hi
            exact decide_eq_true (fun q => hT.1 (q ▸ hi))
          rw [List.filter_cons_of_neg (by simp), hf]
          simp
        · rw [List.filter_cons_of_pos (by simp [e])]
          have := ihT hT.2
          simp only [List.length_cons]
          omega
    have := key L hN
    omega
theorem QL_len {L : List Nat} {uz wa : Int32} {ul : Nat → Option Nat} {qu : Nat → Int32} (h : QL L uz ul qu wa) : L.length ≤ 4 := pg_ 4 L h.2.2.2.2.1 h.2.2.2.2.2
theorem QL_len3 {L : List Nat} {uz wa : Int32} {ul : Nat → Option Nat} {qu : Nat → Int32} (h : QL L uz ul qu wa) {t : Nat} (ht : t < 4) (hn : t ∉ L) : L.length ≤ 3 := by
  have := pg_ 4 (t :: L) (List.nodup_cons.mpr ⟨hn, h.2.2.2.2.1⟩) (fun i hi => by
    rcases List.mem_cons.mp hi with rfl | hi
    · exact ht
    · exact h.2.2.2.2.2 i hi)
  simp only [List.length_cons] at this
  omega
theorem leave_ok {L : List Nat} {uz wa : Int32} {ul : Nat → Option Nat} {qu : Nat → Int32} (h : QL L uz ul qu wa) {t : Nat} (ht : t < 4) : ∃ (uz' wa' : Int32) (ul' : Nat → Option Nat) (qu' : Nat → Int32), tc_Q_remove t uz ul = some (uz', ul') ∧ mo_leave (nI t) qu wa = some (qu', wa') ∧ QL (kp_ t L) uz' ul' qu' wa' := by
  have hlen := QL_len h
  obtain ⟨rfl, rfl, h3, h4, h5, h6⟩ := h
  obtain ⟨qu', a1, a2⟩ := mo_leave_loop ht L [] 5 0 qu (by omega) (by simp) (by omega) h6 (fun j hj => by simp at hj) (fun j hj => by rw [Nat.zero_add]; exact h4 j hj)
  obtain ⟨ul', b1, b2⟩ := tc_remove_loop ht L [] 5 0 ul (by omega) (by simp) (by omega) h6 (fun j hj => by simp at hj) (fun j hj => by rw [Nat.zero_add]; exact h3 j hj)
  rw [Nat.zero_add] at a1 b1
  simp only [List.nil_append] at a1 a2 b1 b2
  refine ⟨_, _, ul', qu', b1, a1, rfl, rfl, b2, a2, h5.sublist List.filter_sublist, fun i hi => h6 i (List.mem_filter.mp hi).1⟩
theorem kp_notin {t : Nat} {L : List Nat} (h : t ∉ L) : kp_ t L = L := by
  apply List.filter_eq_self.mpr
  intro i hi
  exact decide_eq_true (fun q => h (q ▸ hi))
theorem kp_head {t : Nat} {T : List Nat} (h : (t :: T).Nodup) : kp_ t (t :: T) = T := by
  unfold kp_
  rw [List.filter_cons_of_neg (by simp)]
  exact kp_notin (List.nodup_cons.mp h).1
/-- a task comes last -/
theorem last_ok {L : List Nat} {uz wa : Int32} {ul : Nat → Option Nat} {qu : Nat → Int32} (h : QL L uz ul qu wa) {t : Nat} (ht : t < 4) (hn : t ∉ L) (ks : Nat → Int32) : ∃ (uz' wa' : Int32) (ul' : Nat → Option Nat) (qu' : Nat → Int32), tc_K_makeReady t uz ul ks = some (uz', ul', upd ks t 2) ∧ mo_comeLast (nI t) ks qu wa = some (upd ks t 2, qu', wa') ∧ QL (L ++ [t]) uz' ul' qu' wa' := by
  have hlen := QL_len3 h ht hn
  obtain ⟨rfl, rfl, h3, h4, h5, h6⟩ := h
  refine ⟨nI (L.length + 1), nI (L.length + 1), va_up ul L.length (some t), upd qu L.length (nI t), ?_, ?_, ?_⟩
  · unfold tc_K_makeReady tc_Q_append
    rw [if_pos ht, if_neg (by rw [show (4 : Int32) = nI 4 by decide, nI_leI (by omega) (by omega)]; omega), if_pos (in_nI (by omega) (by decide)), if_pos ht, nI_clamp (by omega), nI_1]
    rfl
  · unfold mo_comeLast
    rw [if_pos (in_nI ht (by decide)), if_pos (in_nI (by omega) (by decide)), nI_clamp (by omega), nI_clamp (by omega), nI_1]
  · refine ⟨by simp, by simp, ?_, ?_, ?_, ?_⟩
    · intro j hj
      simp only [List.length_append, List.length_cons, List.length_nil] at hj
      by_cases e : j = L.length
      · subst e
        rw [va_up_self, ge_last]
      · rw [va_ne e, ge_app (by omega)]
        exact h3 j (by omega)
    · intro j hj
      simp only [List.length_append, List.length_cons, List.length_nil] at hj
      by_cases e : j = L.length
      · subst e
        rw [upd_eq, ge_last]
      · rw [upd_ne e, ge_app (by omega)]
        exact h4 j (by omega)
    · rw [List.nodup_append]
      exact ⟨h5, by simp, fun a ha b hb => by
        simp only [List.mem_cons, List.not_mem_nil, or_false] at hb
        subst hb
        exact fun q => hn (q ▸ ha)⟩
    · intro i hi
      rcases List.mem_append.mp hi with hi | hi
      · exact h6 i hi
      · simp only [List.mem_cons, List.not_mem_nil, or_false] at hi
        rw [hi]
        exact ht
