/-! Calculations and flags. -/
def iI (z : Int) : Int32 := Int32.ofInt z
theorem iI_add (a b : Int) : iI a + iI b = iI (a + b) := (Int32.ofInt_add a b).symm
theorem iI_sub (a b : Int) : iI a - iI b = iI (a - b) := (Int32.ofInt_sub a b).symm
theorem nI_iI (n : Nat) : nI n = iI (n : Int) := by
  unfold nI iI
  rw [Int32.ofInt_eq_ofNat]
theorem iI_toInt {z : Int} (h : -2147483648 ≤ z) (h2 : z < 2147483648) : (iI z).toInt = z := Int32.toInt_ofInt_of_le (by simpa using h) (by simpa using h2)
theorem iI_eq {a b : Int} (h1 : -2147483648 ≤ a) (h2 : a < 2147483648) (h3 : -2147483648 ≤ b) (h4 : b < 2147483648) : iI a = iI b ↔ a = b := by
  constructor
  · intro h
    have := congrArg Int32.toInt h
    rwa [iI_toInt h1 h2, iI_toInt h3 h4] at this
  · intro h
    rw [h]
theorem iI_le {a b : Int} (h1 : -2147483648 ≤ a) (h2 : a < 2147483648) (h3 : -2147483648 ≤ b) (h4 : b < 2147483648) : iI a ≤ iI b ↔ a ≤ b := by
  rw [Int32.le_iff_toInt_le, iI_toInt h1 h2, iI_toInt h3 h4]
theorem iI_lt {a b : Int} (h1 : -2147483648 ≤ a) (h2 : a < 2147483648) (h3 : -2147483648 ≤ b) (h4 : b < 2147483648) : iI a < iI b ↔ a < b := by
  rw [Int32.lt_iff_toInt_lt, iI_toInt h1 h2, iI_toInt h3 h4]
def s8_ (n : Nat) : Int := if n < 128 then n else (n : Int) - 256
def s16_ (n : Nat) : Int := if n < 32768 then n else (n : Int) - 65536
theorem t8_ : ∀ n, n < 256 → (nI n).toInt8.toInt32 = iI (s8_ n) := by decide +kernel
theorem t16_ {n : Nat} (h : n < 65536) : (nI n).toInt16.toInt32 = iI (s16_ n) := by
  apply Int32.toInt_inj.mp
  rw [Int16.toInt_toInt32, Int32.toInt_toInt16, nI_toInt (by omega), iI_toInt (by unfold s16_; split <;> omega) (by unfold s16_; split <;> omega)]
  have hb : ∀ k : Int, Int.bmod k (2 ^ 16) = if k % 65536 < 32768 then k % 65536 else k % 65536 - 65536 := fun k => rfl
  rw [hb]
  unfold s16_
  split <;> split <;> omega
def mk_ (bit : Int32) (on : Bool) (c : Int32) : Int32 := bif on then c ||| bit else c &&& (bit ^^^ -1)
section MK
variable (a b d c x y u s p : Int32)
theorem mo_mark_eq (bit : Int32) (on : Bool) : mo_mark bit on (rf_ a b d c x y u s p) = some (rf_ a b d (mk_ bit on c) x y u s p) := by
  unfold mo_mark mo_mark_j33 mk_
  cases on
  · rw [if_pos (by decide), rf_10]; rfl
  · rw [if_neg (by decide), rf_10]; rfl
def sn_ (v bits : Int32) : Bool := decide (((v >>> ((bits - 1) &&& 31)) &&& 1) = 1)
def sz_ (v bits : Int32) : Bool := decide ((v &&& (((1 : Int32) <<< (bits &&& 31)) - 1)) = 0)
theorem mo_sign_eq (v bits : Int32) : mo_sign v bits (rf_ a b d c x y u s p) = some (rf_ a b d (mk_ 4 (sz_ v bits) (mk_ 8 (sn_ v bits) c)) x y u s p) := by
  unfold mo_sign mo_sign_j19 mo_sign_j39 sn_ sz_
  by_cases h1 : ((v >>> ((bits - 1) &&& 31)) &&& 1) = 1 <;> by_cases h2 : (v &&& (((1 : Int32) <<< (bits &&& 31)) - 1)) = 0
  · simp only [if_pos h1, if_pos h2, decide_eq_true h1, decide_eq_true h2, mo_mark_eq, Option.bind_some]
  · simp only [if_pos h1, if_neg h2, decide_eq_true h1, decide_eq_false h2, mo_mark_eq, Option.bind_some]
  · simp only [if_neg h1, if_pos h2, decide_eq_false h1, decide_eq_true h2, mo_mark_eq, Option.bind_some]
  · simp only [if_neg h1, if_neg h2, decide_eq_false h1, decide_eq_false h2, mo_mark_eq, Option.bind_some]
theorem mo_plain_eq (v bits : Int32) : mo_plain v bits (rf_ a b d c x y u s p) = some (v, rf_ a b d (mk_ 2 false (mk_ 4 (sz_ v bits) (mk_ 8 (sn_ v bits) c))) x y u s p) := by
  unfold mo_plain
  rw [mo_sign_eq, Option.bind_some, mo_mark_eq, Option.bind_some]
end MK
def fl_ (n z : Bool) : Int32 := bif z then 4 else bif n then 8 else 0
theorem so8_all : ∀ n, n < 256 → tc_C_signOf (nI n) 1 = some (fl_ (sn_ (nI n) 8) (sz_ (nI n) 8)) ∧ (sz_ (nI n) 8 = true → sn_ (nI n) 8 = false) := by decide +kernel
theorem so8 {v : Int32} (h : rb_ v) : tc_C_signOf v 1 = some (fl_ (sn_ v 8) (sz_ v 8)) ∧ (sz_ v 8 = true → sn_ v 8 = false) := by
  obtain ⟨n, h1, rfl⟩ := h
  exact so8_all n h1
theorem nI_m1 {n : Nat} : nI n &&& 1 = nI (n % 2) := by
  rw [show (1 : Int32) = nI 1 by decide, nx_and, Nat.and_one_is_mod]
theorem so16 {v : Int32} (h : rw_ v) : tc_C_signOf v 2 = some (fl_ (sn_ v 16) (sz_ v 16)) ∧ (sz_ v 16 = true → sn_ v 16 = false) := by
  obtain ⟨n, h1, rfl⟩ := h
  have e1 : sz_ (nI n) 16 = decide (n = 0) := by
    unfold sz_
    rw [show ((1 : Int32) <<< ((16 : Int32) &&& 31)) - 1 = 65535 by decide, nI_w h1, ← nI_0]
    exact decide_eq_decide.mpr (nI_eq (by omega) (by omega))
  have e2 : sn_ (nI n) 16 = decide (32768 ≤ n) := by
    unfold sn_
    rw [pk_shrN (by omega) _ 15 (by decide), nI_m1, show (1 : Int32) = nI 1 by decide]
    refine decide_eq_decide.mpr ((nI_eq (by omega) (by omega)).trans ?_)
    omega
  rw [e1, e2]
  constructor
  · unfold tc_C_signOf
    by_cases h0 : n = 0
    · subst h0
      rfl
    · rw [if_neg (fun q => h0 ((nI_eq (by omega) (by decide)).mp (q.trans nI_0.symm))), tc_signed2, Option.bind_some, t16_ h1, show (0 : Int32) = iI 0 by decide]
      unfold fl_
      rw [decide_eq_false h0]
      by_cases h2 : 32768 ≤ n
      · rw [if_neg (by rw [iI_le (by omega) (by omega) (by unfold s16_; split <;> omega) (by unfold s16_; split <;> omega)]; unfold s16_; split <;> omega), decide_eq_true h2]
        rfl
      · rw [if_pos (by rw [iI_le (by omega) (by omega) (by unfold s16_; split <;> omega) (by unfold s16_; split <;> omega)]; unfold s16_; split <;> omega), decide_eq_false h2]
        rfl
  · intro hz
    have := of_decide_eq_true hz
    exact decide_eq_false (by omega)
theorem fl4_all : ∀ m, m < 256 → ∀ n z v k : Bool, (z = true → n = false) → mk_ 2 v (mk_ 1 k (mk_ 4 z (mk_ 8 n (nI m)))) = (nI m &&& ((15 : Int32) ^^^ -1)) ||| (bif v then (bif k then fl_ n z ||| 1 else fl_ n z) ||| 2 else (bif k then fl_ n z ||| 1 else fl_ n z)) := by decide +kernel
theorem fl4 {c : Int32} (h : rb_ c) (n z v k : Bool) (hz : z = true → n = false) : mk_ 2 v (mk_ 1 k (mk_ 4 z (mk_ 8 n c))) = (c &&& ((15 : Int32) ^^^ -1)) ||| (bif v then (bif k then fl_ n z ||| 1 else fl_ n z) ||| 2 else (bif k then fl_ n z ||| 1 else fl_ n z)) := by
  obtain ⟨m, h1, rfl⟩ := h
  exact fl4_all m h1 n z v k hz
theorem fl3_all : ∀ m, m < 256 → ∀ n z : Bool, (z = true → n = false) → mk_ 2 false (mk_ 4 z (mk_ 8 n (nI m))) = (nI m &&& ((14 : Int32) ^^^ -1)) ||| fl_ n z := by decide +kernel
theorem fl3 {c : Int32} (h : rb_ c) (n z : Bool) (hz : z = true → n = false) : mk_ 2 false (mk_ 4 z (mk_ 8 n c)) = (c &&& ((14 : Int32) ^^^ -1)) ||| fl_ n z := by
  obtain ⟨m, h1, rfl⟩ := h
  exact fl3_all m h1 n z hz
theorem mk_all : ∀ m, m < 256 → ∀ v : Bool, (mk_ 1 v (nI m)).toBitVec.toNat < 256 ∧ (mk_ 2 v (nI m)).toBitVec.toNat < 256 ∧ (mk_ 4 v (nI m)).toBitVec.toNat < 256 ∧ (mk_ 8 v (nI m)).toBitVec.toNat < 256 ∧ (mk_ 128 v (nI m)).toBitVec.toNat < 256 := by decide +kernel
theorem rb_of {x : Int32} (h : x.toBitVec.toNat < 256) : rb_ x := by
  refine ⟨_, h, ?_⟩
  apply Int32.toBitVec_inj.mp
  show _ = BitVec.ofNat 32 _
  simp
theorem rb_mk1 {c : Int32} (h : rb_ c) (v : Bool) : rb_ (mk_ 1 v c) := by
  obtain ⟨m, h1, rfl⟩ := h
  exact rb_of (mk_all m h1 v).1
theorem rb_mk2 {c : Int32} (h : rb_ c) (v : Bool) : rb_ (mk_ 2 v c) := by
  obtain ⟨m, h1, rfl⟩ := h
  exact rb_of (mk_all m h1 v).2.1
theorem rb_mk4 {c : Int32} (h : rb_ c) (v : Bool) : rb_ (mk_ 4 v c) := by
  obtain ⟨m, h1, rfl⟩ := h
  exact rb_of (mk_all m h1 v).2.2.1
theorem rb_mk8 {c : Int32} (h : rb_ c) (v : Bool) : rb_ (mk_ 8 v c) := by
  obtain ⟨m, h1, rfl⟩ := h
  exact rb_of (mk_all m h1 v).2.2.2.1
theorem rb_mk128 {c : Int32} (h : rb_ c) (v : Bool) : rb_ (mk_ 128 v c) := by
  obtain ⟨m, h1, rfl⟩ := h
  exact rb_of (mk_all m h1 v).2.2.2.2
/-- plain: both sides -/
theorem plain8 {v c : Int32} (hv : rb_ v) (hc : rb_ c) (a b d x y u s p : Int32) : ∃ c', tc_C_plain v 1 c = some (v, c') ∧ rb_ c' ∧ mo_plain v 8 (rf_ a b d c x y u s p) = some (v, rf_ a b d c' x y u s p) := by
  refine ⟨_, ?_, rb_mk2 (rb_mk4 (rb_mk8 hc _) _) _, mo_plain_eq ..⟩
  unfold tc_C_plain tc_G_setFlags
  rw [(so8 hv).1, Option.bind_some, Option.bind_some, fl3 hc _ _ (so8 hv).2]
theorem plain16 {v c : Int32} (hv : rw_ v) (hc : rb_ c) (a b d x y u s p : Int32) : ∃ c', tc_C_plain v 2 c = some (v, c') ∧ rb_ c' ∧ mo_plain v 16 (rf_ a b d c x y u s p) = some (v, rf_ a b d c' x y u s p) := by
  refine ⟨_, ?_, rb_mk2 (rb_mk4 (rb_mk8 hc _) _) _, mo_plain_eq ..⟩
  unfold tc_C_plain tc_G_setFlags
  rw [(so16 hv).1, Option.bind_some, Option.bind_some, fl3 hc _ _ (so16 hv).2]
