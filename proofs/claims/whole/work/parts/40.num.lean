/-! Bytes and words as Int32; memory as a function: what loads and stores answer, of the class and of the reference. -/
def rb_ (x : Int32) : Prop := ∃ n : Nat, n < 256 ∧ x = nI n
def rw_ (x : Int32) : Prop := ∃ n : Nat, n < 65536 ∧ x = nI n
theorem rb_rw {x : Int32} (h : rb_ x) : rw_ x := by
  obtain ⟨n, h1, h2⟩ := h
  exact ⟨n, by omega, h2⟩
theorem and_b (x : Int32) : x &&& 255 = nI (x.toBitVec.toNat % 256) := pk_and x 8 (by decide)
theorem and_w (x : Int32) : x &&& 65535 = nI (x.toBitVec.toNat % 65536) := pk_and x 16 (by decide)
theorem rb_and (x : Int32) : rb_ (x &&& 255) := ⟨_, Nat.mod_lt _ (by decide), and_b x⟩
theorem rw_and (x : Int32) : rw_ (x &&& 65535) := ⟨_, Nat.mod_lt _ (by decide), and_w x⟩
theorem nI_b {n : Nat} (h : n < 256) : nI n &&& 255 = nI n := by
  rw [and_b, pk_tn (by omega), Nat.mod_eq_of_lt h]
theorem nI_w {n : Nat} (h : n < 65536) : nI n &&& 65535 = nI n := by
  rw [and_w, pk_tn (by omega), Nat.mod_eq_of_lt h]
theorem rb_id {x : Int32} (h : rb_ x) : x &&& 255 = x := by
  obtain ⟨n, h1, rfl⟩ := h
  exact nI_b h1
theorem rw_id {x : Int32} (h : rw_ x) : x &&& 65535 = x := by
  obtain ⟨n, h1, rfl⟩ := h
  exact nI_w h1
theorem nI_512 {n : Nat} (h : n < 65536) : ((512 : Int32) ≤ nI n) ↔ 512 ≤ n := by
  rw [show (512 : Int32) = nI 512 from by decide]
  exact nI_leI (by decide) (by omega)
theorem in_nI {n N : Nat} (h : n < N) (hN : N < 2 ^ 31) : in_b (nI n) N = true := by
  unfold in_b
  rw [nI_toInt (by omega)]
  simp only [Bool.and_eq_true, decide_eq_true_eq]
  omega
def rd_ (cb : Nat → Int32) (a : Int32) : Int32 := if (512 : Int32) ≤ (a &&& 65535) then 0 else cb (a &&& 65535).toNatClampNeg
def wr_ (cb : Nat → Int32) (a v : Int32) : Nat → Int32 := if (512 : Int32) ≤ (a &&& 65535) then cb else upd cb (a &&& 65535).toNatClampNeg (v &&& 255)
def okB (cb : Nat → Int32) : Prop := ∀ j, rb_ (cb j)
theorem rb_0 : rb_ 0 := ⟨0, by decide, by decide⟩
theorem rd_ok {cb : Nat → Int32} (h : okB cb) (a : Int32) : rb_ (rd_ cb a) := by
  unfold rd_
  split
  · exact rb_0
  · exact h _
theorem wr_ok {cb : Nat → Int32} (h : okB cb) (a v : Int32) : okB (wr_ cb a v) := by
  unfold wr_
  split
  · exact h
  · intro j
    unfold upd
    split
    · exact rb_and v
    · exact h j
theorem in_512 {a : Int32} (h : ¬ (512 : Int32) ≤ (a &&& 65535)) : in_b (a &&& 65535) 512 = true := by
  obtain ⟨n, h1, h2⟩ := rw_and a
  rw [h2] at h ⊢
  rw [nI_512 h1] at h
  exact in_nI (by omega) (by decide)
theorem mo_at_eq (a : Int32) (me : Nat → Int32) : mo_at a me = some (rd_ me a) := by
  unfold mo_at rd_
  split
  · rfl
  · rename_i h
    rw [if_pos (in_512 h)]
theorem mo_put_eq (a v : Int32) (me : Nat → Int32) : mo_put a v me = some (wr_ me a v) := by
  unfold mo_put wr_
  split
  · rfl
  · rename_i h
    rw [if_pos (in_512 h)]
theorem i_a0 (a : Int32) : a + 0 = a := Int32.add_zero a
theorem i_0i : (0 : Int32) + Int32.ofInt 1 = 1 := by decide
theorem i_1i : (1 : Int32) + Int32.ofInt 1 = 2 := by decide
theorem i_sh0 : (0 : Int32) <<< ((8 : Int32) &&& 31) = 0 := by decide
theorem i_or0 (a : Int32) : 0 ||| a = a := by simp
theorem ld_step (n : Nat) (a sz v i : Int32) (cb : Nat → Int32) (h : ¬ sz ≤ i) : tc_Y_load_l5 (n + 1) a sz v i cb = tc_Y_load_l5 n a sz ((v <<< ((8 : Int32) &&& 31)) ||| rd_ cb (a + i)) (i + Int32.ofInt 1) cb := by
  rw [tc_Y_load_l5_s, if_neg h]
  unfold rd_ tc_Y_load_j43
  split
  · rfl
  · rename_i h2
    rw [if_pos (in_512 h2)]
theorem ld_end (n : Nat) (a sz v i : Int32) (cb : Nat → Int32) (h : sz ≤ i) : tc_Y_load_l5 (n + 1) a sz v i cb = some v := by
  rw [tc_Y_load_l5_s, if_pos h]
theorem tc_load1 (a : Int32) (cb : Nat → Int32) : tc_Y_load a 1 cb = some (rd_ cb a) := by
  unfold tc_Y_load
  rw [ld_step _ _ _ _ _ _ (by decide), i_sh0, i_or0, i_a0, i_0i, ld_end _ _ _ _ _ _ (by decide)]
theorem tc_load2 (a : Int32) (cb : Nat → Int32) : tc_Y_load a 2 cb = some ((rd_ cb a <<< ((8 : Int32) &&& 31)) ||| rd_ cb (a + 1)) := by
  unfold tc_Y_load
  rw [ld_step _ _ _ _ _ _ (by decide), i_sh0, i_or0, i_a0, i_0i, ld_step _ _ _ _ _ _ (by decide), i_1i, ld_end _ _ _ _ _ _ (by decide)]
theorem or_add {a b : Nat} (hb : b < 256) : (a * 256) ||| b = a * 256 + b := by
  have := Nat.two_pow_add_eq_or_of_lt (i := 8) (b := b) (by omega) a
  rw [show (2 : Nat) ^ 8 = 256 by decide] at this
  rw [Nat.mul_comm a 256]
  exact this.symm
theorem nI_or (a b : Nat) : nI a ||| nI b = nI (a ||| b) := by
  apply Int32.toBitVec_inj.mp
  show _ = BitVec.ofNat 32 _
  rw [Int32.toBitVec_or, BitVec.ofNat_or]
  rfl
theorem hl_eq {x y : Int32} (hx : rb_ x) (hy : rb_ y) : (x <<< ((8 : Int32) &&& 31)) ||| y = 256 * x + y := by
  obtain ⟨a, ha, rfl⟩ := hx
  obtain ⟨b, hb, rfl⟩ := hy
  rw [pk_shlN _ 8 (by decide) (by omega), nI_or, show (2 : Nat) ^ 8 = 256 by decide, or_add hb, show (256 : Int32) = nI 256 by decide, pk_mul, nI_add, Nat.mul_comm]
theorem hl_rw {x y : Int32} (hx : rb_ x) (hy : rb_ y) : rw_ (256 * x + y) := by
  obtain ⟨a, ha, rfl⟩ := hx
  obtain ⟨b, hb, rfl⟩ := hy
  refine ⟨256 * a + b, by omega, ?_⟩
  rw [show (256 : Int32) = nI 256 by decide, pk_mul, nI_add]
def rd2_ (cb : Nat → Int32) (a : Int32) : Int32 := 256 * rd_ cb a + rd_ cb (a + 1)
theorem rd2_ok {cb : Nat → Int32} (h : okB cb) (a : Int32) : rw_ (rd2_ cb a) := hl_rw (rd_ok h _) (rd_ok h _)
theorem tc_load2' {cb : Nat → Int32} (h : okB cb) (a : Int32) : tc_Y_load a 2 cb = some (rd2_ cb a) := by
  rw [tc_load2, hl_eq (rd_ok h _) (rd_ok h _)]
  rfl
theorem mo_load1 (a : Int32) (me : Nat → Int32) (sp : Int32) : mo_load a false me sp = some (rd_ me a, sp + 1) := by
  simp [mo_load, mo_load_j14, bz_i, mo_at_eq]
theorem mo_load2 (a : Int32) (me : Nat → Int32) (sp : Int32) : mo_load a true me sp = some (rd2_ me a, sp + 2) := by
  simp [mo_load, mo_load_j14, bz_i, mo_at_eq, rd2_]
