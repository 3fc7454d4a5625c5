/-! The start: both constructors, then the loop. -/
theorem ci_T : cw_I rn_L 9 my_T_init mb_T_init 3 0 := ⟨by decide +kernel, by decide +kernel, by decide +kernel, by decide +kernel, rfl, by decide +kernel, by decide +kernel, by decide +kernel⟩
theorem ci_M : cw_I rn_L 12 my_M_init mb_M_init 1 0 := ⟨by decide +kernel, by decide +kernel, by decide +kernel, by decide +kernel, rfl, by decide +kernel, by decide +kernel, by decide +kernel⟩
theorem okB_0 : okB (fun _ => 0) := fun _ => rb_0
theorem KB_0 : KB 0 (fun _ => none) (fun _ => 0) (fun _ => 0) (fun _ => 0) (fun _ => 0) (fun _ => 0) (fun _ => 0) (fun _ => 0) (fun _ => 0) (fun _ => 0) (fun _ => 0) (fun _ => 0) 0 :=
  ⟨rfl, rfl, rfl, rfl, okB_0, fun _ _ _ => rfl, [], ⟨rfl, rfl, fun j h => absurd h (Nat.not_lt_zero j), fun j h => absurd h (Nat.not_lt_zero j), List.nodup_nil, fun i h => absurd h List.not_mem_nil⟩, fun i h => absurd h List.not_mem_nil⟩
theorem rg_0 : (fun _ => 0 : Nat → Int32) = rg_ (0, 0, 0, 0, 0, 0, 0, 0, 0) := by
  funext k
  show 0 = rf_ 0 0 0 0 0 0 0 0 0 k
  unfold rf_
  split <;> rfl
theorem RN_0 : RN none (-1) (fun _ => 0) (0, 0, 0, 0, 0, 0, 0, 0, 0) (fun _ => 0) := Or.inl ⟨rfl, rfl, fun _ _ => (show (0 : Int32) ≠ 1 by decide), _, rg_0⟩
set_option maxHeartbeats 4000000 in
set_option maxRecDepth 100000 in
theorem whole_start {p : Program} {e : Env} {s : State} {m : MethodId} {below : List Frame} {meth : Method} {c : Code} (l : Launch) {b L : Nat} {xs : Nat → Int32} (hL : L ≤ 2048) (C0 : lw_At p s m meth c b L xs) : W p l e room_1 s m #[Value.ref b] below meth c s.heap [] 0 0 (lw_Z below #[Value.ref b] s) (entryFrame m ([Value.ref b] : List Value).toArray 4) := by
  obtain ⟨hx, hb, hr, hml, hown, hts, hXs, hbl, hlk, hgv⟩ := C0
  obtain ⟨D, cI, cT, hK⟩ := law_K hts
  have hN := law_N hts
  have hZ := law_Z hts hgv
  have ht : ∀ w ∈ wg_all, w.before #[Value.ref b] s = true := fun w hw => hts w (List.mem_filter.mp hw).1
  have X : CallFix p m c code 4 s #[Value.ref b] wg_all rn_L := ⟨hx, hb, hml, hown, ht⟩
  have hA : ∀ q, s.heap.size ≤ q → (fun q => s.heap.size ≤ q) q := fun q h => h
  have hP : va_P D cz_all [] s.heap := fun k q h => (by cases h)
  have hD : va_D (fun q => s.heap.size ≤ q) [] := ⟨fun i j p q h => (by cases h), fun k q h => (by cases h)⟩
  have hS : va_S (fun q => s.heap.size ≤ q) s.heap s.heap [] := va_S.rf
  have hl := lv_entry ([.ref b]) (n := 4) (Nat.le_of_ble_eq_true rfl)
  rw [lg_entry_eq]
  generalize (lg_sl ([.ref b]) ++ List.replicate (4 - (lg_sl ([.ref b])).length) Slot.unset).toArray = ls at hl ⊢
  have hl : lv_has ls 4 [(0, .ref b)] := hl
  refine va_new (ci := 8) (fs := [.null, .null, .null, .null]) (C := rn_T) (T := fn_T) (N := 4) hx hb ht fw_T ft_T fk_T hown (ht (.classLink rn_L 7 rn_T) (by decide +kernel)) (ht (.instantiable rn_T 4) (by decide +kernel)) (ht (.initialized rn_T) (by decide +kernel)) hK hP hD hS hA rfl (fun j hj => by rcases (show j = 0 ∨ j = 1 ∨ j = 2 ∨ j = 3 by omega) with rfl | rfl | rfl | rfl <;> rfl) (by decide) (by decide) d_L_0 (fun aT H hP hD hS => ?_)
  refine W.widen (k := 1) (n := 4) (by decide) (by decide) ?_
  refine lv_dup hx hb d_L_3 rfl ?_
  refine cf_n (n := 0) (As := []) X ci_T hK hP hD hS hA hN hl (c_T_init l D cI cT aT) ⟨by decide, by decide⟩ rfl rfl [0] [] rfl rfl (by decide) (by decide) (by decide) rfl rfl (Nat.le_of_ble_eq_true rfl) d_L_4 ⟨by decide, by decide⟩ (fun w1 H locs hB hP hD hS => ?_)
  obtain ⟨aK, aQ, aL, aA, tk, aY, aB, aG, aS, aP, aC, aI, rfl⟩ := hB
  refine W.widen (k := 16) (n := 583) (by decide) (by decide) ?_
  refine lv_astore_n hx hb d_L_7 rfl hl (by decide) rfl (fun ls hl => ?_)
  have hl : lv_has ls 4 [(1, .ref aT), (0, .ref b)] := hl
  refine va_new (ci := 9) (fs := [.null, .null, .null, .null, .null, .null, .null, .int 0, .int 0, .int 0, .int 0, .int 0, .int 0, .int 0, .int 0, .int 0, .int 0]) (C := rn_M) (T := fn_M) (N := 17) hx hb ht fw_M ft_M fk_M hown (ht (.classLink rn_L 10 rn_M) (by decide +kernel)) (ht (.instantiable rn_M 17) (by decide +kernel)) (ht (.initialized rn_M) (by decide +kernel)) hK hP hD hS hA rfl (fun j hj => by rcases (show j = 0 ∨ j = 1 ∨ j = 2 ∨ j = 3 ∨ j = 4 ∨ j = 5 ∨ j = 6 ∨ j = 7 ∨ j = 8 ∨ j = 9 ∨ j = 10 ∨ j = 11 ∨ j = 12 ∨ j = 13 ∨ j = 14 ∨ j = 15 ∨ j = 16 by omega) with rfl | rfl | rfl | rfl | rfl | rfl | rfl | rfl | rfl | rfl | rfl | rfl | rfl | rfl | rfl | rfl | rfl <;> rfl) (by decide) (by decide) d_L_8 (fun h0 H hP hD hS => ?_)
  refine W.widen (k := 17) (n := 600) (by decide) (by decide) ?_
  refine lv_dup hx hb d_L_11 rfl ?_
  refine cf_n (n := 0) (As := []) X ci_M hK hP hD hS hA hN hl (c_M_init l D cI cT h0) ⟨by decide, by decide⟩ rfl rfl [16] [0, 1, 2, 3, 4, 5, 6, 7, 8, 9, 10, 11, 12, 13, 14, 15] rfl rfl (by decide) (by decide) (by decide) rfl rfl (Nat.le_of_ble_eq_true rfl) d_L_12 ⟨by decide, by decide⟩ (fun w1 H locs hB hP hD hS => ?_)
  obtain ⟨h1, h2, h3, h4, h5, h6, h7, rfl⟩ := hB
  refine W.widen (k := 600000) (n := 7302250) (by decide) (by decide) ?_
  refine lv_astore_n hx hb d_L_15 rfl hl (by decide) rfl (fun ls hl => ?_)
  have hl : lv_has ls 4 [(2, .ref h0), (1, .ref aT), (0, .ref b)] := hl
  refine lv_iconst (v := (0 : Int32)) hx hb d_L_16 (by decide) ?_
  refine lv_istore_n hx hb d_L_17 rfl hl (by decide) rfl (fun ls hl => ?_)
  have hl : lv_has ls 4 [(3, .int (nI (4 * 0))), (2, .ref h0), (1, .ref aT), (0, .ref b)] := hl
  exact law_loop (aT := aT) (aK := aK) (aQ := aQ) (aL := aL) (aA := aA) (tk := tk) (aY := aY) (aB := aB) (aG := aG) (aS := aS) (aP := aP) (aC := aC) (aI := aI) (h0 := h0) (h1 := h1) (h2 := h2) (h3 := h3) (h4 := h4) (h5 := h5) (h6 := h6) (h7 := h7) ⟨X, hr, hlk, hK, hXs, hbl, hZ⟩ hL L 0 (by omega) (by omega) H locs ls none 0 (fun _ => none) (fun _ => 0) (fun _ => 0) (fun _ => 0) (fun _ => 0) (fun _ => 0) (0, 0, 0, 0, 0, 0, 0, 0, 0) (0, 0, 0, 0, 0, 0, 0, 0, 0) 0 0 (fun _ => 0) (fun _ => 0) (fun _ => 0) (fun _ => 0) (fun _ => 0) (fun _ => 0) 0 (-1) 0 0 false 0 0 0 0 false KB_0 RN_0 (fun _ => rfl) hP hD hS hl
