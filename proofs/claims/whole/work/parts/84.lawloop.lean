section LOOP
variable {p : Program} {l : Launch} {e : Env} {s : State} {m : MethodId} {below : List Frame} {meth : Method} {c : Code} {b L : Nat} {xs : Nat → Int32} {D : va_G} {aT aK aQ aL aA aY aB aG aS aP aC aI : Nat} {tk : Nat → Nat} {cI cT : ClassId} {h0 h1 h2 h3 h4 h5 h6 h7 : Nat}
set_option maxHeartbeats 4000000 in
set_option maxRecDepth 100000 in
theorem law_loop (hX : LX p s m meth c b L xs D cI cT) (hL : L ≤ 2048) : ∀ (n k : Nat), L ≤ 4 * k + n → 4 * k ≤ 2052 → ∀ (H : Heap) (locs : List Loc) (ls : Array Slot) (kr : Option Nat) (uz : Int32) (ul : Nat → Option Nat) (ks kv kz ku cb : Nat → Int32) (g q : R9) (py po : Int32) (rg so sv tl su qu : Nat → Int32) (wa ru pe re : Int32) (pn : Bool) (lo se pa sp : Int32) (iv : Bool), KB uz ul ks kv kz ku cb cb so sv tl su qu wa → RN kr ru ks g rg → (pe = 0 → re = 0) → va_P D cz_all (ct_ aT aK aQ aL aA tk aY aB aG aS aP aC aI cI cT kr uz ul ks kv kz ku cb g.1 g.2.1 g.2.2.1 g.2.2.2.1 g.2.2.2.2.1 g.2.2.2.2.2.1 g.2.2.2.2.2.2.1 g.2.2.2.2.2.2.2.1 g.2.2.2.2.2.2.2.2 q.1 q.2.1 q.2.2.1 q.2.2.2.1 q.2.2.2.2.1 q.2.2.2.2.2.1 q.2.2.2.2.2.2.1 q.2.2.2.2.2.2.2.1 q.2.2.2.2.2.2.2.2 py po pe re pa se lo pn ++ mw_ h0 h1 h2 h3 h4 h5 h6 h7 cI cb rg so sv tl su qu wa ru pe re pn lo se pa sp iv) H → va_D (fun q => s.heap.size ≤ q) (ct_ aT aK aQ aL aA tk aY aB aG aS aP aC aI cI cT kr uz ul ks kv kz ku cb g.1 g.2.1 g.2.2.1 g.2.2.2.1 g.2.2.2.2.1 g.2.2.2.2.2.1 g.2.2.2.2.2.2.1 g.2.2.2.2.2.2.2.1 g.2.2.2.2.2.2.2.2 q.1 q.2.1 q.2.2.1 q.2.2.2.1 q.2.2.2.2.1 q.2.2.2.2.2.1 q.2.2.2.2.2.2.1 q.2.2.2.2.2.2.2.1 q.2.2.2.2.2.2.2.2 py po pe re pa se lo pn ++ mw_ h0 h1 h2 h3 h4 h5 h6 h7 cI cb rg so sv tl su qu wa ru pe re pn lo se pa sp iv) → va_S (fun q => s.heap.size ≤ q) s.heap H locs → lv_has ls 4 [(3, .int (nI (4 * k))), (2, .ref h0), (1, .ref aT), (0, .ref b)] → W p l e room_1 s m #[Value.ref b] below meth c H locs 600000 7302250 (lw_Z below #[Value.ref b] s) (F0 m 18 ls []) := by
  have hX0 := hX
  obtain ⟨X, hr, hlk, hK, hXs, hbl, hZ⟩ := hX
  have hx := X.1
  have hb := X.2.1
  have hA : ∀ q, s.heap.size ≤ q → (fun q => s.heap.size ≤ q) q := fun q h => h
  have hbA : ¬ (fun q => s.heap.size ≤ q) b := Nat.not_le.mpr hbl
  intro n
  induction n with
  | zero =>
    intro k hk hk2 H locs ls kr uz ul ks kv kz ku cb g q py po rg so sv tl su qu wa ru pe re pn lo se pa sp iv hKB hRN h00 hP hD hS hl
    refine lv_iload_n hx hb d_L_18 rfl (lv_at hl 0 rfl) ?_
    refine lv_aload_n hx hb d_L_19 rfl (lv_at hl 3 rfl) ?_
    refine va_slen hx hb hXs hbl hbA hS d_L_20 ?_
    refine lv_iconst (v := (4 : Int32)) hx hb d_L_21 (by decide) ?_
    refine lv_isub hx hb d_L_22 ?_
    refine lv_icmp_gt (tgt := 459) hx hb d_L_23 (by decide) (fun hc => ?_) (fun hc => ?_)
    · refine lv_iconst (v := (1 : Int32)) hx hb d_L_459 (by decide) ?_
      exact va_forget (fun q h => hS.2.2 q h) (lw_ret hx hb hr hlk d_L_460)
    · have := gt_4 hL hk2 hc
      omega
  | succ n ih =>
    intro k hk hk2 H locs ls kr uz ul ks kv kz ku cb g q py po rg so sv tl su qu wa ru pe re pn lo se pa sp iv hKB hRN h00 hP hD hS hl
    refine lv_iload_n hx hb d_L_18 rfl (lv_at hl 0 rfl) ?_
    refine lv_aload_n hx hb d_L_19 rfl (lv_at hl 3 rfl) ?_
    refine va_slen hx hb hXs hbl hbA hS d_L_20 ?_
    refine lv_iconst (v := (4 : Int32)) hx hb d_L_21 (by decide) ?_
    refine lv_isub hx hb d_L_22 ?_
    refine lv_icmp_gt (tgt := 459) hx hb d_L_23 (by decide) (fun hc => ?_) (fun hc => ?_)
    · refine lv_iconst (v := (1 : Int32)) hx hb d_L_459 (by decide) ?_
      exact va_forget (fun q h => hS.2.2 q h) (lw_ret hx hb hr hlk d_L_460)
    · have hq4 := gt_4 hL hk2 hc
      have fin : ∀ (kr : Option Nat) (uz : Int32) (ul : Nat → Option Nat) (ks kv kz ku cb : Nat → Int32) (g q : R9) (py po : Int32) (rg so sv tl su qu : Nat → Int32) (wa ru pe re : Int32) (pn : Bool) (lo se pa sp : Int32) (iv : Bool) (H : Heap) (locs : List Loc), KB uz ul ks kv kz ku cb cb so sv tl su qu wa → RN kr ru ks g rg → (pe = 0 → re = 0) → va_P D cz_all (ct_ aT aK aQ aL aA tk aY aB aG aS aP aC aI cI cT kr uz ul ks kv kz ku cb g.1 g.2.1 g.2.2.1 g.2.2.2.1 g.2.2.2.2.1 g.2.2.2.2.2.1 g.2.2.2.2.2.2.1 g.2.2.2.2.2.2.2.1 g.2.2.2.2.2.2.2.2 q.1 q.2.1 q.2.2.1 q.2.2.2.1 q.2.2.2.2.1 q.2.2.2.2.2.1 q.2.2.2.2.2.2.1 q.2.2.2.2.2.2.2.1 q.2.2.2.2.2.2.2.2 py po pe re pa se lo pn ++ mw_ h0 h1 h2 h3 h4 h5 h6 h7 cI cb rg so sv tl su qu wa ru pe re pn lo se pa sp iv) H → va_D (fun q => s.heap.size ≤ q) (ct_ aT aK aQ aL aA tk aY aB aG aS aP aC aI cI cT kr uz ul ks kv kz ku cb g.1 g.2.1 g.2.2.1 g.2.2.2.1 g.2.2.2.2.1 g.2.2.2.2.2.1 g.2.2.2.2.2.2.1 g.2.2.2.2.2.2.2.1 g.2.2.2.2.2.2.2.2 q.1 q.2.1 q.2.2.1 q.2.2.2.1 q.2.2.2.2.1 q.2.2.2.2.2.1 q.2.2.2.2.2.2.1 q.2.2.2.2.2.2.2.1 q.2.2.2.2.2.2.2.2 py po pe re pa se lo pn ++ mw_ h0 h1 h2 h3 h4 h5 h6 h7 cI cb rg so sv tl su qu wa ru pe re pn lo se pa sp iv) → va_S (fun q => s.heap.size ≤ q) s.heap H locs → W p l e room_1 s m #[Value.ref b] below meth c H locs 600000 7302250 (lw_Z below #[Value.ref b] s) (F0 m 453 ls []) := by
        intro kr uz ul ks kv kz ku cb g q py po rg so sv tl su qu wa ru pe re pn lo se pa sp iv H locs hKB hRN h00 hP hD hS
        refine lv_iinc (k := 0) hx hb d_L_453 hl rfl rfl (by decide) rfl (fun ls hl => ?_)
        refine lv_goto (tgt := 18) hx hb d_L_456 (by decide) ?_
        refine ih (k + 1) (by omega) (by omega) H locs ls kr uz ul ks kv kz ku cb g q py po rg so sv tl su qu wa ru pe re pn lo se pa sp iv hKB hRN h00 hP hD hS ?_
        rw [← inc_4]
        exact hl
      refine lv_aload_n hx hb d_L_26 rfl (lv_at hl 3 rfl) ?_
      refine lv_iload_n hx hb d_L_27 rfl (lv_at hl 0 rfl) ?_
      refine va_sld hx hb hXs hbl hbA hS (in_b_vp (in_nI (by omega) (by omega))) d_L_28 ?_
      refine lv_bipush (v := (15 : Int32)) hx hb d_L_29 (by decide) ?_
      refine lv_iand hx hb d_L_31 ?_
      obtain ⟨j, hj, ej⟩ := an_15 (xs (nI (4 * k)).toNatClampNeg)
      rw [ej]
      rcases (show j = 0 ∨ j = 1 ∨ j = 2 ∨ j = 3 ∨ j = 4 ∨ j = 5 ∨ j = 6 ∨ j = 7 ∨ j = 8 ∨ j = 9 ∨ j = 10 ∨ j = 11 ∨ j = 12 ∨ j = 13 ∨ j = 14 ∨ j = 15 by omega) with rfl | rfl | rfl | rfl | rfl | rfl | rfl | rfl | rfl | rfl | rfl | rfl | rfl | rfl | rfl | rfl
      · refine lv_tableIn (tgt := 108) (off := 76) hx hb d_L_32 (by decide) (by decide) rfl (by decide) ?_
        exact op_poke hX0 hL hq4 kr uz ul ks kv kz ku cb g q py po rg so sv tl su qu wa ru pe re pn lo se pa sp iv hKB hRN h00 hP hD hS hl fin
      · refine lv_tableIn (tgt := 141) (off := 109) hx hb d_L_32 (by decide) (by decide) rfl (by decide) ?_
        exact op_peek hX0 hL hq4 kr uz ul ks kv kz ku cb g q py po rg so sv tl su qu wa ru pe re pn lo se pa sp iv hKB hRN h00 hP hD hS hl fin
      · refine lv_tableIn (tgt := 164) (off := 132) hx hb d_L_32 (by decide) (by decide) rfl (by decide) ?_
        exact op_start hX0 hL hq4 kr uz ul ks kv kz ku cb g q py po rg so sv tl su qu wa ru pe re pn lo se pa sp iv hKB hRN h00 hP hD hS hl fin
      · refine lv_tableIn (tgt := 207) (off := 175) hx hb d_L_32 (by decide) (by decide) rfl (by decide) ?_
        exact op_stop hX0 hL hq4 kr uz ul ks kv kz ku cb g q py po rg so sv tl su qu wa ru pe re pn lo se pa sp iv hKB hRN h00 hP hD hS hl fin
      · refine lv_tableIn (tgt := 230) (off := 198) hx hb d_L_32 (by decide) (by decide) rfl (by decide) ?_
        exact op_timer hX0 hL hq4 kr uz ul ks kv kz ku cb g q py po rg so sv tl su qu wa ru pe re pn lo se pa sp iv hKB hRN h00 hP hD hS hl fin
      · refine lv_tableIn (tgt := 253) (off := 221) hx hb d_L_32 (by decide) (by decide) rfl (by decide) ?_
        exact op_run hX0 hL hq4 kr uz ul ks kv kz ku cb g q py po rg so sv tl su qu wa ru pe re pn lo se pa sp iv hKB hRN h00 hP hD hS hl fin
      · refine lv_tableIn (tgt := 276) (off := 244) hx hb d_L_32 (by decide) (by decide) rfl (by decide) ?_
        exact op_state hX0 hL hq4 kr uz ul ks kv kz ku cb g q py po rg so sv tl su qu wa ru pe re pn lo se pa sp iv hKB hRN h00 hP hD hS hl fin
      · refine lv_tableIn (tgt := 299) (off := 267) hx hb d_L_32 (by decide) (by decide) rfl (by decide) ?_
        exact op_register hX0 hL hq4 kr uz ul ks kv kz ku cb g q py po rg so sv tl su qu wa ru pe re pn lo se pa sp iv hKB hRN h00 hP hD hS hl fin
      · refine lv_tableIn (tgt := 332) (off := 300) hx hb d_L_32 (by decide) (by decide) rfl (by decide) ?_
        exact op_queued hX0 hL hq4 kr uz ul ks kv kz ku cb g q py po rg so sv tl su qu wa ru pe re pn lo se pa sp iv hKB hRN h00 hP hD hS hl fin
      · refine lv_tableIn (tgt := 355) (off := 323) hx hb d_L_32 (by decide) (by decide) rfl (by decide) ?_
        exact op_sleeps hX0 hL hq4 kr uz ul ks kv kz ku cb g q py po rg so sv tl su qu wa ru pe re pn lo se pa sp iv hKB hRN h00 hP hD hS hl fin
      · refine lv_tableIn (tgt := 378) (off := 346) hx hb d_L_32 (by decide) (by decide) rfl (by decide) ?_
        exact op_status hX0 hL hq4 kr uz ul ks kv kz ku cb g q py po rg so sv tl su qu wa ru pe re pn lo se pa sp iv hKB hRN h00 hP hD hS hl fin
      · refine lv_tableIn (tgt := 401) (off := 369) hx hb d_L_32 (by decide) (by decide) rfl (by decide) ?_
        exact op_cycles hX0 hL hq4 kr uz ul ks kv kz ku cb g q py po rg so sv tl su qu wa ru pe re pn lo se pa sp iv hKB hRN h00 hP hD hS hl fin
      · refine lv_tableIn (tgt := 414) (off := 382) hx hb d_L_32 (by decide) (by decide) rfl (by decide) ?_
        exact op_ticks hX0 hL hq4 kr uz ul ks kv kz ku cb g q py po rg so sv tl su qu wa ru pe re pn lo se pa sp iv hKB hRN h00 hP hD hS hl fin
      · refine lv_tableIn (tgt := 427) (off := 395) hx hb d_L_32 (by decide) (by decide) rfl (by decide) ?_
        exact op_lost hX0 hL hq4 kr uz ul ks kv kz ku cb g q py po rg so sv tl su qu wa ru pe re pn lo se pa sp iv hKB hRN h00 hP hD hS hl fin
      · refine lv_tableIn (tgt := 440) (off := 408) hx hb d_L_32 (by decide) (by decide) rfl (by decide) ?_
        exact op_left hX0 hL hq4 kr uz ul ks kv kz ku cb g q py po rg so sv tl su qu wa ru pe re pn lo se pa sp iv hKB hRN h00 hP hD hS hl fin
      · refine lv_tableOut (tgt := 453) hx hb d_L_32 (by decide) (by decide) ?_
        exact fin kr uz ul ks kv kz ku cb g q py po rg so sv tl su qu wa ru pe re pn lo se pa sp iv H locs hKB hRN h00 hP hD hS
end LOOP
