theorem d_M_register_0 : decode mb_M_register 0 = .ok (.iload_n 1, 1) := by decide +kernel
theorem d_M_register_1 : decode mb_M_register 1 = .ok (.invokestatic 223, 3) := by decide +kernel
theorem d_M_register_4 : decode mb_M_register 4 = .ok (.ifCond .ne 34, 3) := by decide +kernel
theorem d_M_register_7 : decode mb_M_register 7 = .ok (.aload_n 0, 1) := by decide +kernel
theorem d_M_register_8 : decode mb_M_register 8 = .ok (.getfield 16, 3) := by decide +kernel
theorem d_M_register_11 : decode mb_M_register 11 = .ok (.iload_n 1, 1) := by decide +kernel
theorem d_M_register_12 : decode mb_M_register 12 = .ok (.iaload, 1) := by decide +kernel
theorem d_M_register_13 : decode mb_M_register 13 = .ok (.ifCond .eq 25, 3) := by decide +kernel
theorem d_M_register_16 : decode mb_M_register 16 = .ok (.iload_n 2, 1) := by decide +kernel
theorem d_M_register_17 : decode mb_M_register 17 = .ok (.ifCond .lt 21, 3) := by decide +kernel
theorem d_M_register_20 : decode mb_M_register 20 = .ok (.iload_n 2, 1) := by decide +kernel
theorem d_M_register_21 : decode mb_M_register 21 = .ok (.bipush 11, 2) := by decide +kernel
theorem d_M_register_23 : decode mb_M_register 23 = .ok (.if_icmp .gt 15, 3) := by decide +kernel
theorem d_M_register_26 : decode mb_M_register 26 = .ok (.iload_n 2, 1) := by decide +kernel
theorem d_M_register_27 : decode mb_M_register 27 = .ok (.bipush 6, 2) := by decide +kernel
theorem d_M_register_29 : decode mb_M_register 29 = .ok (.if_icmp .eq 9, 3) := by decide +kernel
theorem d_M_register_32 : decode mb_M_register 32 = .ok (.iload_n 2, 1) := by decide +kernel
theorem d_M_register_33 : decode mb_M_register 33 = .ok (.bipush 7, 2) := by decide +kernel
theorem d_M_register_35 : decode mb_M_register 35 = .ok (.if_icmp .ne 5, 3) := by decide +kernel
theorem d_M_register_38 : decode mb_M_register 38 = .ok (.iconst (-1), 1) := by decide +kernel
theorem d_M_register_39 : decode mb_M_register 39 = .ok (.ireturn, 1) := by decide +kernel
theorem d_M_register_40 : decode mb_M_register 40 = .ok (.aload_n 0, 1) := by decide +kernel
theorem d_M_register_41 : decode mb_M_register 41 = .ok (.getfield 16, 3) := by decide +kernel
theorem d_M_register_44 : decode mb_M_register 44 = .ok (.iload_n 1, 1) := by decide +kernel
theorem d_M_register_45 : decode mb_M_register 45 = .ok (.iaload, 1) := by decide +kernel
theorem d_M_register_46 : decode mb_M_register 46 = .ok (.iconst 1, 1) := by decide +kernel
theorem d_M_register_47 : decode mb_M_register 47 = .ok (.if_icmp .ne 9, 3) := by decide +kernel
theorem d_M_register_50 : decode mb_M_register 50 = .ok (.aload_n 0, 1) := by decide +kernel
theorem d_M_register_51 : decode mb_M_register 51 = .ok (.iload_n 2, 1) := by decide +kernel
theorem d_M_register_52 : decode mb_M_register 52 = .ok (.invokevirtual 89, 3) := by decide +kernel
theorem d_M_register_55 : decode mb_M_register 55 = .ok (.ireturn, 1) := by decide +kernel
theorem d_M_register_56 : decode mb_M_register 56 = .ok (.iload_n 2, 1) := by decide +kernel
theorem d_M_register_57 : decode mb_M_register 57 = .ok (.iconst 4, 1) := by decide +kernel
theorem d_M_register_58 : decode mb_M_register 58 = .ok (.if_icmp .ne 18, 3) := by decide +kernel
theorem d_M_register_61 : decode mb_M_register 61 = .ok (.aload_n 0, 1) := by decide +kernel
theorem d_M_register_62 : decode mb_M_register 62 = .ok (.getfield 19, 3) := by decide +kernel
theorem d_M_register_65 : decode mb_M_register 65 = .ok (.iload_n 1, 1) := by decide +kernel
theorem d_M_register_66 : decode mb_M_register 66 = .ok (.iaload, 1) := by decide +kernel
theorem d_M_register_67 : decode mb_M_register 67 = .ok (.bipush 12, 2) := by decide +kernel
theorem d_M_register_69 : decode mb_M_register 69 = .ok (.iadd, 1) := by decide +kernel
theorem d_M_register_70 : decode mb_M_register 70 = .ok (.ldc 35, 2) := by decide +kernel
theorem d_M_register_72 : decode mb_M_register 72 = .ok (.iand, 1) := by decide +kernel
theorem d_M_register_73 : decode mb_M_register 73 = .ok (.goto 14, 3) := by decide +kernel
theorem d_M_register_76 : decode mb_M_register 76 = .ok (.aload_n 0, 1) := by decide +kernel
theorem d_M_register_77 : decode mb_M_register 77 = .ok (.aload_n 0, 1) := by decide +kernel
theorem d_M_register_78 : decode mb_M_register 78 = .ok (.getfield 19, 3) := by decide +kernel
theorem d_M_register_81 : decode mb_M_register 81 = .ok (.iload_n 1, 1) := by decide +kernel
theorem d_M_register_82 : decode mb_M_register 82 = .ok (.iaload, 1) := by decide +kernel
theorem d_M_register_83 : decode mb_M_register 83 = .ok (.iload_n 2, 1) := by decide +kernel
theorem d_M_register_84 : decode mb_M_register 84 = .ok (.invokevirtual 226, 3) := by decide +kernel
theorem d_M_register_87 : decode mb_M_register 87 = .ok (.ireturn, 1) := by decide +kernel
theorem d_M_queued_0 : decode mb_M_queued 0 = .ok (.iload_n 1, 1) := by decide +kernel
theorem d_M_queued_1 : decode mb_M_queued 1 = .ok (.ifCond .lt 11, 3) := by decide +kernel
theorem d_M_queued_4 : decode mb_M_queued 4 = .ok (.iload_n 1, 1) := by decide +kernel
theorem d_M_queued_5 : decode mb_M_queued 5 = .ok (.aload_n 0, 1) := by decide +kernel
theorem d_M_queued_6 : decode mb_M_queued 6 = .ok (.getfield 170, 3) := by decide +kernel
theorem d_M_queued_9 : decode mb_M_queued 9 = .ok (.if_icmp .lt 7, 3) := by decide +kernel
theorem d_M_queued_12 : decode mb_M_queued 12 = .ok (.iconst (-1), 1) := by decide +kernel
theorem d_M_queued_13 : decode mb_M_queued 13 = .ok (.goto 9, 3) := by decide +kernel
theorem d_M_queued_16 : decode mb_M_queued 16 = .ok (.aload_n 0, 1) := by decide +kernel
theorem d_M_queued_17 : decode mb_M_queued 17 = .ok (.getfield 28, 3) := by decide +kernel
theorem d_M_queued_20 : decode mb_M_queued 20 = .ok (.iload_n 1, 1) := by decide +kernel
theorem d_M_queued_21 : decode mb_M_queued 21 = .ok (.iaload, 1) := by decide +kernel
theorem d_M_queued_22 : decode mb_M_queued 22 = .ok (.ireturn, 1) := by decide +kernel
theorem d_M_sleeps_0 : decode mb_M_sleeps 0 = .ok (.iload_n 1, 1) := by decide +kernel
theorem d_M_sleeps_1 : decode mb_M_sleeps 1 = .ok (.invokestatic 223, 3) := by decide +kernel
theorem d_M_sleeps_4 : decode mb_M_sleeps 4 = .ok (.ifCond .ne 13, 3) := by decide +kernel
theorem d_M_sleeps_7 : decode mb_M_sleeps 7 = .ok (.aload_n 0, 1) := by decide +kernel
theorem d_M_sleeps_8 : decode mb_M_sleeps 8 = .ok (.getfield 16, 3) := by decide +kernel
theorem d_M_sleeps_11 : decode mb_M_sleeps 11 = .ok (.iload_n 1, 1) := by decide +kernel
theorem d_M_sleeps_12 : decode mb_M_sleeps 12 = .ok (.iaload, 1) := by decide +kernel
theorem d_M_sleeps_13 : decode mb_M_sleeps 13 = .ok (.iconst 3, 1) := by decide +kernel
theorem d_M_sleeps_14 : decode mb_M_sleeps 14 = .ok (.if_icmp .eq 7, 3) := by decide +kernel
theorem d_M_sleeps_17 : decode mb_M_sleeps 17 = .ok (.iconst 0, 1) := by decide +kernel
theorem d_M_sleeps_18 : decode mb_M_sleeps 18 = .ok (.goto 9, 3) := by decide +kernel
theorem d_M_sleeps_21 : decode mb_M_sleeps 21 = .ok (.aload_n 0, 1) := by decide +kernel
theorem d_M_sleeps_22 : decode mb_M_sleeps 22 = .ok (.getfield 22, 3) := by decide +kernel
theorem d_M_sleeps_25 : decode mb_M_sleeps 25 = .ok (.iload_n 1, 1) := by decide +kernel
theorem d_M_sleeps_26 : decode mb_M_sleeps 26 = .ok (.iaload, 1) := by decide +kernel
theorem d_M_sleeps_27 : decode mb_M_sleeps 27 = .ok (.ireturn, 1) := by decide +kernel
theorem d_M_status_0 : decode mb_M_status 0 = .ok (.iload_n 1, 1) := by decide +kernel
theorem d_M_status_1 : decode mb_M_status 1 = .ok (.invokestatic 223, 3) := by decide +kernel
theorem d_M_status_4 : decode mb_M_status 4 = .ok (.ifCond .eq 7, 3) := by decide +kernel
theorem d_M_status_7 : decode mb_M_status 7 = .ok (.iconst (-1), 1) := by decide +kernel
theorem d_M_status_8 : decode mb_M_status 8 = .ok (.goto 9, 3) := by decide +kernel
theorem d_M_status_11 : decode mb_M_status 11 = .ok (.aload_n 0, 1) := by decide +kernel
theorem d_M_status_12 : decode mb_M_status 12 = .ok (.getfield 25, 3) := by decide +kernel
theorem d_M_status_15 : decode mb_M_status 15 = .ok (.iload_n 1, 1) := by decide +kernel
theorem d_M_status_16 : decode mb_M_status 16 = .ok (.iaload, 1) := by decide +kernel
theorem d_M_status_17 : decode mb_M_status 17 = .ok (.ireturn, 1) := by decide +kernel
theorem d_M_cycles_0 : decode mb_M_cycles 0 = .ok (.aload_n 0, 1) := by decide +kernel
theorem d_M_cycles_1 : decode mb_M_cycles 1 = .ok (.getfield 196, 3) := by decide +kernel
theorem d_M_cycles_4 : decode mb_M_cycles 4 = .ok (.ireturn, 1) := by decide +kernel
theorem d_M_ticks_0 : decode mb_M_ticks 0 = .ok (.aload_n 0, 1) := by decide +kernel
theorem d_M_ticks_1 : decode mb_M_ticks 1 = .ok (.getfield 211, 3) := by decide +kernel
theorem d_M_ticks_4 : decode mb_M_ticks 4 = .ok (.ireturn, 1) := by decide +kernel
theorem d_M_lost_0 : decode mb_M_lost 0 = .ok (.aload_n 0, 1) := by decide +kernel
theorem d_M_lost_1 : decode mb_M_lost 1 = .ok (.getfield 205, 3) := by decide +kernel
theorem d_M_lost_4 : decode mb_M_lost 4 = .ok (.aload_n 0, 1) := by decide +kernel
theorem d_M_lost_5 : decode mb_M_lost 5 = .ok (.getfield 208, 3) := by decide +kernel
theorem d_M_lost_8 : decode mb_M_lost 8 = .ok (.ifCond .eq 8, 3) := by decide +kernel
theorem d_M_lost_11 : decode mb_M_lost 11 = .ok (.ldc 229, 2) := by decide +kernel
theorem d_M_lost_13 : decode mb_M_lost 13 = .ok (.goto 4, 3) := by decide +kernel
theorem d_M_lost_16 : decode mb_M_lost 16 = .ok (.iconst 0, 1) := by decide +kernel
theorem d_M_lost_17 : decode mb_M_lost 17 = .ok (.iadd, 1) := by decide +kernel
theorem d_M_lost_18 : decode mb_M_lost 18 = .ok (.ireturn, 1) := by decide +kernel
theorem d_M_left_0 : decode mb_M_left 0 = .ok (.aload_n 0, 1) := by decide +kernel
theorem d_M_left_1 : decode mb_M_left 1 = .ok (.getfield 199, 3) := by decide +kernel
theorem d_M_left_4 : decode mb_M_left 4 = .ok (.ifCond .ne 7, 3) := by decide +kernel
theorem d_M_left_7 : decode mb_M_left 7 = .ok (.iconst 0, 1) := by decide +kernel
theorem d_M_left_8 : decode mb_M_left 8 = .ok (.goto 7, 3) := by decide +kernel
theorem d_M_left_11 : decode mb_M_left 11 = .ok (.aload_n 0, 1) := by decide +kernel
theorem d_M_left_12 : decode mb_M_left 12 = .ok (.getfield 202, 3) := by decide +kernel
theorem d_M_left_15 : decode mb_M_left 15 = .ok (.ireturn, 1) := by decide +kernel
section MODEL
variable {l : Launch} {D : va_G}
variable {h0 h1 h2 h3 h4 h5 h6 h7 : Nat} {cI cT : ClassId} {me : Nat → Int32} {rg : Nat → Int32} {so : Nat → Int32} {sv : Nat → Int32} {tl : Nat → Int32} {su : Nat → Int32} {qu : Nat → Int32} {wa : Int32} {ru : Int32} {pe : Int32} {re : Int32} {pn : Bool} {lo : Int32} {se : Int32} {pa : Int32} {sp : Int32} {iv : Bool}
set_option maxHeartbeats 4000000 in
set_option maxRecDepth 100000 in
theorem c_mo_register {x1 : Int32} {x2 : Int32} {z : Int32} (hf : mo_register x1 x2 me rg so sv = some z) : co_i l my_M_register mb_M_register 3 .int rm_m_register D (ty_ cI cT) [.ref h0, .int x1, .int x2] (mw_ h0 h1 h2 h3 h4 h5 h6 h7 cI me rg so sv tl su qu wa ru pe re pn lo se pa sp iv) (mw_ h0 h1 h2 h3 h4 h5 h6 h7 cI me rg so sv tl su qu wa ru pe re pn lo se pa sp iv) z := by
  refine co_i_of (by decide) (Nat.le_of_ble_eq_true rfl) ?_
  intro p e s m below meth c A ls X hr hlk hK hP hD hS hA hl
  have hx := X.1
  have hb := X.2.1
  have hl : lv_has ls 3 [(0, .ref h0), (1, .int x1), (2, .int x2)] := hl
  unfold mo_register at hf
  refine lv_iload_n hx hb d_M_register_0 rfl (lv_at hl 1 rfl) ?_
  obtain ⟨z5, hz5, hf⟩ := op_b hf
  refine cl_si X cw_M_223 hK hP hD hS hA hl (c_mo_noTask hz5) ⟨rfl, rfl, Nat.le_of_ble_eq_true rfl, Nat.le_of_ble_eq_true rfl⟩ rfl rfl (Nat.le_of_ble_eq_true rfl) d_M_register_1 (fun H locs hP hD hS => ?_)
  refine lv_if_ne (tgt := 38) hx hb d_M_register_4 (by decide) (fun hc => ?_) (fun hc => ?_)
  · replace hf := (if_neg hc).symm.trans hf
    refine lv_iconst (v := (-1 : Int32)) hx hb d_M_register_38 (by decide) ?_
    have hq := Option.some.inj hf
    subst hq
    exact rt_i (r := (-1 : Int32)) X hr hlk hK rfl hP hD hS d_M_register_39
  · replace hf := (if_pos hc).symm.trans hf
    refine lv_aload_n hx hb d_M_register_7 rfl (lv_at hl 0 rfl) ?_
    refine mg_stateOf X hK hP d_M_register_8 ?_
    refine lv_iload_n hx hb d_M_register_11 rfl (lv_at hl 1 rfl) ?_
    obtain ⟨hi6, hf⟩ := op_c hf
    refine ma_so (k := (x1.toNatClampNeg)) X hK hP hi6 rfl d_M_register_12 ?_
    refine lv_if_eq (tgt := 38) hx hb d_M_register_13 (by decide) (fun hc => ?_) (fun hc => ?_)
    · replace hf := (if_pos hc).symm.trans hf
      refine lv_iconst (v := (-1 : Int32)) hx hb d_M_register_38 (by decide) ?_
      have hq := Option.some.inj hf
      subst hq
      exact rt_i (r := (-1 : Int32)) X hr hlk hK rfl hP hD hS d_M_register_39
    · replace hf := (if_neg hc).symm.trans hf
      refine lv_iload_n hx hb d_M_register_16 rfl (lv_at hl 2 rfl) ?_
      refine lv_if_lt (tgt := 38) hx hb d_M_register_17 (by decide) (fun hc => ?_) (fun hc => ?_)
      · replace hf := (if_pos hc).symm.trans hf
        refine lv_iconst (v := (-1 : Int32)) hx hb d_M_register_38 (by decide) ?_
        have hq := Option.some.inj hf
        subst hq
        exact rt_i (r := (-1 : Int32)) X hr hlk hK rfl hP hD hS d_M_register_39
      · replace hf := (if_neg hc).symm.trans hf
        refine lv_iload_n hx hb d_M_register_20 rfl (lv_at hl 2 rfl) ?_
        refine lv_bipush (v := (11 : Int32)) hx hb d_M_register_21 (by decide) ?_
        refine lv_icmp_gt (tgt := 38) hx hb d_M_register_23 (by decide) (fun hc => ?_) (fun hc => ?_)
        · replace hf := (if_pos hc).symm.trans hf
          refine lv_iconst (v := (-1 : Int32)) hx hb d_M_register_38 (by decide) ?_
          have hq := Option.some.inj hf
          subst hq
          exact rt_i (r := (-1 : Int32)) X hr hlk hK rfl hP hD hS d_M_register_39
        · replace hf := (if_neg hc).symm.trans hf
          refine lv_iload_n hx hb d_M_register_26 rfl (lv_at hl 2 rfl) ?_
          refine lv_bipush (v := (6 : Int32)) hx hb d_M_register_27 (by decide) ?_
          refine lv_icmp_eq (tgt := 38) hx hb d_M_register_29 (by decide) (fun hc => ?_) (fun hc => ?_)
          · replace hf := (if_pos hc).symm.trans hf
            refine lv_iconst (v := (-1 : Int32)) hx hb d_M_register_38 (by decide) ?_
            have hq := Option.some.inj hf
            subst hq
            exact rt_i (r := (-1 : Int32)) X hr hlk hK rfl hP hD hS d_M_register_39
          · replace hf := (if_neg hc).symm.trans hf
            refine lv_iload_n hx hb d_M_register_32 rfl (lv_at hl 2 rfl) ?_
            refine lv_bipush (v := (7 : Int32)) hx hb d_M_register_33 (by decide) ?_
            refine lv_icmp_ne (tgt := 40) hx hb d_M_register_35 (by decide) (fun hc => ?_) (fun hc => ?_)
            · replace hf := (if_neg hc).symm.trans hf
              refine lv_aload_n hx hb d_M_register_40 rfl (lv_at hl 0 rfl) ?_
              refine mg_stateOf X hK hP d_M_register_41 ?_
              refine lv_iload_n hx hb d_M_register_44 rfl (lv_at hl 1 rfl) ?_
              refine ma_so (k := (x1.toNatClampNeg)) X hK hP hi6 rfl d_M_register_45 ?_
              refine lv_iconst (v := (1 : Int32)) hx hb d_M_register_46 (by decide) ?_
              refine lv_icmp_ne (tgt := 56) hx hb d_M_register_47 (by decide) (fun hc => ?_) (fun hc => ?_)
              · replace hf := (if_neg hc).symm.trans hf
                refine lv_iload_n hx hb d_M_register_56 rfl (lv_at hl 2 rfl) ?_
                refine lv_iconst (v := (4 : Int32)) hx hb d_M_register_57 (by decide) ?_
                refine lv_icmp_ne (tgt := 76) hx hb d_M_register_58 (by decide) (fun hc => ?_) (fun hc => ?_)
                · replace hf := (if_neg hc).symm.trans hf
                  refine lv_aload_n hx hb d_M_register_76 rfl (lv_at hl 0 rfl) ?_
                  refine lv_aload_n hx hb d_M_register_77 rfl (lv_at hl 0 rfl) ?_
                  refine mg_savedS X hK hP d_M_register_78 ?_
                  refine lv_iload_n hx hb d_M_register_81 rfl (lv_at hl 1 rfl) ?_
                  refine ma_sv (k := (x1.toNatClampNeg)) X hK hP hi6 rfl d_M_register_82 ?_
                  refine lv_iload_n hx hb d_M_register_83 rfl (lv_at hl 2 rfl) ?_
                  obtain ⟨z7, hz7, hf⟩ := op_b hf
                  refine cl_i X cw_M_226 hK hP hD hS hA hl (c_mo_inFrame hz7) ⟨rfl, rfl, Nat.le_of_ble_eq_true rfl, Nat.le_of_ble_eq_true rfl⟩ 0 rfl rfl rfl rfl rfl (Nat.le_of_ble_eq_true rfl) d_M_register_84 (fun H locs hP hD hS => ?_)
                  have hq := Option.some.inj hf
                  subst hq
                  exact rt_i (r := z7) X hr hlk hK rfl hP hD hS d_M_register_87
                · replace hf := (if_pos hc).symm.trans hf
                  refine lv_aload_n hx hb d_M_register_61 rfl (lv_at hl 0 rfl) ?_
                  refine mg_savedS X hK hP d_M_register_62 ?_
                  refine lv_iload_n hx hb d_M_register_65 rfl (lv_at hl 1 rfl) ?_
                  refine ma_sv (k := (x1.toNatClampNeg)) X hK hP hi6 rfl d_M_register_66 ?_
                  refine lv_bipush (v := (12 : Int32)) hx hb d_M_register_67 (by decide) ?_
                  refine lv_iadd hx hb d_M_register_69 ?_
                  refine lv_ldc (v := (65535 : Int32)) hx hb X.2.2.2.1 (X.2.2.2.2 _ wd_0) d_M_register_70 ?_
                  refine lv_iand hx hb d_M_register_72 ?_
                  refine lv_goto (tgt := 87) hx hb d_M_register_73 (by decide) ?_
                  have hq := Option.some.inj hf
                  subst hq
                  exact rt_i (r := (((sv (x1.toNatClampNeg)) + (12 : Int32)) &&& (65535 : Int32))) X hr hlk hK rfl hP hD hS d_M_register_87
              · replace hf := (if_pos hc).symm.trans hf
                refine lv_aload_n hx hb d_M_register_50 rfl (lv_at hl 0 rfl) ?_
                refine lv_iload_n hx hb d_M_register_51 rfl (lv_at hl 2 rfl) ?_
                obtain ⟨z8, hz8, hf⟩ := op_b hf
                refine cl_i X cw_M_89 hK hP hD hS hA hl (c_mo_get hz8) ⟨rfl, rfl, Nat.le_of_ble_eq_true rfl, Nat.le_of_ble_eq_true rfl⟩ 0 rfl rfl rfl rfl rfl (Nat.le_of_ble_eq_true rfl) d_M_register_52 (fun H locs hP hD hS => ?_)
                have hq := Option.some.inj hf
                subst hq
                exact rt_i (r := z8) X hr hlk hK rfl hP hD hS d_M_register_55
            · replace hf := (if_pos hc).symm.trans hf
              refine lv_iconst (v := (-1 : Int32)) hx hb d_M_register_38 (by decide) ?_
              have hq := Option.some.inj hf
              subst hq
              exact rt_i (r := (-1 : Int32)) X hr hlk hK rfl hP hD hS d_M_register_39
set_option maxHeartbeats 4000000 in
set_option maxRecDepth 100000 in
theorem c_mo_queued {x1 : Int32} {z : Int32} (hf : mo_queued x1 qu wa = some z) : co_i l my_M_queued mb_M_queued 2 .int rm_m_queued D (ty_ cI cT) [.ref h0, .int x1] (mw_ h0 h1 h2 h3 h4 h5 h6 h7 cI me rg so sv tl su qu wa ru pe re pn lo se pa sp iv) (mw_ h0 h1 h2 h3 h4 h5 h6 h7 cI me rg so sv tl su qu wa ru pe re pn lo se pa sp iv) z := by
  refine co_i_of (by decide) (Nat.le_of_ble_eq_true rfl) ?_
  intro p e s m below meth c A ls X hr hlk hK hP hD hS hA hl
  have hx := X.1
  have hb := X.2.1
  have hl : lv_has ls 2 [(0, .ref h0), (1, .int x1)] := hl
  have J12 : ∀ (qu : Nat → Int32) (wa : Int32), mo_queued_j12 qu wa = some z → ∀ (H : Heap) (locs : List Loc) (ls : Array Slot), lv_has ls 2 [] → va_P D cz_all (mw_ h0 h1 h2 h3 h4 h5 h6 h7 cI me rg so sv tl su qu wa ru pe re pn lo se pa sp iv) H → va_D A (mw_ h0 h1 h2 h3 h4 h5 h6 h7 cI me rg so sv tl su qu wa ru pe re pn lo se pa sp iv) → va_S A s.heap H locs → W p l e rm_m_queued s m ([.ref h0, .int x1] : List Value).toArray below meth c H locs 0 0 (MQ below (qs_i D (ty_ cI cT) (mw_ h0 h1 h2 h3 h4 h5 h6 h7 cI me rg so sv tl su qu wa ru pe re pn lo se pa sp iv) z A) ([.ref h0, .int x1] : List Value).toArray s 0 0 A) (F0 m 12 ls []) := by
    intro qu wa hf H locs ls hl hP hD hS
    unfold mo_queued_j12 at hf
    refine lv_iconst (v := (-1 : Int32)) hx hb d_M_queued_12 (by decide) ?_
    refine lv_goto (tgt := 22) hx hb d_M_queued_13 (by decide) ?_
    have hq := Option.some.inj hf
    subst hq
    exact rt_i (r := (-1 : Int32)) X hr hlk hK rfl hP hD hS d_M_queued_22
  unfold mo_queued at hf
  refine lv_iload_n hx hb d_M_queued_0 rfl (lv_at hl 1 rfl) ?_
  refine lv_if_lt (tgt := 12) hx hb d_M_queued_1 (by decide) (fun hc => ?_) (fun hc => ?_)
  · replace hf := (if_pos hc).symm.trans hf
    exact J12 qu wa hf _ _ _ (lv_sub hl [] rfl) hP hD hS
  · replace hf := (if_neg hc).symm.trans hf
    refine lv_iload_n hx hb d_M_queued_4 rfl (lv_at hl 1 rfl) ?_
    refine lv_aload_n hx hb d_M_queued_5 rfl (lv_at hl 0 rfl) ?_
    refine mg_waits X hK hP d_M_queued_6 ?_
    refine lv_icmp_lt (tgt := 16) hx hb d_M_queued_9 (by decide) (fun hc => ?_) (fun hc => ?_)
    · replace hf := (if_pos hc).symm.trans hf
      refine lv_aload_n hx hb d_M_queued_16 rfl (lv_at hl 0 rfl) ?_
      refine mg_queue X hK hP d_M_queued_17 ?_
      refine lv_iload_n hx hb d_M_queued_20 rfl (lv_at hl 1 rfl) ?_
      obtain ⟨hi2, hf⟩ := op_c hf
      refine ma_qu (k := (x1.toNatClampNeg)) X hK hP hi2 rfl d_M_queued_21 ?_
      have hq := Option.some.inj hf
      subst hq
      exact rt_i (r := (qu (x1.toNatClampNeg))) X hr hlk hK rfl hP hD hS d_M_queued_22
    · replace hf := (if_neg hc).symm.trans hf
      exact J12 qu wa hf _ _ _ (lv_sub hl [] rfl) hP hD hS
set_option maxHeartbeats 4000000 in
set_option maxRecDepth 100000 in
theorem c_mo_sleeps {x1 : Int32} {z : Int32} (hf : mo_sleeps x1 so tl = some z) : co_i l my_M_sleeps mb_M_sleeps 2 .int rm_m_sleeps D (ty_ cI cT) [.ref h0, .int x1] (mw_ h0 h1 h2 h3 h4 h5 h6 h7 cI me rg so sv tl su qu wa ru pe re pn lo se pa sp iv) (mw_ h0 h1 h2 h3 h4 h5 h6 h7 cI me rg so sv tl su qu wa ru pe re pn lo se pa sp iv) z := by
  refine co_i_of (by decide) (Nat.le_of_ble_eq_true rfl) ?_
  intro p e s m below meth c A ls X hr hlk hK hP hD hS hA hl
  have hx := X.1
  have hb := X.2.1
  have hl : lv_has ls 2 [(0, .ref h0), (1, .int x1)] := hl
  have J17 : ∀ (so : Nat → Int32) (tl : Nat → Int32), mo_sleeps_j17 so tl = some z → ∀ (H : Heap) (locs : List Loc) (ls : Array Slot), lv_has ls 2 [] → va_P D cz_all (mw_ h0 h1 h2 h3 h4 h5 h6 h7 cI me rg so sv tl su qu wa ru pe re pn lo se pa sp iv) H → va_D A (mw_ h0 h1 h2 h3 h4 h5 h6 h7 cI me rg so sv tl su qu wa ru pe re pn lo se pa sp iv) → va_S A s.heap H locs → W p l e rm_m_sleeps s m ([.ref h0, .int x1] : List Value).toArray below meth c H locs 0 0 (MQ below (qs_i D (ty_ cI cT) (mw_ h0 h1 h2 h3 h4 h5 h6 h7 cI me rg so sv tl su qu wa ru pe re pn lo se pa sp iv) z A) ([.ref h0, .int x1] : List Value).toArray s 0 0 A) (F0 m 17 ls []) := by
    intro so tl hf H locs ls hl hP hD hS
    unfold mo_sleeps_j17 at hf
    refine lv_iconst (v := (0 : Int32)) hx hb d_M_sleeps_17 (by decide) ?_
    refine lv_goto (tgt := 27) hx hb d_M_sleeps_18 (by decide) ?_
    have hq := Option.some.inj hf
    subst hq
    exact rt_i (r := (0 : Int32)) X hr hlk hK rfl hP hD hS d_M_sleeps_27
  unfold mo_sleeps at hf
  refine lv_iload_n hx hb d_M_sleeps_0 rfl (lv_at hl 1 rfl) ?_
  obtain ⟨z3, hz3, hf⟩ := op_b hf
  refine cl_si X cw_M_223 hK hP hD hS hA hl (c_mo_noTask hz3) ⟨rfl, rfl, Nat.le_of_ble_eq_true rfl, Nat.le_of_ble_eq_true rfl⟩ rfl rfl (Nat.le_of_ble_eq_true rfl) d_M_sleeps_1 (fun H locs hP hD hS => ?_)
  refine lv_if_ne (tgt := 17) hx hb d_M_sleeps_4 (by decide) (fun hc => ?_) (fun hc => ?_)
  · replace hf := (if_neg hc).symm.trans hf
    exact J17 so tl hf _ _ _ (lv_sub hl [] rfl) hP hD hS
  · replace hf := (if_pos hc).symm.trans hf
    refine lv_aload_n hx hb d_M_sleeps_7 rfl (lv_at hl 0 rfl) ?_
    refine mg_stateOf X hK hP d_M_sleeps_8 ?_
    refine lv_iload_n hx hb d_M_sleeps_11 rfl (lv_at hl 1 rfl) ?_
    obtain ⟨hi4, hf⟩ := op_c hf
    refine ma_so (k := (x1.toNatClampNeg)) X hK hP hi4 rfl d_M_sleeps_12 ?_
    refine lv_iconst (v := (3 : Int32)) hx hb d_M_sleeps_13 (by decide) ?_
    refine lv_icmp_eq (tgt := 21) hx hb d_M_sleeps_14 (by decide) (fun hc => ?_) (fun hc => ?_)
    · replace hf := (if_pos hc).symm.trans hf
      refine lv_aload_n hx hb d_M_sleeps_21 rfl (lv_at hl 0 rfl) ?_
      refine mg_toSleep X hK hP d_M_sleeps_22 ?_
      refine lv_iload_n hx hb d_M_sleeps_25 rfl (lv_at hl 1 rfl) ?_
      refine ma_tl (k := (x1.toNatClampNeg)) X hK hP hi4 rfl d_M_sleeps_26 ?_
      have hq := Option.some.inj hf
      subst hq
      exact rt_i (r := (tl (x1.toNatClampNeg))) X hr hlk hK rfl hP hD hS d_M_sleeps_27
    · replace hf := (if_neg hc).symm.trans hf
      exact J17 so tl hf _ _ _ (lv_sub hl [] rfl) hP hD hS
set_option maxHeartbeats 4000000 in
set_option maxRecDepth 100000 in
theorem c_mo_status {x1 : Int32} {z : Int32} (hf : mo_status x1 su = some z) : co_i l my_M_status mb_M_status 2 .int rm_m_status D (ty_ cI cT) [.ref h0, .int x1] (mw_ h0 h1 h2 h3 h4 h5 h6 h7 cI me rg so sv tl su qu wa ru pe re pn lo se pa sp iv) (mw_ h0 h1 h2 h3 h4 h5 h6 h7 cI me rg so sv tl su qu wa ru pe re pn lo se pa sp iv) z := by
  refine co_i_of (by decide) (Nat.le_of_ble_eq_true rfl) ?_
  intro p e s m below meth c A ls X hr hlk hK hP hD hS hA hl
  have hx := X.1
  have hb := X.2.1
  have hl : lv_has ls 2 [(0, .ref h0), (1, .int x1)] := hl
  unfold mo_status at hf
  refine lv_iload_n hx hb d_M_status_0 rfl (lv_at hl 1 rfl) ?_
  obtain ⟨z3, hz3, hf⟩ := op_b hf
  refine cl_si X cw_M_223 hK hP hD hS hA hl (c_mo_noTask hz3) ⟨rfl, rfl, Nat.le_of_ble_eq_true rfl, Nat.le_of_ble_eq_true rfl⟩ rfl rfl (Nat.le_of_ble_eq_true rfl) d_M_status_1 (fun H locs hP hD hS => ?_)
  refine lv_if_eq (tgt := 11) hx hb d_M_status_4 (by decide) (fun hc => ?_) (fun hc => ?_)
  · replace hf := (if_pos hc).symm.trans hf
    refine lv_aload_n hx hb d_M_status_11 rfl (lv_at hl 0 rfl) ?_
    refine mg_statusOf X hK hP d_M_status_12 ?_
    refine lv_iload_n hx hb d_M_status_15 rfl (lv_at hl 1 rfl) ?_
    obtain ⟨hi4, hf⟩ := op_c hf
    refine ma_su (k := (x1.toNatClampNeg)) X hK hP hi4 rfl d_M_status_16 ?_
    have hq := Option.some.inj hf
    subst hq
    exact rt_i (r := (su (x1.toNatClampNeg))) X hr hlk hK rfl hP hD hS d_M_status_17
  · replace hf := (if_neg hc).symm.trans hf
    refine lv_iconst (v := (-1 : Int32)) hx hb d_M_status_7 (by decide) ?_
    refine lv_goto (tgt := 17) hx hb d_M_status_8 (by decide) ?_
    have hq := Option.some.inj hf
    subst hq
    exact rt_i (r := (-1 : Int32)) X hr hlk hK rfl hP hD hS d_M_status_17
set_option maxHeartbeats 4000000 in
set_option maxRecDepth 100000 in
theorem c_mo_cycles  {z : Int32} (hf : mo_cycles pa = some z) : co_i l my_M_cycles mb_M_cycles 1 .int rm_m_cycles D (ty_ cI cT) [.ref h0] (mw_ h0 h1 h2 h3 h4 h5 h6 h7 cI me rg so sv tl su qu wa ru pe re pn lo se pa sp iv) (mw_ h0 h1 h2 h3 h4 h5 h6 h7 cI me rg so sv tl su qu wa ru pe re pn lo se pa sp iv) z := by
  refine co_i_of (by decide) (Nat.le_of_ble_eq_true rfl) ?_
  intro p e s m below meth c A ls X hr hlk hK hP hD hS hA hl
  have hx := X.1
  have hb := X.2.1
  have hl : lv_has ls 1 [(0, .ref h0)] := hl
  unfold mo_cycles at hf
  refine lv_aload_n hx hb d_M_cycles_0 rfl (lv_at hl 0 rfl) ?_
  refine mg_passed X hK hP d_M_cycles_1 ?_
  have hq := Option.some.inj hf
  subst hq
  exact rt_i (r := pa) X hr hlk hK rfl hP hD hS d_M_cycles_4
set_option maxHeartbeats 4000000 in
set_option maxRecDepth 100000 in
theorem c_mo_ticks  {z : Int32} (hf : mo_ticks se = some z) : co_i l my_M_ticks mb_M_ticks 1 .int rm_m_ticks D (ty_ cI cT) [.ref h0] (mw_ h0 h1 h2 h3 h4 h5 h6 h7 cI me rg so sv tl su qu wa ru pe re pn lo se pa sp iv) (mw_ h0 h1 h2 h3 h4 h5 h6 h7 cI me rg so sv tl su qu wa ru pe re pn lo se pa sp iv) z := by
  refine co_i_of (by decide) (Nat.le_of_ble_eq_true rfl) ?_
  intro p e s m below meth c A ls X hr hlk hK hP hD hS hA hl
  have hx := X.1
  have hb := X.2.1
  have hl : lv_has ls 1 [(0, .ref h0)] := hl
  unfold mo_ticks at hf
  refine lv_aload_n hx hb d_M_ticks_0 rfl (lv_at hl 0 rfl) ?_
  refine mg_served X hK hP d_M_ticks_1 ?_
  have hq := Option.some.inj hf
  subst hq
  exact rt_i (r := se) X hr hlk hK rfl hP hD hS d_M_ticks_4
set_option maxHeartbeats 4000000 in
set_option maxRecDepth 100000 in
theorem c_mo_lost  {z : Int32} (hf : mo_lost pn lo = some z) : co_i l my_M_lost mb_M_lost 1 .int rm_m_lost D (ty_ cI cT) [.ref h0] (mw_ h0 h1 h2 h3 h4 h5 h6 h7 cI me rg so sv tl su qu wa ru pe re pn lo se pa sp iv) (mw_ h0 h1 h2 h3 h4 h5 h6 h7 cI me rg so sv tl su qu wa ru pe re pn lo se pa sp iv) z := by
  refine co_i_of (by decide) (Nat.le_of_ble_eq_true rfl) ?_
  intro p e s m below meth c A ls X hr hlk hK hP hD hS hA hl
  have hx := X.1
  have hb := X.2.1
  have hl : lv_has ls 1 [(0, .ref h0)] := hl
  unfold mo_lost at hf
  refine lv_aload_n hx hb d_M_lost_0 rfl (lv_at hl 0 rfl) ?_
  refine mg_lostTicks X hK hP d_M_lost_1 ?_
  refine lv_aload_n hx hb d_M_lost_4 rfl (lv_at hl 0 rfl) ?_
  refine mg_pending X hK hP d_M_lost_5 ?_
  refine lv_if_eq (tgt := 16) hx hb d_M_lost_8 (by decide) (fun hc => ?_) (fun hc => ?_)
  · replace hf := (if_pos hc).symm.trans hf
    refine lv_iconst (v := (0 : Int32)) hx hb d_M_lost_16 (by decide) ?_
    refine lv_iadd hx hb d_M_lost_17 ?_
    have hq := Option.some.inj hf
    subst hq
    exact rt_i (r := (lo + (0 : Int32))) X hr hlk hK rfl hP hD hS d_M_lost_18
  · replace hf := (if_neg hc).symm.trans hf
    refine lv_ldc (v := (100000 : Int32)) hx hb X.2.2.2.1 (X.2.2.2.2 _ wd_1) d_M_lost_11 ?_
    refine lv_goto (tgt := 17) hx hb d_M_lost_13 (by decide) ?_
    refine lv_iadd hx hb d_M_lost_17 ?_
    have hq := Option.some.inj hf
    subst hq
    exact rt_i (r := (lo + (100000 : Int32))) X hr hlk hK rfl hP hD hS d_M_lost_18
set_option maxHeartbeats 4000000 in
set_option maxRecDepth 100000 in
theorem c_mo_left  {z : Int32} (hf : mo_left pe re = some z) : co_i l my_M_left mb_M_left 1 .int rm_m_left D (ty_ cI cT) [.ref h0] (mw_ h0 h1 h2 h3 h4 h5 h6 h7 cI me rg so sv tl su qu wa ru pe re pn lo se pa sp iv) (mw_ h0 h1 h2 h3 h4 h5 h6 h7 cI me rg so sv tl su qu wa ru pe re pn lo se pa sp iv) z := by
  refine co_i_of (by decide) (Nat.le_of_ble_eq_true rfl) ?_
  intro p e s m below meth c A ls X hr hlk hK hP hD hS hA hl
  have hx := X.1
  have hb := X.2.1
  have hl : lv_has ls 1 [(0, .ref h0)] := hl
  unfold mo_left at hf
  refine lv_aload_n hx hb d_M_left_0 rfl (lv_at hl 0 rfl) ?_
  refine mg_period X hK hP d_M_left_1 ?_
  refine lv_if_ne (tgt := 11) hx hb d_M_left_4 (by decide) (fun hc => ?_) (fun hc => ?_)
  · replace hf := (if_neg hc).symm.trans hf
    refine lv_aload_n hx hb d_M_left_11 rfl (lv_at hl 0 rfl) ?_
    refine mg_rest X hK hP d_M_left_12 ?_
    have hq := Option.some.inj hf
    subst hq
    exact rt_i (r := re) X hr hlk hK rfl hP hD hS d_M_left_15
  · replace hf := (if_pos hc).symm.trans hf
    refine lv_iconst (v := (0 : Int32)) hx hb d_M_left_7 (by decide) ?_
    refine lv_goto (tgt := 15) hx hb d_M_left_8 (by decide) ?_
    have hq := Option.some.inj hf
    subst hq
    exact rt_i (r := (0 : Int32)) X hr hlk hK rfl hP hD hS d_M_left_15
end MODEL
