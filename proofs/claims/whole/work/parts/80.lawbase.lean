/-! The law. -/
section LAW
variable {p : Program} {l : Launch} {e : Env} {R : Room} {s : State} {m : MethodId} {args : Array Value} {below : List Frame} {meth : Method} {c : Code} {H : Heap} {locs : List Loc} {Q : State → Prop}
variable {cc bytes : ByteArray} {pc nL maxL idx n b cells slots : Nat} {ls : Array Slot} {rest st As : List Value} {D : va_G} {tys : List (ClassId × FieldType)} {A : Nat → Prop} {w w' ws : va_W} {own : String} {y : MethodName} {rt : FieldType} {rm : Room} {r : Int32} {lv : List (Nat × Value)}
theorem lc_i {ws2 : va_W} (X : CallFix p m c cc nL s args wg_all own) (cw : cw_V own idx y bytes maxL (some rt) n) (hK : va_K D cz_all tys s) (hP : va_P D cz_all ws H) (hD : va_D A ws) (hS : va_S A s.heap H locs) (hA : ∀ q, s.heap.size ≤ q → A q) (hZ : sa_ A s s.heap) (hl : lv_has ls nL lv) (hM : cs_i l y bytes maxL rt rm D tys (.ref b :: As) w w' r) (hR : rm_in rm R maxL) (hf : cells ≤ R.cells ∧ slots ≤ R.slots)
    (isC isR is2 : List Nat) (hC : isC.map (fun i => ws[i]?) = w.map some) (hRr : isR.map (fun i => ws[i]?) = (isR.filterMap (fun i => ws[i]?)).map some) (hn1 : va_nd isC = true) (hn2 : va_nd isR = true) (hdis : ∀ i ∈ isR, i ∉ isC) (h2 : is2.map (fun i => ((isR.filterMap (fun i => ws[i]?)) ++ w')[i]?) = ws2.map some) (hn3 : va_nd is2 = true)
    (q0 : Nat) {ci : Nat} {fs : List Value} {q : vw_C} (he : w[q0]? = some (b, .inr (ci, fs))) (hc : cz_all[ci]? = some q) (hq : q.1 = y.cls) (hst : st = As.reverse ++ .ref b :: rest) (hn : As.length = n) (hW : (rest.map fun v => v.category).sum ≤ 8) (hdg : decode cc pc = .ok (.invokevirtual idx, 3))
    (kk : ∀ (H1 : Heap) (locs1 : List Loc), va_P D cz_all ws2 H1 → va_D A ws2 → va_S A s.heap H1 locs1 → W p l e R s m args below meth c H1 locs1 cells slots Q (F0 m (pc + 3) ls (.int r :: rest))) : W p l e R s m args below meth c H locs cells slots Q (F0 m pc ls st) := by
  subst hst
  have hPc := P_of hP isC hC
  have hDc := hD.sub isC hn1 hC
  have hFc := va_free hD hS hA isC hC
  have hZc := sa_narrow (sa_kept hZ hS.2.1) hFc
  have hcell := va_recv hK hPc hc he
  rw [hq] at hcell
  refine va_calli (va_runV (As := As) (rest := rest) (b := b) X (hM H.size) (cw_V_use cw X hR) (pre_cV hK hPc hDc hZc hcell) rfl hn hl.1 rfl (lv_room hW) hdg hf) hS (fun q _ h => hFc q h) hFc (fun r' u t H1 locs1 ht hvm hpost hB hz1 hk1 hS1 => ?_)
  obtain ⟨hP1, hK1, hD1⟩ := hB
  cases hpost
  rw [ht] at hP1
  obtain ⟨hP2, hD2⟩ := va_join hP hD isC isR hC hRr hn2 hdis hk1 hFc hP1 hD1
  exact kk H1 locs1 (P_of hP2 is2 h2) (hD2.sub is2 hn3 h2) hS1
theorem lm_i {ws2 : va_W} (X : CallFix p m c cc nL s args wg_all own) (cw : cw_V own idx y bytes maxL (some rt) n) (hK : va_K D cz_all tys s) (hP : va_P D cz_all ws H) (hD : va_D A ws) (hS : va_S A s.heap H locs) (hA : ∀ q, s.heap.size ≤ q → A q) (hl : lv_has ls nL lv) (hM : co_i l y bytes maxL rt rm D tys (.ref b :: As) w w' r) (hR : rm_in rm R maxL) (hf : cells ≤ R.cells ∧ slots ≤ R.slots)
    (isC isR is2 : List Nat) (hC : isC.map (fun i => ws[i]?) = w.map some) (hRr : isR.map (fun i => ws[i]?) = (isR.filterMap (fun i => ws[i]?)).map some) (hn1 : va_nd isC = true) (hn2 : va_nd isR = true) (hdis : ∀ i ∈ isR, i ∉ isC) (h2 : is2.map (fun i => ((isR.filterMap (fun i => ws[i]?)) ++ w')[i]?) = ws2.map some) (hn3 : va_nd is2 = true)
    (q0 : Nat) {ci : Nat} {fs : List Value} {q : vw_C} (he : w[q0]? = some (b, .inr (ci, fs))) (hc : cz_all[ci]? = some q) (hq : q.1 = y.cls) (hst : st = As.reverse ++ .ref b :: rest) (hn : As.length = n) (hW : (rest.map fun v => v.category).sum ≤ 8) (hdg : decode cc pc = .ok (.invokevirtual idx, 3))
    (kk : ∀ (H1 : Heap) (locs1 : List Loc), va_P D cz_all ws2 H1 → va_D A ws2 → va_S A s.heap H1 locs1 → W p l e R s m args below meth c H1 locs1 cells slots Q (F0 m (pc + 3) ls (.int r :: rest))) : W p l e R s m args below meth c H locs cells slots Q (F0 m pc ls st) := by
  subst hst
  have hPc := P_of hP isC hC
  have hDc := hD.sub isC hn1 hC
  have hFc := va_free hD hS hA isC hC
  have hcell := va_recv hK hPc hc he
  rw [hq] at hcell
  refine va_calli (va_runV (As := As) (rest := rest) (b := b) X (hM H.size) (cw_V_use cw X hR) (pre_V hK hPc hDc hcell) rfl hn hl.1 rfl (lv_room hW) hdg hf) hS (fun q _ h => hFc q h) hFc (fun r' u t H1 locs1 ht hvm hpost hB hz1 hk1 hS1 => ?_)
  obtain ⟨hP1, hK1, hD1⟩ := hB
  cases hpost
  rw [ht] at hP1
  obtain ⟨hP2, hD2⟩ := va_join hP hD isC isR hC hRr hn2 hdis hk1 hFc hP1 hD1
  exact kk H1 locs1 (P_of hP2 is2 h2) (hD2.sub is2 hn3 h2) hS1
end LAW
theorem law_K {s : State} {args : Array Value} (hts : ∀ w ∈ lw_tbl, w.before args s = true) : ∃ (D : va_G) (cI cT : ClassId), va_K D cz_all (ty_ cI cT) s := by
  have ht : ∀ w ∈ wg_all, w.before args s = true := fun w hw => hts w (List.mem_filter.mp hw).1
  obtain ⟨c0, i0, k0⟩ := u_known ht fw_C (ht (.instantiable rn_C 1) (by decide +kernel))
  obtain ⟨c1, i1, k1⟩ := u_known ht fw_K (ht (.instantiable rn_K 6) (by decide +kernel))
  obtain ⟨c2, i2, k2⟩ := u_known ht fw_Y (ht (.instantiable rn_Y 1) (by decide +kernel))
  obtain ⟨c3, i3, k3⟩ := u_known ht fw_P (ht (.instantiable rn_P 5) (by decide +kernel))
  obtain ⟨c4, i4, k4⟩ := u_known ht fw_Q (ht (.instantiable rn_Q 2) (by decide +kernel))
  obtain ⟨c5, i5, k5⟩ := u_known ht fw_G (ht (.instantiable rn_G 9) (by decide +kernel))
  obtain ⟨c6, i6, k6⟩ := u_known ht fw_A (ht (.instantiable rn_A 5) (by decide +kernel))
  obtain ⟨c7, i7, k7⟩ := u_known ht fw_I (ht (.instantiable rn_I 6) (by decide +kernel))
  obtain ⟨c8, i8, k8⟩ := u_known ht fw_T (ht (.instantiable rn_T 4) (by decide +kernel))
  obtain ⟨c9, i9, k9⟩ := u_known ht fw_M (ht (.instantiable rn_M 17) (by decide +kernel))
  obtain ⟨cI, kA, comp, f1, f2, f3⟩ := Cond.arrayClass_spec (ht (.arrayClass .int) (by decide +kernel))
  obtain ⟨cm, cT, kT, g1, g2, g3, g4, g5⟩ := Cond.arrayOver_spec (hts (.arrayOver (.object "TaskComputer$Task")) (by decide +kernel))
  refine ⟨(fun k => match k with | 0 => c0 | 1 => c1 | 2 => c2 | 3 => c3 | 4 => c4 | 5 => c5 | 6 => c6 | 7 => c7 | 8 => c8 | _ => c9, fun k => match k with | 0 => i0 | 1 => i1 | 2 => i2 | 3 => i3 | 4 => i4 | 5 => i5 | 6 => i6 | 7 => i7 | 8 => i8 | _ => i9), cI, cT, ?_, ?_⟩
  · intro c q hq
    have hc : c < 10 := (List.getElem?_eq_some_iff.mp hq).1
    rcases (show c = 0 ∨ c = 1 ∨ c = 2 ∨ c = 3 ∨ c = 4 ∨ c = 5 ∨ c = 6 ∨ c = 7 ∨ c = 8 ∨ c = 9 by omega) with rfl | rfl | rfl | rfl | rfl | rfl | rfl | rfl | rfl | rfl
    · cases hq
      exact k0
    · cases hq
      exact k1
    · cases hq
      exact k2
    · cases hq
      exact k3
    · cases hq
      exact k4
    · cases hq
      exact k5
    · cases hq
      exact k6
    · cases hq
      exact k7
    · cases hq
      exact k8
    · cases hq
      exact k9
  · intro k q hq
    have hk : k < 2 := (List.getElem?_eq_some_iff.mp hq).1
    rcases (show k = 0 ∨ k = 1 by omega) with rfl | rfl
    · cases hq
      exact ⟨fun n z => ⟨fun k h => (by cases h), kA, f2, comp, f3⟩, f1⟩
    · cases hq
      exact ⟨fun N z => ⟨(fun k h => by cases h), kT, g3, cm, g4⟩, kT, cm, g3, g4, g1, g5⟩
theorem law_N {s : State} {args : Array Value} (hts : ∀ w ∈ lw_tbl, w.before args s = true) : nx_ s := ⟨va_AO.of (hts (.arrayOver (.object "TaskComputer$Task")) (by decide +kernel)), va_Nw.of rfl (hts (.methodLinkNest rn_T 9 my_Y_init rn_T) (by decide +kernel)), va_Nw.of rfl (hts (.methodLinkNest rn_T 12 my_G_init rn_T) (by decide +kernel)), va_Nw.of rfl (hts (.methodLinkNest rn_T 37 my_I_init rn_T) (by decide +kernel)), va_Nw.of rfl (hts (.methodLinkNest rn_K 22 my_G_init rn_T) (by decide +kernel))⟩
theorem law_Z {s : State} {b : Nat} (hts : ∀ w ∈ lw_tbl, w.before #[Value.ref b] s = true) (hg : (Jvm.Cond.and given_1 narrow_1).before #[Value.ref b] s = true) : sa_ (fun q => s.heap.size ≤ q) s s.heap := by
  have hs := flat_of_before _ hg
  have hA : ∀ a : Nat, a < s.heap.size → ¬ (fun q => s.heap.size ≤ q) a := fun a h => Nat.not_le.mpr h
  have harr : (Cond.arrayOf (.static "TaskComputer$Registers" "PUSHED" "[I") .int).before #[Value.ref b] s = true := hs _ (by decide +kernel)
  have hlen : (Cond.eq (.length (.static "TaskComputer$Registers" "PUSHED" "[I")) (.int 8)).before #[Value.ref b] s = true := hs _ (by decide +kernel)
  have e0 : (Cond.eq (.elem (.static "TaskComputer$Registers" "PUSHED" "[I") (.int 0)) (.int 10)).before #[Value.ref b] s = true := hs _ (by decide +kernel)
  have e1 : (Cond.eq (.elem (.static "TaskComputer$Registers" "PUSHED" "[I") (.int 1)) (.int 8)).before #[Value.ref b] s = true := hs _ (by decide +kernel)
  have e2 : (Cond.eq (.elem (.static "TaskComputer$Registers" "PUSHED" "[I") (.int 2)) (.int 9)).before #[Value.ref b] s = true := hs _ (by decide +kernel)
  have e3 : (Cond.eq (.elem (.static "TaskComputer$Registers" "PUSHED" "[I") (.int 3)) (.int 11)).before #[Value.ref b] s = true := hs _ (by decide +kernel)
  have e4 : (Cond.eq (.elem (.static "TaskComputer$Registers" "PUSHED" "[I") (.int 4)) (.int 1)).before #[Value.ref b] s = true := hs _ (by decide +kernel)
  have e5 : (Cond.eq (.elem (.static "TaskComputer$Registers" "PUSHED" "[I") (.int 5)) (.int 2)).before #[Value.ref b] s = true := hs _ (by decide +kernel)
  have e6 : (Cond.eq (.elem (.static "TaskComputer$Registers" "PUSHED" "[I") (.int 6)) (.int 3)).before #[Value.ref b] s = true := hs _ (by decide +kernel)
  have e7 : (Cond.eq (.elem (.static "TaskComputer$Registers" "PUSHED" "[I") (.int 7)) (.int 5)).before #[Value.ref b] s = true := hs _ (by decide +kernel)
  obtain ⟨t, ht, hT⟩ := va_Tof (N := 8) (f := fun j => .int (ps_i j)) (A := fun q => s.heap.size ≤ q) (by decide) harr (va_eqt hlen) (by
    intro j hj
    rcases (show j = 0 ∨ j = 1 ∨ j = 2 ∨ j = 3 ∨ j = 4 ∨ j = 5 ∨ j = 6 ∨ j = 7 by omega) with rfl | rfl | rfl | rfl | rfl | rfl | rfl | rfl
    · exact va_eqt e0
    · exact va_eqt e1
    · exact va_eqt e2
    · exact va_eqt e3
    · exact va_eqt e4
    · exact va_eqt e5
    · exact va_eqt e6
    · exact va_eqt e7
    ) hA
  exact ⟨t, va_Zref (hts (.laysStatic "TaskComputer$Registers" "PUSHED" "[I") (by decide +kernel)) (hts (.initialized "TaskComputer$Registers") (by decide +kernel)) ht hA, hT⟩
theorem d_L_0 : decode code 0 = .ok (.new 7, 3) := by decide +kernel
theorem d_L_3 : decode code 3 = .ok (.dup, 1) := by decide +kernel
theorem d_L_4 : decode code 4 = .ok (.invokespecial 9, 3) := by decide +kernel
theorem d_L_7 : decode code 7 = .ok (.astore_n 1, 1) := by decide +kernel
theorem d_L_8 : decode code 8 = .ok (.new 10, 3) := by decide +kernel
theorem d_L_11 : decode code 11 = .ok (.dup, 1) := by decide +kernel
theorem d_L_12 : decode code 12 = .ok (.invokespecial 12, 3) := by decide +kernel
theorem d_L_15 : decode code 15 = .ok (.astore_n 2, 1) := by decide +kernel
theorem d_L_16 : decode code 16 = .ok (.iconst 0, 1) := by decide +kernel
theorem d_L_17 : decode code 17 = .ok (.istore_n 3, 1) := by decide +kernel
theorem d_L_18 : decode code 18 = .ok (.iload_n 3, 1) := by decide +kernel
theorem d_L_19 : decode code 19 = .ok (.aload_n 0, 1) := by decide +kernel
theorem d_L_20 : decode code 20 = .ok (.arraylength, 1) := by decide +kernel
theorem d_L_21 : decode code 21 = .ok (.iconst 4, 1) := by decide +kernel
theorem d_L_22 : decode code 22 = .ok (.isub, 1) := by decide +kernel
theorem d_L_23 : decode code 23 = .ok (.if_icmp .gt 436, 3) := by decide +kernel
theorem d_L_26 : decode code 26 = .ok (.aload_n 0, 1) := by decide +kernel
theorem d_L_27 : decode code 27 = .ok (.iload_n 3, 1) := by decide +kernel
theorem d_L_28 : decode code 28 = .ok (.iaload, 1) := by decide +kernel
theorem d_L_29 : decode code 29 = .ok (.bipush 15, 2) := by decide +kernel
theorem d_L_31 : decode code 31 = .ok (.iand, 1) := by decide +kernel
theorem d_L_32 : decode code 32 = .ok (.tableswitch 421 0 14 #[76, 109, 132, 175, 198, 221, 244, 267, 300, 323, 346, 369, 382, 395, 408], 76) := by decide +kernel
theorem d_L_108 : decode code 108 = .ok (.aload_n 1, 1) := by decide +kernel
theorem d_L_109 : decode code 109 = .ok (.aload_n 0, 1) := by decide +kernel
theorem d_L_110 : decode code 110 = .ok (.iload_n 3, 1) := by decide +kernel
theorem d_L_111 : decode code 111 = .ok (.iconst 1, 1) := by decide +kernel
theorem d_L_112 : decode code 112 = .ok (.iadd, 1) := by decide +kernel
theorem d_L_113 : decode code 113 = .ok (.iaload, 1) := by decide +kernel
theorem d_L_114 : decode code 114 = .ok (.aload_n 0, 1) := by decide +kernel
theorem d_L_115 : decode code 115 = .ok (.iload_n 3, 1) := by decide +kernel
theorem d_L_116 : decode code 116 = .ok (.iconst 2, 1) := by decide +kernel
theorem d_L_117 : decode code 117 = .ok (.iadd, 1) := by decide +kernel
theorem d_L_118 : decode code 118 = .ok (.iaload, 1) := by decide +kernel
theorem d_L_119 : decode code 119 = .ok (.invokevirtual 13, 3) := by decide +kernel
theorem d_L_122 : decode code 122 = .ok (.aload_n 2, 1) := by decide +kernel
theorem d_L_123 : decode code 123 = .ok (.aload_n 0, 1) := by decide +kernel
theorem d_L_124 : decode code 124 = .ok (.iload_n 3, 1) := by decide +kernel
theorem d_L_125 : decode code 125 = .ok (.iconst 1, 1) := by decide +kernel
theorem d_L_126 : decode code 126 = .ok (.iadd, 1) := by decide +kernel
theorem d_L_127 : decode code 127 = .ok (.iaload, 1) := by decide +kernel
theorem d_L_128 : decode code 128 = .ok (.aload_n 0, 1) := by decide +kernel
theorem d_L_129 : decode code 129 = .ok (.iload_n 3, 1) := by decide +kernel
theorem d_L_130 : decode code 130 = .ok (.iconst 2, 1) := by decide +kernel
theorem d_L_131 : decode code 131 = .ok (.iadd, 1) := by decide +kernel
theorem d_L_132 : decode code 132 = .ok (.iaload, 1) := by decide +kernel
theorem d_L_133 : decode code 133 = .ok (.invokevirtual 17, 3) := by decide +kernel
theorem d_L_136 : decode code 136 = .ok (.if_icmp .eq 317, 3) := by decide +kernel
theorem d_L_139 : decode code 139 = .ok (.iconst 0, 1) := by decide +kernel
theorem d_L_140 : decode code 140 = .ok (.ireturn, 1) := by decide +kernel
theorem d_L_141 : decode code 141 = .ok (.aload_n 1, 1) := by decide +kernel
theorem d_L_142 : decode code 142 = .ok (.aload_n 0, 1) := by decide +kernel
theorem d_L_143 : decode code 143 = .ok (.iload_n 3, 1) := by decide +kernel
theorem d_L_144 : decode code 144 = .ok (.iconst 1, 1) := by decide +kernel
theorem d_L_145 : decode code 145 = .ok (.iadd, 1) := by decide +kernel
theorem d_L_146 : decode code 146 = .ok (.iaload, 1) := by decide +kernel
theorem d_L_147 : decode code 147 = .ok (.invokevirtual 18, 3) := by decide +kernel
theorem d_L_150 : decode code 150 = .ok (.aload_n 2, 1) := by decide +kernel
theorem d_L_151 : decode code 151 = .ok (.aload_n 0, 1) := by decide +kernel
theorem d_L_152 : decode code 152 = .ok (.iload_n 3, 1) := by decide +kernel
theorem d_L_153 : decode code 153 = .ok (.iconst 1, 1) := by decide +kernel
theorem d_L_154 : decode code 154 = .ok (.iadd, 1) := by decide +kernel
theorem d_L_155 : decode code 155 = .ok (.iaload, 1) := by decide +kernel
theorem d_L_156 : decode code 156 = .ok (.invokevirtual 22, 3) := by decide +kernel
theorem d_L_159 : decode code 159 = .ok (.if_icmp .eq 294, 3) := by decide +kernel
theorem d_L_162 : decode code 162 = .ok (.iconst 0, 1) := by decide +kernel
theorem d_L_163 : decode code 163 = .ok (.ireturn, 1) := by decide +kernel
theorem d_L_164 : decode code 164 = .ok (.aload_n 1, 1) := by decide +kernel
theorem d_L_165 : decode code 165 = .ok (.aload_n 0, 1) := by decide +kernel
theorem d_L_166 : decode code 166 = .ok (.iload_n 3, 1) := by decide +kernel
theorem d_L_167 : decode code 167 = .ok (.iconst 1, 1) := by decide +kernel
theorem d_L_168 : decode code 168 = .ok (.iadd, 1) := by decide +kernel
theorem d_L_169 : decode code 169 = .ok (.iaload, 1) := by decide +kernel
theorem d_L_170 : decode code 170 = .ok (.aload_n 0, 1) := by decide +kernel
theorem d_L_171 : decode code 171 = .ok (.iload_n 3, 1) := by decide +kernel
theorem d_L_172 : decode code 172 = .ok (.iconst 2, 1) := by decide +kernel
theorem d_L_173 : decode code 173 = .ok (.iadd, 1) := by decide +kernel
theorem d_L_174 : decode code 174 = .ok (.iaload, 1) := by decide +kernel
theorem d_L_175 : decode code 175 = .ok (.aload_n 0, 1) := by decide +kernel
theorem d_L_176 : decode code 176 = .ok (.iload_n 3, 1) := by decide +kernel
theorem d_L_177 : decode code 177 = .ok (.iconst 3, 1) := by decide +kernel
theorem d_L_178 : decode code 178 = .ok (.iadd, 1) := by decide +kernel
theorem d_L_179 : decode code 179 = .ok (.iaload, 1) := by decide +kernel
theorem d_L_180 : decode code 180 = .ok (.invokevirtual 23, 3) := by decide +kernel
theorem d_L_183 : decode code 183 = .ok (.aload_n 2, 1) := by decide +kernel
theorem d_L_184 : decode code 184 = .ok (.aload_n 0, 1) := by decide +kernel
theorem d_L_185 : decode code 185 = .ok (.iload_n 3, 1) := by decide +kernel
theorem d_L_186 : decode code 186 = .ok (.iconst 1, 1) := by decide +kernel
theorem d_L_187 : decode code 187 = .ok (.iadd, 1) := by decide +kernel
theorem d_L_188 : decode code 188 = .ok (.iaload, 1) := by decide +kernel
theorem d_L_189 : decode code 189 = .ok (.aload_n 0, 1) := by decide +kernel
theorem d_L_190 : decode code 190 = .ok (.iload_n 3, 1) := by decide +kernel
theorem d_L_191 : decode code 191 = .ok (.iconst 2, 1) := by decide +kernel
theorem d_L_192 : decode code 192 = .ok (.iadd, 1) := by decide +kernel
theorem d_L_193 : decode code 193 = .ok (.iaload, 1) := by decide +kernel
theorem d_L_194 : decode code 194 = .ok (.aload_n 0, 1) := by decide +kernel
theorem d_L_195 : decode code 195 = .ok (.iload_n 3, 1) := by decide +kernel
theorem d_L_196 : decode code 196 = .ok (.iconst 3, 1) := by decide +kernel
theorem d_L_197 : decode code 197 = .ok (.iadd, 1) := by decide +kernel
theorem d_L_198 : decode code 198 = .ok (.iaload, 1) := by decide +kernel
theorem d_L_199 : decode code 199 = .ok (.invokevirtual 27, 3) := by decide +kernel
theorem d_L_202 : decode code 202 = .ok (.if_icmp .eq 251, 3) := by decide +kernel
theorem d_L_205 : decode code 205 = .ok (.iconst 0, 1) := by decide +kernel
theorem d_L_206 : decode code 206 = .ok (.ireturn, 1) := by decide +kernel
theorem d_L_207 : decode code 207 = .ok (.aload_n 1, 1) := by decide +kernel
theorem d_L_208 : decode code 208 = .ok (.aload_n 0, 1) := by decide +kernel
theorem d_L_209 : decode code 209 = .ok (.iload_n 3, 1) := by decide +kernel
theorem d_L_210 : decode code 210 = .ok (.iconst 1, 1) := by decide +kernel
theorem d_L_211 : decode code 211 = .ok (.iadd, 1) := by decide +kernel
theorem d_L_212 : decode code 212 = .ok (.iaload, 1) := by decide +kernel
theorem d_L_213 : decode code 213 = .ok (.invokevirtual 28, 3) := by decide +kernel
theorem d_L_216 : decode code 216 = .ok (.aload_n 2, 1) := by decide +kernel
theorem d_L_217 : decode code 217 = .ok (.aload_n 0, 1) := by decide +kernel
theorem d_L_218 : decode code 218 = .ok (.iload_n 3, 1) := by decide +kernel
theorem d_L_219 : decode code 219 = .ok (.iconst 1, 1) := by decide +kernel
theorem d_L_220 : decode code 220 = .ok (.iadd, 1) := by decide +kernel
theorem d_L_221 : decode code 221 = .ok (.iaload, 1) := by decide +kernel
theorem d_L_222 : decode code 222 = .ok (.invokevirtual 32, 3) := by decide +kernel
theorem d_L_225 : decode code 225 = .ok (.if_icmp .eq 228, 3) := by decide +kernel
theorem d_L_228 : decode code 228 = .ok (.iconst 0, 1) := by decide +kernel
theorem d_L_229 : decode code 229 = .ok (.ireturn, 1) := by decide +kernel
theorem d_L_230 : decode code 230 = .ok (.aload_n 1, 1) := by decide +kernel
theorem d_L_231 : decode code 231 = .ok (.aload_n 0, 1) := by decide +kernel
theorem d_L_232 : decode code 232 = .ok (.iload_n 3, 1) := by decide +kernel
theorem d_L_233 : decode code 233 = .ok (.iconst 1, 1) := by decide +kernel
theorem d_L_234 : decode code 234 = .ok (.iadd, 1) := by decide +kernel
theorem d_L_235 : decode code 235 = .ok (.iaload, 1) := by decide +kernel
theorem d_L_236 : decode code 236 = .ok (.invokevirtual 33, 3) := by decide +kernel
theorem d_L_239 : decode code 239 = .ok (.aload_n 2, 1) := by decide +kernel
theorem d_L_240 : decode code 240 = .ok (.aload_n 0, 1) := by decide +kernel
theorem d_L_241 : decode code 241 = .ok (.iload_n 3, 1) := by decide +kernel
theorem d_L_242 : decode code 242 = .ok (.iconst 1, 1) := by decide +kernel
theorem d_L_243 : decode code 243 = .ok (.iadd, 1) := by decide +kernel
theorem d_L_244 : decode code 244 = .ok (.iaload, 1) := by decide +kernel
theorem d_L_245 : decode code 245 = .ok (.invokevirtual 36, 3) := by decide +kernel
theorem d_L_248 : decode code 248 = .ok (.if_icmp .eq 205, 3) := by decide +kernel
theorem d_L_251 : decode code 251 = .ok (.iconst 0, 1) := by decide +kernel
theorem d_L_252 : decode code 252 = .ok (.ireturn, 1) := by decide +kernel
theorem d_L_253 : decode code 253 = .ok (.aload_n 1, 1) := by decide +kernel
theorem d_L_254 : decode code 254 = .ok (.aload_n 0, 1) := by decide +kernel
theorem d_L_255 : decode code 255 = .ok (.iload_n 3, 1) := by decide +kernel
theorem d_L_256 : decode code 256 = .ok (.iconst 1, 1) := by decide +kernel
theorem d_L_257 : decode code 257 = .ok (.iadd, 1) := by decide +kernel
theorem d_L_258 : decode code 258 = .ok (.iaload, 1) := by decide +kernel
theorem d_L_259 : decode code 259 = .ok (.invokevirtual 37, 3) := by decide +kernel
theorem d_L_262 : decode code 262 = .ok (.aload_n 2, 1) := by decide +kernel
theorem d_L_263 : decode code 263 = .ok (.aload_n 0, 1) := by decide +kernel
theorem d_L_264 : decode code 264 = .ok (.iload_n 3, 1) := by decide +kernel
theorem d_L_265 : decode code 265 = .ok (.iconst 1, 1) := by decide +kernel
theorem d_L_266 : decode code 266 = .ok (.iadd, 1) := by decide +kernel
theorem d_L_267 : decode code 267 = .ok (.iaload, 1) := by decide +kernel
theorem d_L_268 : decode code 268 = .ok (.invokevirtual 40, 3) := by decide +kernel
theorem d_L_271 : decode code 271 = .ok (.if_icmp .eq 182, 3) := by decide +kernel
theorem d_L_274 : decode code 274 = .ok (.iconst 0, 1) := by decide +kernel
theorem d_L_275 : decode code 275 = .ok (.ireturn, 1) := by decide +kernel
theorem d_L_276 : decode code 276 = .ok (.aload_n 1, 1) := by decide +kernel
theorem d_L_277 : decode code 277 = .ok (.aload_n 0, 1) := by decide +kernel
theorem d_L_278 : decode code 278 = .ok (.iload_n 3, 1) := by decide +kernel
theorem d_L_279 : decode code 279 = .ok (.iconst 1, 1) := by decide +kernel
theorem d_L_280 : decode code 280 = .ok (.iadd, 1) := by decide +kernel
theorem d_L_281 : decode code 281 = .ok (.iaload, 1) := by decide +kernel
theorem d_L_282 : decode code 282 = .ok (.invokevirtual 41, 3) := by decide +kernel
theorem d_L_285 : decode code 285 = .ok (.aload_n 2, 1) := by decide +kernel
theorem d_L_286 : decode code 286 = .ok (.aload_n 0, 1) := by decide +kernel
theorem d_L_287 : decode code 287 = .ok (.iload_n 3, 1) := by decide +kernel
theorem d_L_288 : decode code 288 = .ok (.iconst 1, 1) := by decide +kernel
theorem d_L_289 : decode code 289 = .ok (.iadd, 1) := by decide +kernel
theorem d_L_290 : decode code 290 = .ok (.iaload, 1) := by decide +kernel
theorem d_L_291 : decode code 291 = .ok (.invokevirtual 44, 3) := by decide +kernel
theorem d_L_294 : decode code 294 = .ok (.if_icmp .eq 159, 3) := by decide +kernel
theorem d_L_297 : decode code 297 = .ok (.iconst 0, 1) := by decide +kernel
theorem d_L_298 : decode code 298 = .ok (.ireturn, 1) := by decide +kernel
theorem d_L_299 : decode code 299 = .ok (.aload_n 1, 1) := by decide +kernel
theorem d_L_300 : decode code 300 = .ok (.aload_n 0, 1) := by decide +kernel
theorem d_L_301 : decode code 301 = .ok (.iload_n 3, 1) := by decide +kernel
theorem d_L_302 : decode code 302 = .ok (.iconst 1, 1) := by decide +kernel
theorem d_L_303 : decode code 303 = .ok (.iadd, 1) := by decide +kernel
theorem d_L_304 : decode code 304 = .ok (.iaload, 1) := by decide +kernel
theorem d_L_305 : decode code 305 = .ok (.aload_n 0, 1) := by decide +kernel
theorem d_L_306 : decode code 306 = .ok (.iload_n 3, 1) := by decide +kernel
theorem d_L_307 : decode code 307 = .ok (.iconst 2, 1) := by decide +kernel
theorem d_L_308 : decode code 308 = .ok (.iadd, 1) := by decide +kernel
theorem d_L_309 : decode code 309 = .ok (.iaload, 1) := by decide +kernel
theorem d_L_310 : decode code 310 = .ok (.invokevirtual 45, 3) := by decide +kernel
theorem d_L_313 : decode code 313 = .ok (.aload_n 2, 1) := by decide +kernel
theorem d_L_314 : decode code 314 = .ok (.aload_n 0, 1) := by decide +kernel
theorem d_L_315 : decode code 315 = .ok (.iload_n 3, 1) := by decide +kernel
theorem d_L_316 : decode code 316 = .ok (.iconst 1, 1) := by decide +kernel
theorem d_L_317 : decode code 317 = .ok (.iadd, 1) := by decide +kernel
theorem d_L_318 : decode code 318 = .ok (.iaload, 1) := by decide +kernel
theorem d_L_319 : decode code 319 = .ok (.aload_n 0, 1) := by decide +kernel
theorem d_L_320 : decode code 320 = .ok (.iload_n 3, 1) := by decide +kernel
theorem d_L_321 : decode code 321 = .ok (.iconst 2, 1) := by decide +kernel
theorem d_L_322 : decode code 322 = .ok (.iadd, 1) := by decide +kernel
theorem d_L_323 : decode code 323 = .ok (.iaload, 1) := by decide +kernel
theorem d_L_324 : decode code 324 = .ok (.invokevirtual 48, 3) := by decide +kernel
theorem d_L_327 : decode code 327 = .ok (.if_icmp .eq 126, 3) := by decide +kernel
theorem d_L_330 : decode code 330 = .ok (.iconst 0, 1) := by decide +kernel
theorem d_L_331 : decode code 331 = .ok (.ireturn, 1) := by decide +kernel
theorem d_L_332 : decode code 332 = .ok (.aload_n 1, 1) := by decide +kernel
theorem d_L_333 : decode code 333 = .ok (.aload_n 0, 1) := by decide +kernel
theorem d_L_334 : decode code 334 = .ok (.iload_n 3, 1) := by decide +kernel
theorem d_L_335 : decode code 335 = .ok (.iconst 1, 1) := by decide +kernel
theorem d_L_336 : decode code 336 = .ok (.iadd, 1) := by decide +kernel
theorem d_L_337 : decode code 337 = .ok (.iaload, 1) := by decide +kernel
theorem d_L_338 : decode code 338 = .ok (.invokevirtual 49, 3) := by decide +kernel
theorem d_L_341 : decode code 341 = .ok (.aload_n 2, 1) := by decide +kernel
theorem d_L_342 : decode code 342 = .ok (.aload_n 0, 1) := by decide +kernel
theorem d_L_343 : decode code 343 = .ok (.iload_n 3, 1) := by decide +kernel
theorem d_L_344 : decode code 344 = .ok (.iconst 1, 1) := by decide +kernel
theorem d_L_345 : decode code 345 = .ok (.iadd, 1) := by decide +kernel
theorem d_L_346 : decode code 346 = .ok (.iaload, 1) := by decide +kernel
theorem d_L_347 : decode code 347 = .ok (.invokevirtual 52, 3) := by decide +kernel
theorem d_L_350 : decode code 350 = .ok (.if_icmp .eq 103, 3) := by decide +kernel
theorem d_L_353 : decode code 353 = .ok (.iconst 0, 1) := by decide +kernel
theorem d_L_354 : decode code 354 = .ok (.ireturn, 1) := by decide +kernel
theorem d_L_355 : decode code 355 = .ok (.aload_n 1, 1) := by decide +kernel
theorem d_L_356 : decode code 356 = .ok (.aload_n 0, 1) := by decide +kernel
theorem d_L_357 : decode code 357 = .ok (.iload_n 3, 1) := by decide +kernel
theorem d_L_358 : decode code 358 = .ok (.iconst 1, 1) := by decide +kernel
theorem d_L_359 : decode code 359 = .ok (.iadd, 1) := by decide +kernel
theorem d_L_360 : decode code 360 = .ok (.iaload, 1) := by decide +kernel
theorem d_L_361 : decode code 361 = .ok (.invokevirtual 53, 3) := by decide +kernel
theorem d_L_364 : decode code 364 = .ok (.aload_n 2, 1) := by decide +kernel
theorem d_L_365 : decode code 365 = .ok (.aload_n 0, 1) := by decide +kernel
theorem d_L_366 : decode code 366 = .ok (.iload_n 3, 1) := by decide +kernel
theorem d_L_367 : decode code 367 = .ok (.iconst 1, 1) := by decide +kernel
theorem d_L_368 : decode code 368 = .ok (.iadd, 1) := by decide +kernel
theorem d_L_369 : decode code 369 = .ok (.iaload, 1) := by decide +kernel
theorem d_L_370 : decode code 370 = .ok (.invokevirtual 56, 3) := by decide +kernel
theorem d_L_373 : decode code 373 = .ok (.if_icmp .eq 80, 3) := by decide +kernel
theorem d_L_376 : decode code 376 = .ok (.iconst 0, 1) := by decide +kernel
theorem d_L_377 : decode code 377 = .ok (.ireturn, 1) := by decide +kernel
theorem d_L_378 : decode code 378 = .ok (.aload_n 1, 1) := by decide +kernel
theorem d_L_379 : decode code 379 = .ok (.aload_n 0, 1) := by decide +kernel
theorem d_L_380 : decode code 380 = .ok (.iload_n 3, 1) := by decide +kernel
theorem d_L_381 : decode code 381 = .ok (.iconst 1, 1) := by decide +kernel
theorem d_L_382 : decode code 382 = .ok (.iadd, 1) := by decide +kernel
theorem d_L_383 : decode code 383 = .ok (.iaload, 1) := by decide +kernel
theorem d_L_384 : decode code 384 = .ok (.invokevirtual 57, 3) := by decide +kernel
theorem d_L_387 : decode code 387 = .ok (.aload_n 2, 1) := by decide +kernel
theorem d_L_388 : decode code 388 = .ok (.aload_n 0, 1) := by decide +kernel
theorem d_L_389 : decode code 389 = .ok (.iload_n 3, 1) := by decide +kernel
theorem d_L_390 : decode code 390 = .ok (.iconst 1, 1) := by decide +kernel
theorem d_L_391 : decode code 391 = .ok (.iadd, 1) := by decide +kernel
theorem d_L_392 : decode code 392 = .ok (.iaload, 1) := by decide +kernel
theorem d_L_393 : decode code 393 = .ok (.invokevirtual 60, 3) := by decide +kernel
theorem d_L_396 : decode code 396 = .ok (.if_icmp .eq 57, 3) := by decide +kernel
theorem d_L_399 : decode code 399 = .ok (.iconst 0, 1) := by decide +kernel
theorem d_L_400 : decode code 400 = .ok (.ireturn, 1) := by decide +kernel
theorem d_L_401 : decode code 401 = .ok (.aload_n 1, 1) := by decide +kernel
theorem d_L_402 : decode code 402 = .ok (.invokevirtual 61, 3) := by decide +kernel
theorem d_L_405 : decode code 405 = .ok (.aload_n 2, 1) := by decide +kernel
theorem d_L_406 : decode code 406 = .ok (.invokevirtual 65, 3) := by decide +kernel
theorem d_L_409 : decode code 409 = .ok (.if_icmp .eq 44, 3) := by decide +kernel
theorem d_L_412 : decode code 412 = .ok (.iconst 0, 1) := by decide +kernel
theorem d_L_413 : decode code 413 = .ok (.ireturn, 1) := by decide +kernel
theorem d_L_414 : decode code 414 = .ok (.aload_n 1, 1) := by decide +kernel
theorem d_L_415 : decode code 415 = .ok (.invokevirtual 66, 3) := by decide +kernel
theorem d_L_418 : decode code 418 = .ok (.aload_n 2, 1) := by decide +kernel
theorem d_L_419 : decode code 419 = .ok (.invokevirtual 69, 3) := by decide +kernel
theorem d_L_422 : decode code 422 = .ok (.if_icmp .eq 31, 3) := by decide +kernel
theorem d_L_425 : decode code 425 = .ok (.iconst 0, 1) := by decide +kernel
theorem d_L_426 : decode code 426 = .ok (.ireturn, 1) := by decide +kernel
theorem d_L_427 : decode code 427 = .ok (.aload_n 1, 1) := by decide +kernel
theorem d_L_428 : decode code 428 = .ok (.invokevirtual 70, 3) := by decide +kernel
theorem d_L_431 : decode code 431 = .ok (.aload_n 2, 1) := by decide +kernel
theorem d_L_432 : decode code 432 = .ok (.invokevirtual 73, 3) := by decide +kernel
theorem d_L_435 : decode code 435 = .ok (.if_icmp .eq 18, 3) := by decide +kernel
theorem d_L_438 : decode code 438 = .ok (.iconst 0, 1) := by decide +kernel
theorem d_L_439 : decode code 439 = .ok (.ireturn, 1) := by decide +kernel
theorem d_L_440 : decode code 440 = .ok (.aload_n 1, 1) := by decide +kernel
theorem d_L_441 : decode code 441 = .ok (.invokevirtual 74, 3) := by decide +kernel
theorem d_L_444 : decode code 444 = .ok (.aload_n 2, 1) := by decide +kernel
theorem d_L_445 : decode code 445 = .ok (.invokevirtual 77, 3) := by decide +kernel
theorem d_L_448 : decode code 448 = .ok (.if_icmp .eq 5, 3) := by decide +kernel
theorem d_L_451 : decode code 451 = .ok (.iconst 0, 1) := by decide +kernel
theorem d_L_452 : decode code 452 = .ok (.ireturn, 1) := by decide +kernel
theorem d_L_453 : decode code 453 = .ok (.iinc 3 4, 3) := by decide +kernel
theorem d_L_456 : decode code 456 = .ok (.goto (-438), 3) := by decide +kernel
theorem d_L_459 : decode code 459 = .ok (.iconst 1, 1) := by decide +kernel
theorem d_L_460 : decode code 460 = .ok (.ireturn, 1) := by decide +kernel
theorem cl_T_poke : cw_V rn_L 13 my_T_poke mb_T_poke 4 (some .int) 2 := ⟨by decide +kernel, by decide +kernel, by decide +kernel, by decide +kernel, by decide +kernel, by decide +kernel, by decide +kernel, by decide +kernel⟩
theorem cl_M_poke : cw_V rn_L 17 my_M_poke mb_M_poke 4 (some .int) 2 := ⟨by decide +kernel, by decide +kernel, by decide +kernel, by decide +kernel, by decide +kernel, by decide +kernel, by decide +kernel, by decide +kernel⟩
theorem cl_T_peek : cw_V rn_L 18 my_T_peek mb_T_peek 2 (some .int) 1 := ⟨by decide +kernel, by decide +kernel, by decide +kernel, by decide +kernel, by decide +kernel, by decide +kernel, by decide +kernel, by decide +kernel⟩
theorem cl_M_peek : cw_V rn_L 22 my_M_peek mb_M_peek 2 (some .int) 1 := ⟨by decide +kernel, by decide +kernel, by decide +kernel, by decide +kernel, by decide +kernel, by decide +kernel, by decide +kernel, by decide +kernel⟩
theorem cl_T_start : cw_V rn_L 23 my_T_start mb_T_start 5 (some .boolean) 3 := ⟨by decide +kernel, by decide +kernel, by decide +kernel, by decide +kernel, by decide +kernel, by decide +kernel, by decide +kernel, by decide +kernel⟩
theorem cl_M_start : cw_V rn_L 27 my_M_start mb_M_start 4 (some .boolean) 3 := ⟨by decide +kernel, by decide +kernel, by decide +kernel, by decide +kernel, by decide +kernel, by decide +kernel, by decide +kernel, by decide +kernel⟩
theorem cl_T_stop : cw_V rn_L 28 my_T_stop mb_T_stop 3 (some .boolean) 1 := ⟨by decide +kernel, by decide +kernel, by decide +kernel, by decide +kernel, by decide +kernel, by decide +kernel, by decide +kernel, by decide +kernel⟩
theorem cl_M_stop : cw_V rn_L 32 my_M_stop mb_M_stop 2 (some .boolean) 1 := ⟨by decide +kernel, by decide +kernel, by decide +kernel, by decide +kernel, by decide +kernel, by decide +kernel, by decide +kernel, by decide +kernel⟩
theorem cl_T_timer : cw_V rn_L 33 my_T_timer mb_T_timer 2 (some .boolean) 1 := ⟨by decide +kernel, by decide +kernel, by decide +kernel, by decide +kernel, by decide +kernel, by decide +kernel, by decide +kernel, by decide +kernel⟩
theorem cl_M_timer : cw_V rn_L 36 my_M_timer mb_M_timer 2 (some .boolean) 1 := ⟨by decide +kernel, by decide +kernel, by decide +kernel, by decide +kernel, by decide +kernel, by decide +kernel, by decide +kernel, by decide +kernel⟩
theorem cl_T_run : cw_V rn_L 37 my_T_run mb_T_run 3 (some .int) 1 := ⟨by decide +kernel, by decide +kernel, by decide +kernel, by decide +kernel, by decide +kernel, by decide +kernel, by decide +kernel, by decide +kernel⟩
theorem cl_M_run : cw_V rn_L 40 my_M_run mb_M_run 4 (some .int) 1 := ⟨by decide +kernel, by decide +kernel, by decide +kernel, by decide +kernel, by decide +kernel, by decide +kernel, by decide +kernel, by decide +kernel⟩
theorem cl_T_state : cw_V rn_L 41 my_T_state mb_T_state 3 (some .int) 1 := ⟨by decide +kernel, by decide +kernel, by decide +kernel, by decide +kernel, by decide +kernel, by decide +kernel, by decide +kernel, by decide +kernel⟩
theorem cl_M_state : cw_V rn_L 44 my_M_state mb_M_state 2 (some .int) 1 := ⟨by decide +kernel, by decide +kernel, by decide +kernel, by decide +kernel, by decide +kernel, by decide +kernel, by decide +kernel, by decide +kernel⟩
theorem cl_T_register : cw_V rn_L 45 my_T_register mb_T_register 4 (some .int) 2 := ⟨by decide +kernel, by decide +kernel, by decide +kernel, by decide +kernel, by decide +kernel, by decide +kernel, by decide +kernel, by decide +kernel⟩
theorem cl_M_register : cw_V rn_L 48 my_M_register mb_M_register 3 (some .int) 2 := ⟨by decide +kernel, by decide +kernel, by decide +kernel, by decide +kernel, by decide +kernel, by decide +kernel, by decide +kernel, by decide +kernel⟩
theorem cl_T_queued : cw_V rn_L 49 my_T_queued mb_T_queued 2 (some .int) 1 := ⟨by decide +kernel, by decide +kernel, by decide +kernel, by decide +kernel, by decide +kernel, by decide +kernel, by decide +kernel, by decide +kernel⟩
theorem cl_M_queued : cw_V rn_L 52 my_M_queued mb_M_queued 2 (some .int) 1 := ⟨by decide +kernel, by decide +kernel, by decide +kernel, by decide +kernel, by decide +kernel, by decide +kernel, by decide +kernel, by decide +kernel⟩
theorem cl_T_sleeps : cw_V rn_L 53 my_T_sleeps mb_T_sleeps 3 (some .int) 1 := ⟨by decide +kernel, by decide +kernel, by decide +kernel, by decide +kernel, by decide +kernel, by decide +kernel, by decide +kernel, by decide +kernel⟩
theorem cl_M_sleeps : cw_V rn_L 56 my_M_sleeps mb_M_sleeps 2 (some .int) 1 := ⟨by decide +kernel, by decide +kernel, by decide +kernel, by decide +kernel, by decide +kernel, by decide +kernel, by decide +kernel, by decide +kernel⟩
theorem cl_T_status : cw_V rn_L 57 my_T_status mb_T_status 3 (some .int) 1 := ⟨by decide +kernel, by decide +kernel, by decide +kernel, by decide +kernel, by decide +kernel, by decide +kernel, by decide +kernel, by decide +kernel⟩
theorem cl_M_status : cw_V rn_L 60 my_M_status mb_M_status 2 (some .int) 1 := ⟨by decide +kernel, by decide +kernel, by decide +kernel, by decide +kernel, by decide +kernel, by decide +kernel, by decide +kernel, by decide +kernel⟩
theorem cl_T_cycles : cw_V rn_L 61 my_T_cycles mb_T_cycles 1 (some .int) 0 := ⟨by decide +kernel, by decide +kernel, by decide +kernel, by decide +kernel, by decide +kernel, by decide +kernel, by decide +kernel, by decide +kernel⟩
theorem cl_M_cycles : cw_V rn_L 65 my_M_cycles mb_M_cycles 1 (some .int) 0 := ⟨by decide +kernel, by decide +kernel, by decide +kernel, by decide +kernel, by decide +kernel, by decide +kernel, by decide +kernel, by decide +kernel⟩
theorem cl_T_ticks : cw_V rn_L 66 my_T_ticks mb_T_ticks 1 (some .int) 0 := ⟨by decide +kernel, by decide +kernel, by decide +kernel, by decide +kernel, by decide +kernel, by decide +kernel, by decide +kernel, by decide +kernel⟩
theorem cl_M_ticks : cw_V rn_L 69 my_M_ticks mb_M_ticks 1 (some .int) 0 := ⟨by decide +kernel, by decide +kernel, by decide +kernel, by decide +kernel, by decide +kernel, by decide +kernel, by decide +kernel, by decide +kernel⟩
theorem cl_T_lost : cw_V rn_L 70 my_T_lost mb_T_lost 1 (some .int) 0 := ⟨by decide +kernel, by decide +kernel, by decide +kernel, by decide +kernel, by decide +kernel, by decide +kernel, by decide +kernel, by decide +kernel⟩
theorem cl_M_lost : cw_V rn_L 73 my_M_lost mb_M_lost 1 (some .int) 0 := ⟨by decide +kernel, by decide +kernel, by decide +kernel, by decide +kernel, by decide +kernel, by decide +kernel, by decide +kernel, by decide +kernel⟩
theorem cl_T_left : cw_V rn_L 74 my_T_left mb_T_left 1 (some .int) 0 := ⟨by decide +kernel, by decide +kernel, by decide +kernel, by decide +kernel, by decide +kernel, by decide +kernel, by decide +kernel, by decide +kernel⟩
theorem cl_M_left : cw_V rn_L 77 my_M_left mb_M_left 1 (some .int) 0 := ⟨by decide +kernel, by decide +kernel, by decide +kernel, by decide +kernel, by decide +kernel, by decide +kernel, by decide +kernel, by decide +kernel⟩
