/-! The constructors. -/
def tk4 (t0 t1 t2 t3 : Nat) : Nat → Nat := fun j => match j with
  | 0 => t0
  | 1 => t1
  | 2 => t2
  | _ => t3
theorem ar_I {D : va_G} {s : State} {cI cT cA : ClassId} (h : va_K D cz_all (ty_ cI cT) s) (h2 : va_K D cz_all (ty_ cI cT ++ [(cA, .int)]) s) : cI = cA := by
  have a : s.vm.findClass _ = some cA := (h2.2 2 (cA, .int) rfl).2
  have b : s.vm.findClass _ = some cI := (h.2 0 (cI, .int) rfl).2
  exact Option.some.inj (b.symm.trans a)
theorem ar_T {D : va_G} {s : State} {cI cT cA : ClassId} (h : va_K D cz_all (ty_ cI cT) s) (h2 : va_K D cz_all (ty_ cI cT ++ [(cA, .object "TaskComputer$Task")]) s) : cT = cA := by
  obtain ⟨-, -, -, -, -, a⟩ := (h2.2 2 (cA, .object "TaskComputer$Task") rfl).2
  obtain ⟨-, -, -, -, -, b⟩ := (h.2 1 (cT, .object "TaskComputer$Task") rfl).2
  exact Option.some.inj (b.symm.trans a)
theorem arrV_cong {cA : ClassId} {n : Nat} {f g : Nat → Value} (h : ∀ j, j < n → f j = g j) : arrV cA n f = arrV cA n g := by
  have : (fun j : Fin n => f j.val) = fun j : Fin n => g j.val := funext fun j => h j.val j.isLt
  simp only [arrV, this]
theorem P_fn {D : va_G} {ws : va_W} {H : Heap} (hP : va_P D cz_all ws H) (k : Nat) {a n : Nat} {cA : ClassId} {f : Nat → Option Nat} (g : Nat → Option Nat) (ha : ws[k]? = some (a, .inl (cA, n, .inr (.inr (.inr (.inr f)))))) (h : ∀ j, j < n → f j = g j) : va_P D cz_all (ws.set k (a, .inl (cA, n, .inr (.inr (.inr (.inr g)))))) H := by
  intro i q hq
  rw [List.getElem?_set] at hq
  by_cases e : k = i
  · subst e
    rw [if_pos rfl] at hq
    split at hq
    · cases hq
      have h1 : H[a]? = some (arrV cA n (fun j => va_rf (f j))) := hP k _ ha
      show H[a]? = some (arrV cA n (fun j => va_rf (g j)))
      rw [h1, arrV_cong (f := fun j => va_rf (f j)) (g := fun j => va_rf (g j)) (fun j hj => by rw [h j hj])]
    · cases hq
  · rw [if_neg e] at hq
    exact hP i q hq
theorem d_G_init_0 : decode mb_G_init 0 = .ok (.aload_n 0, 1) := by decide +kernel
theorem d_G_init_1 : decode mb_G_init 1 = .ok (.invokespecial 3, 3) := by decide +kernel
theorem d_G_init_4 : decode mb_G_init 4 = .ok (.return_, 1) := by decide +kernel
set_option maxHeartbeats 4000000 in
set_option maxRecDepth 100000 in
theorem c_G_init (l : Launch) (D : va_G) (cI cT : ClassId) (h : Nat) : cn_v l my_G_init mb_G_init 1 ⟨1, 0, 0, 12⟩ D (ty_ cI cT) [.ref h] [(h, .inr (5, [.int 0, .int 0, .int 0, .int 0, .int 0, .int 0, .int 0, .int 0, .int 0]))] (fun w' => w' = [(h, .inr (5, [.int 0, .int 0, .int 0, .int 0, .int 0, .int 0, .int 0, .int 0, .int 0]))]) 0 0 := by
  refine cn_v_of (by decide) rfl (Nat.le_of_ble_eq_true rfl) ?_
  intro p e s m below meth c A ls X hr hlk hin hK hP hD hS hA hN hl
  have hx := X.1
  have hb := X.2.1
  have hml := X.2.2.1
  have hown := X.2.2.2.1
  have hts := X.2.2.2.2
  have hl : lv_has ls 1 [(0, .ref h)] := hl
  have hP : va_P D cz_all [(h, .inr (5, [.int 0, .int 0, .int 0, .int 0, .int 0, .int 0, .int 0, .int 0, .int 0]))] s.heap := hP
  refine lv_aload_n hx hb d_G_init_0 rfl (lv_at hl 0 rfl) ?_
  refine W.objInit hx hb hown (hts (.methodLink rn_G 3 objectInit) (by decide +kernel)) (hts _ oi_1) (hts _ oi_2) rfl (by rw [hml]; exact hl.1) rfl d_G_init_1 (Nat.le_of_ble_eq_true rfl) (Nat.le_of_ble_eq_true rfl) ?_
  refine W.eq (g2 := F0 m 4 ls []) rfl ?_
  exact rt_n X hr hlk hK rfl hP hD hS d_G_init_4
theorem d_I_init_0 : decode mb_I_init 0 = .ok (.aload_n 0, 1) := by decide +kernel
theorem d_I_init_1 : decode mb_I_init 1 = .ok (.invokespecial 1, 3) := by decide +kernel
theorem d_I_init_4 : decode mb_I_init 4 = .ok (.return_, 1) := by decide +kernel
set_option maxHeartbeats 4000000 in
set_option maxRecDepth 100000 in
theorem c_I_init (l : Launch) (D : va_G) (cI cT : ClassId) (h : Nat) : cn_v l my_I_init mb_I_init 1 ⟨1, 0, 0, 12⟩ D (ty_ cI cT) [.ref h] [(h, .inr (7, [.int 0, .int 0, .int 0, .int 0, .int 0, .int 0]))] (fun w' => w' = [(h, .inr (7, [.int 0, .int 0, .int 0, .int 0, .int 0, .int 0]))]) 0 0 := by
  refine cn_v_of (by decide) rfl (Nat.le_of_ble_eq_true rfl) ?_
  intro p e s m below meth c A ls X hr hlk hin hK hP hD hS hA hN hl
  have hx := X.1
  have hb := X.2.1
  have hml := X.2.2.1
  have hown := X.2.2.2.1
  have hts := X.2.2.2.2
  have hl : lv_has ls 1 [(0, .ref h)] := hl
  have hP : va_P D cz_all [(h, .inr (7, [.int 0, .int 0, .int 0, .int 0, .int 0, .int 0]))] s.heap := hP
  refine lv_aload_n hx hb d_I_init_0 rfl (lv_at hl 0 rfl) ?_
  refine W.objInit hx hb hown (hts (.methodLink rn_I 1 objectInit) (by decide +kernel)) (hts _ oi_1) (hts _ oi_2) rfl (by rw [hml]; exact hl.1) rfl d_I_init_1 (Nat.le_of_ble_eq_true rfl) (Nat.le_of_ble_eq_true rfl) ?_
  refine W.eq (g2 := F0 m 4 ls []) rfl ?_
  exact rt_n X hr hlk hK rfl hP hD hS d_I_init_4
theorem d_Y_init_0 : decode mb_Y_init 0 = .ok (.aload_n 0, 1) := by decide +kernel
theorem d_Y_init_1 : decode mb_Y_init 1 = .ok (.invokespecial 3, 3) := by decide +kernel
theorem d_Y_init_4 : decode mb_Y_init 4 = .ok (.aload_n 0, 1) := by decide +kernel
theorem d_Y_init_5 : decode mb_Y_init 5 = .ok (.sipush 512, 3) := by decide +kernel
theorem d_Y_init_8 : decode mb_Y_init 8 = .ok (.newarray .int, 2) := by decide +kernel
theorem d_Y_init_10 : decode mb_Y_init 10 = .ok (.putfield 11, 3) := by decide +kernel
theorem d_Y_init_13 : decode mb_Y_init 13 = .ok (.return_, 1) := by decide +kernel
set_option maxHeartbeats 4000000 in
set_option maxRecDepth 100000 in
theorem c_Y_init (l : Launch) (D : va_G) (cI cT : ClassId) (h : Nat) : cn_v l my_Y_init mb_Y_init 1 ⟨1, 1, 512, 12⟩ D (ty_ cI cT) [.ref h] [(h, .inr (2, [.null]))] (fun w' => ∃ aB : Nat, w' = [(h, .inr (2, [.ref aB])), (aB, .inl (cI, 512, .inl (fun _ => 0)))]) 1 512 := by
  refine cn_v_of (by decide) rfl (Nat.le_of_ble_eq_true rfl) ?_
  intro p e s m below meth c A ls X hr hlk hin hK hP hD hS hA hN hl
  have hx := X.1
  have hb := X.2.1
  have hml := X.2.2.1
  have hown := X.2.2.2.1
  have hts := X.2.2.2.2
  have hl : lv_has ls 1 [(0, .ref h)] := hl
  have hP : va_P D cz_all [(h, .inr (2, [.null]))] s.heap := hP
  refine lv_aload_n hx hb d_Y_init_0 rfl (lv_at hl 0 rfl) ?_
  refine W.objInit hx hb hown (hts (.methodLink rn_Y 3 objectInit) (by decide +kernel)) (hts _ oi_1) (hts _ oi_2) rfl (by rw [hml]; exact hl.1) rfl d_Y_init_1 (Nat.le_of_ble_eq_true rfl) (Nat.le_of_ble_eq_true rfl) ?_
  refine W.eq (g2 := F0 m 4 ls []) rfl ?_
  refine lv_aload_n hx hb d_Y_init_4 rfl (lv_at hl 0 rfl) ?_
  refine lv_sipush (v := (512 : Int32)) hx hb d_Y_init_5 (by decide) ?_
  refine va_newa (atype := .int) (ty := .int) (N' := 512) (a0 := (512, .inl (fun _ => 0))) hx hb (hts (.arrayClass .int) (by decide +kernel)) rfl hK hP hD hS hA (fun cA => rfl) (by decide) (by decide) (by decide) (by decide) (by decide) d_Y_init_8 (fun a8 cA H hK2 hP hD hS => ?_)
  have ec := ar_I hK hK2
  subst ec
  have hP : va_P D cz_all [(h, .inr (2, [.null])), (a8, .inl (cI, 512, .inl (fun _ => 0)))] H := hP
  have hD : va_D A [(h, .inr (2, [.null])), (a8, .inl (cI, 512, .inl (fun _ => 0)))] := hD
  refine W.widen (k := 1) (n := 512) (by decide) (by decide) ?_
  refine va_putF (D := D) (ci := 2) (v := .ref a8) (ty := .array .int) (C := rn_Y) (T := fn_Y) (N := 1) hx hb hts fw_Y ft_Y fk_Y fd_Y hown hK hP hD hS 0 rfl rfl 0 (by decide) (hts (.fieldLink rn_Y 11 "TaskComputer$Memory" "bytes" "[I") (by decide +kernel)) (fun _ h9 => h9) rfl hin rfl (by decide +kernel) rfl rfl (Nat.le_of_ble_eq_true rfl) d_Y_init_10 (fun H locs hP hD hS => ?_)
  have hP : va_P D cz_all [(h, .inr (2, [.ref a8])), (a8, .inl (cI, 512, .inl (fun _ => 0)))] H := hP
  have hD : va_D A [(h, .inr (2, [.ref a8])), (a8, .inl (cI, 512, .inl (fun _ => 0)))] := hD
  exact rt_n X hr hlk hK ⟨a8, rfl⟩ hP hD hS d_Y_init_13
theorem d_C_init_0 : decode mb_C_init 0 = .ok (.aload_n 0, 1) := by decide +kernel
theorem d_C_init_1 : decode mb_C_init 1 = .ok (.invokespecial 7, 3) := by decide +kernel
theorem d_C_init_4 : decode mb_C_init 4 = .ok (.aload_n 0, 1) := by decide +kernel
theorem d_C_init_5 : decode mb_C_init 5 = .ok (.aload_n 1, 1) := by decide +kernel
theorem d_C_init_6 : decode mb_C_init 6 = .ok (.putfield 13, 3) := by decide +kernel
theorem d_C_init_9 : decode mb_C_init 9 = .ok (.return_, 1) := by decide +kernel
set_option maxHeartbeats 4000000 in
set_option maxRecDepth 100000 in
theorem c_C_init (l : Launch) (D : va_G) (cI cT : ClassId) (h : Nat) (g : Nat) : cn_v l my_C_init mb_C_init 2 ⟨1, 0, 0, 12⟩ D (ty_ cI cT) [.ref h, .ref g] [(h, .inr (0, [.null]))] (fun w' => w' = [(h, .inr (0, [.ref g]))]) 0 0 := by
  refine cn_v_of (by decide) rfl (Nat.le_of_ble_eq_true rfl) ?_
  intro p e s m below meth c A ls X hr hlk hin hK hP hD hS hA hN hl
  have hx := X.1
  have hb := X.2.1
  have hml := X.2.2.1
  have hown := X.2.2.2.1
  have hts := X.2.2.2.2
  have hl : lv_has ls 2 [(0, .ref h), (1, .ref g)] := hl
  have hP : va_P D cz_all [(h, .inr (0, [.null]))] s.heap := hP
  refine lv_aload_n hx hb d_C_init_0 rfl (lv_at hl 0 rfl) ?_
  refine W.objInit hx hb hown (hts (.methodLink rn_C 7 objectInit) (by decide +kernel)) (hts _ oi_1) (hts _ oi_2) rfl (by rw [hml]; exact hl.1) rfl d_C_init_1 (Nat.le_of_ble_eq_true rfl) (Nat.le_of_ble_eq_true rfl) ?_
  refine W.eq (g2 := F0 m 4 ls []) rfl ?_
  refine lv_aload_n hx hb d_C_init_4 rfl (lv_at hl 0 rfl) ?_
  refine lv_aload_n hx hb d_C_init_5 rfl (lv_at hl 1 rfl) ?_
  refine va_putF (D := D) (ci := 0) (v := .ref g) (ty := .object "TaskComputer$Registers") (C := rn_C) (T := fn_C) (N := 1) hx hb hts fw_C ft_C fk_C fd_C hown hK hP hD hS 0 rfl rfl 0 (by decide) (hts (.fieldLink rn_C 13 "TaskComputer$Calculator" "registers" "LTaskComputer$Registers;") (by decide +kernel)) (fun _ h9 => h9) rfl hin rfl (by decide +kernel) rfl rfl (Nat.le_of_ble_eq_true rfl) d_C_init_6 (fun H locs hP hD hS => ?_)
  have hP : va_P D cz_all [(h, .inr (0, [.ref g]))] H := hP
  have hD : va_D A [(h, .inr (0, [.ref g]))] := hD
  exact rt_n X hr hlk hK rfl hP hD hS d_C_init_9
theorem d_A_init_0 : decode mb_A_init 0 = .ok (.aload_n 0, 1) := by decide +kernel
theorem d_A_init_1 : decode mb_A_init 1 = .ok (.invokespecial 1, 3) := by decide +kernel
theorem d_A_init_4 : decode mb_A_init 4 = .ok (.aload_n 0, 1) := by decide +kernel
theorem d_A_init_5 : decode mb_A_init 5 = .ok (.iload_n 1, 1) := by decide +kernel
theorem d_A_init_6 : decode mb_A_init 6 = .ok (.putfield 7, 3) := by decide +kernel
theorem d_A_init_9 : decode mb_A_init 9 = .ok (.return_, 1) := by decide +kernel
set_option maxHeartbeats 4000000 in
set_option maxRecDepth 100000 in
theorem c_A_init (l : Launch) (D : va_G) (cI cT : ClassId) (h : Nat) (i : Int32) : cn_v l my_A_init mb_A_init 2 ⟨1, 0, 0, 12⟩ D (ty_ cI cT) [.ref h, .int i] [(h, .inr (6, [.int 0, .int 0, .int 0, .int 0, .int 0]))] (fun w' => w' = [(h, .inr (6, [.int i, .int 0, .int 0, .int 0, .int 0]))]) 0 0 := by
  refine cn_v_of (by decide) rfl (Nat.le_of_ble_eq_true rfl) ?_
  intro p e s m below meth c A ls X hr hlk hin hK hP hD hS hA hN hl
  have hx := X.1
  have hb := X.2.1
  have hml := X.2.2.1
  have hown := X.2.2.2.1
  have hts := X.2.2.2.2
  have hl : lv_has ls 2 [(0, .ref h), (1, .int i)] := hl
  have hP : va_P D cz_all [(h, .inr (6, [.int 0, .int 0, .int 0, .int 0, .int 0]))] s.heap := hP
  refine lv_aload_n hx hb d_A_init_0 rfl (lv_at hl 0 rfl) ?_
  refine W.objInit hx hb hown (hts (.methodLink rn_A 1 objectInit) (by decide +kernel)) (hts _ oi_1) (hts _ oi_2) rfl (by rw [hml]; exact hl.1) rfl d_A_init_1 (Nat.le_of_ble_eq_true rfl) (Nat.le_of_ble_eq_true rfl) ?_
  refine W.eq (g2 := F0 m 4 ls []) rfl ?_
  refine lv_aload_n hx hb d_A_init_4 rfl (lv_at hl 0 rfl) ?_
  refine lv_iload_n hx hb d_A_init_5 rfl (lv_at hl 1 rfl) ?_
  refine va_putF (D := D) (ci := 6) (v := .int i) (ty := .int) (C := rn_A) (T := fn_A) (N := 5) hx hb hts fw_A ft_A fk_A fd_A hown hK hP hD hS 0 rfl rfl 0 (by decide) (hts (.fieldLink rn_A 7 "TaskComputer$Task" "number" "I") (by decide +kernel)) (fun _ h9 => h9) rfl hin rfl (by decide +kernel) rfl rfl (Nat.le_of_ble_eq_true rfl) d_A_init_6 (fun H locs hP hD hS => ?_)
  have hP : va_P D cz_all [(h, .inr (6, [.int i, .int 0, .int 0, .int 0, .int 0]))] H := hP
  have hD : va_D A [(h, .inr (6, [.int i, .int 0, .int 0, .int 0, .int 0]))] := hD
  exact rt_n X hr hlk hK rfl hP hD hS d_A_init_9
theorem d_Q_init_0 : decode mb_Q_init 0 = .ok (.aload_n 0, 1) := by decide +kernel
theorem d_Q_init_1 : decode mb_Q_init 1 = .ok (.invokespecial 3, 3) := by decide +kernel
theorem d_Q_init_4 : decode mb_Q_init 4 = .ok (.aload_n 0, 1) := by decide +kernel
theorem d_Q_init_5 : decode mb_Q_init 5 = .ok (.iload_n 1, 1) := by decide +kernel
theorem d_Q_init_6 : decode mb_Q_init 6 = .ok (.anewarray 9, 3) := by decide +kernel
theorem d_Q_init_9 : decode mb_Q_init 9 = .ok (.putfield 11, 3) := by decide +kernel
theorem d_Q_init_12 : decode mb_Q_init 12 = .ok (.return_, 1) := by decide +kernel
set_option maxHeartbeats 4000000 in
set_option maxRecDepth 100000 in
theorem c_Q_init (l : Launch) (D : va_G) (cI cT : ClassId) (h : Nat) : cn_v l my_Q_init mb_Q_init 2 ⟨1, 1, 4, 12⟩ D (ty_ cI cT) [.ref h, .int 4] [(h, .inr (4, [.null, .int 0]))] (fun w' => ∃ aL : Nat, w' = [(h, .inr (4, [.ref aL, .int 0])), (aL, .inl (cT, 4, .inr (.inr (.inr (.inr (fun _ => none))))))]) 1 4 := by
  refine cn_v_of (by decide) rfl (Nat.le_of_ble_eq_true rfl) ?_
  intro p e s m below meth c A ls X hr hlk hin hK hP hD hS hA hN hl
  have hx := X.1
  have hb := X.2.1
  have hml := X.2.2.1
  have hown := X.2.2.2.1
  have hts := X.2.2.2.2
  have hl : lv_has ls 2 [(0, .ref h), (1, .int 4)] := hl
  have hP : va_P D cz_all [(h, .inr (4, [.null, .int 0]))] s.heap := hP
  refine lv_aload_n hx hb d_Q_init_0 rfl (lv_at hl 0 rfl) ?_
  refine W.objInit hx hb hown (hts (.methodLink rn_Q 3 objectInit) (by decide +kernel)) (hts _ oi_1) (hts _ oi_2) rfl (by rw [hml]; exact hl.1) rfl d_Q_init_1 (Nat.le_of_ble_eq_true rfl) (Nat.le_of_ble_eq_true rfl) ?_
  refine W.eq (g2 := F0 m 4 ls []) rfl ?_
  refine lv_aload_n hx hb d_Q_init_4 rfl (lv_at hl 0 rfl) ?_
  refine lv_iload_n hx hb d_Q_init_5 rfl (lv_at hl 1 rfl) ?_
  refine va_newq (C := "TaskComputer$Task") (N' := 4) hx hb hown (hts (.classLink rn_Q 9 rn_A) (by decide +kernel)) hN.1 hK hP hD hS hA (by decide) (by decide) (by decide) (by decide) (by decide) d_Q_init_6 (fun a6 cA H hK2 hP hD hS => ?_)
  have ec := ar_T hK hK2
  subst ec
  have hP : va_P D cz_all [(h, .inr (4, [.null, .int 0])), (a6, .inl (cT, 4, .inr (.inr (.inr (.inr (fun _ => none))))))] H := hP
  have hD : va_D A [(h, .inr (4, [.null, .int 0])), (a6, .inl (cT, 4, .inr (.inr (.inr (.inr (fun _ => none))))))] := hD
  refine W.widen (k := 1) (n := 4) (by decide) (by decide) ?_
  refine va_putF (D := D) (ci := 4) (v := .ref a6) (ty := .array (.object "TaskComputer$Task")) (C := rn_Q) (T := fn_Q) (N := 2) hx hb hts fw_Q ft_Q fk_Q fd_Q hown hK hP hD hS 0 rfl rfl 0 (by decide) (hts (.fieldLink rn_Q 11 "TaskComputer$Queue" "places" "[LTaskComputer$Task;") (by decide +kernel)) (fun _ h9 => h9) rfl hin rfl (by decide +kernel) rfl rfl (Nat.le_of_ble_eq_true rfl) d_Q_init_9 (fun H locs hP hD hS => ?_)
  have hP : va_P D cz_all [(h, .inr (4, [.ref a6, .int 0])), (a6, .inl (cT, 4, .inr (.inr (.inr (.inr (fun _ => none))))))] H := hP
  have hD : va_D A [(h, .inr (4, [.ref a6, .int 0])), (a6, .inl (cT, 4, .inr (.inr (.inr (.inr (fun _ => none))))))] := hD
  exact rt_n X hr hlk hK ⟨a6, rfl⟩ hP hD hS d_Q_init_12
theorem d_P_init_0 : decode mb_P_init 0 = .ok (.aload_n 0, 1) := by decide +kernel
theorem d_P_init_1 : decode mb_P_init 1 = .ok (.invokespecial 3, 3) := by decide +kernel
theorem d_P_init_4 : decode mb_P_init 4 = .ok (.aload_n 0, 1) := by decide +kernel
theorem d_P_init_5 : decode mb_P_init 5 = .ok (.aload_n 1, 1) := by decide +kernel
theorem d_P_init_6 : decode mb_P_init 6 = .ok (.putfield 9, 3) := by decide +kernel
theorem d_P_init_9 : decode mb_P_init 9 = .ok (.aload_n 0, 1) := by decide +kernel
theorem d_P_init_10 : decode mb_P_init 10 = .ok (.aload_n 2, 1) := by decide +kernel
theorem d_P_init_11 : decode mb_P_init 11 = .ok (.putfield 15, 3) := by decide +kernel
theorem d_P_init_14 : decode mb_P_init 14 = .ok (.aload_n 0, 1) := by decide +kernel
theorem d_P_init_15 : decode mb_P_init 15 = .ok (.new 19, 3) := by decide +kernel
theorem d_P_init_18 : decode mb_P_init 18 = .ok (.dup, 1) := by decide +kernel
theorem d_P_init_19 : decode mb_P_init 19 = .ok (.aload_n 2, 1) := by decide +kernel
theorem d_P_init_20 : decode mb_P_init 20 = .ok (.invokespecial 21, 3) := by decide +kernel
theorem d_P_init_23 : decode mb_P_init 23 = .ok (.putfield 24, 3) := by decide +kernel
theorem d_P_init_26 : decode mb_P_init 26 = .ok (.return_, 1) := by decide +kernel
set_option maxHeartbeats 4000000 in
set_option maxRecDepth 100000 in
theorem c_P_init (l : Launch) (D : va_G) (cI cT : ClassId) (h : Nat) (y : Nat) (g : Nat) : cn_v l my_P_init mb_P_init 3 ⟨2, 1, 1, 33⟩ D (ty_ cI cT) [.ref h, .ref y, .ref g] [(h, .inr (3, [.int 0, .null, .null, .null, .int 0]))] (fun w' => ∃ aC : Nat, w' = [(h, .inr (3, [.int 0, .ref y, .ref g, .ref aC, .int 0])), (aC, .inr (0, [.ref g]))]) 1 1 := by
  refine cn_v_of (by decide) rfl (Nat.le_of_ble_eq_true rfl) ?_
  intro p e s m below meth c A ls X hr hlk hin hK hP hD hS hA hN hl
  have hx := X.1
  have hb := X.2.1
  have hml := X.2.2.1
  have hown := X.2.2.2.1
  have hts := X.2.2.2.2
  have hl : lv_has ls 3 [(0, .ref h), (1, .ref y), (2, .ref g)] := hl
  have hP : va_P D cz_all [(h, .inr (3, [.int 0, .null, .null, .null, .int 0]))] s.heap := hP
  refine lv_aload_n hx hb d_P_init_0 rfl (lv_at hl 0 rfl) ?_
  refine W.objInit hx hb hown (hts (.methodLink rn_P 3 objectInit) (by decide +kernel)) (hts _ oi_1) (hts _ oi_2) rfl (by rw [hml]; exact hl.1) rfl d_P_init_1 (Nat.le_of_ble_eq_true rfl) (Nat.le_of_ble_eq_true rfl) ?_
  refine W.eq (g2 := F0 m 4 ls []) rfl ?_
  refine lv_aload_n hx hb d_P_init_4 rfl (lv_at hl 0 rfl) ?_
  refine lv_aload_n hx hb d_P_init_5 rfl (lv_at hl 1 rfl) ?_
  refine va_putF (D := D) (ci := 3) (v := .ref y) (ty := .object "TaskComputer$Memory") (C := rn_P) (T := fn_P) (N := 5) hx hb hts fw_P ft_P fk_P fd_P hown hK hP hD hS 0 rfl rfl 1 (by decide) (hts (.fieldLink rn_P 9 "TaskComputer$Processor" "memory" "LTaskComputer$Memory;") (by decide +kernel)) (fun _ h9 => h9) rfl hin rfl (by decide +kernel) rfl rfl (Nat.le_of_ble_eq_true rfl) d_P_init_6 (fun H locs hP hD hS => ?_)
  have hP : va_P D cz_all [(h, .inr (3, [.int 0, .ref y, .null, .null, .int 0]))] H := hP
  have hD : va_D A [(h, .inr (3, [.int 0, .ref y, .null, .null, .int 0]))] := hD
  refine lv_aload_n hx hb d_P_init_9 rfl (lv_at hl 0 rfl) ?_
  refine lv_aload_n hx hb d_P_init_10 rfl (lv_at hl 2 rfl) ?_
  refine va_putF (D := D) (ci := 3) (v := .ref g) (ty := .object "TaskComputer$Registers") (C := rn_P) (T := fn_P) (N := 5) hx hb hts fw_P ft_P fk_P fd_P hown hK hP hD hS 0 rfl rfl 2 (by decide) (hts (.fieldLink rn_P 15 "TaskComputer$Processor" "registers" "LTaskComputer$Registers;") (by decide +kernel)) (fun _ h9 => h9) rfl hin rfl (by decide +kernel) rfl rfl (Nat.le_of_ble_eq_true rfl) d_P_init_11 (fun H locs hP hD hS => ?_)
  have hP : va_P D cz_all [(h, .inr (3, [.int 0, .ref y, .ref g, .null, .int 0]))] H := hP
  have hD : va_D A [(h, .inr (3, [.int 0, .ref y, .ref g, .null, .int 0]))] := hD
  refine lv_aload_n hx hb d_P_init_14 rfl (lv_at hl 0 rfl) ?_
  refine va_new (ci := 0) (fs := [.null]) (C := rn_C) (T := fn_C) (N := 1) hx hb hts fw_C ft_C fk_C hown (hts (.classLink rn_P 19 rn_C) (by decide +kernel)) (hts (.instantiable rn_C 1) (by decide +kernel)) (hts (.initialized rn_C) (by decide +kernel)) hK hP hD hS hA rfl (fun j hj => by rcases (show j = 0 by omega) with rfl <;> rfl) (by decide) (by decide) d_P_init_15 (fun a15 H hP hD hS => ?_)
  have hP : va_P D cz_all [(h, .inr (3, [.int 0, .ref y, .ref g, .null, .int 0])), (a15, .inr (0, [.null]))] H := hP
  have hD : va_D A [(h, .inr (3, [.int 0, .ref y, .ref g, .null, .int 0])), (a15, .inr (0, [.null]))] := hD
  refine W.widen (k := 1) (n := 1) (by decide) (by decide) ?_
  refine lv_dup hx hb d_P_init_18 rfl ?_
  refine lv_aload_n hx hb d_P_init_19 rfl (lv_at hl 2 rfl) ?_
  refine cf_n (n := 1) (As := [.ref g]) X ⟨by decide +kernel, by decide +kernel, by decide +kernel, by decide +kernel, rfl, by decide +kernel, by decide +kernel, by decide +kernel⟩ hK hP hD hS hA hN hl (c_C_init l D cI cT a15 g) ⟨by decide, by decide⟩ rfl rfl [1] [0] rfl rfl (by decide) (by decide) (by decide) rfl rfl (Nat.le_of_ble_eq_true rfl) d_P_init_20 ⟨by decide, by decide⟩ (fun w1 H locs hB hP hD hS => ?_)
  obtain rfl := hB
  have hP : va_P D cz_all [(h, .inr (3, [.int 0, .ref y, .ref g, .null, .int 0])), (a15, .inr (0, [.ref g]))] H := hP
  have hD : va_D A [(h, .inr (3, [.int 0, .ref y, .ref g, .null, .int 0])), (a15, .inr (0, [.ref g]))] := hD
  refine W.widen (k := 1) (n := 1) (by decide) (by decide) ?_
  refine va_putF (D := D) (ci := 3) (v := .ref a15) (ty := .object "TaskComputer$Calculator") (C := rn_P) (T := fn_P) (N := 5) hx hb hts fw_P ft_P fk_P fd_P hown hK hP hD hS 0 rfl rfl 3 (by decide) (hts (.fieldLink rn_P 24 "TaskComputer$Processor" "calculator" "LTaskComputer$Calculator;") (by decide +kernel)) (fun _ h9 => h9) rfl hin rfl (by decide +kernel) rfl rfl (Nat.le_of_ble_eq_true rfl) d_P_init_23 (fun H locs hP hD hS => ?_)
  have hP : va_P D cz_all [(h, .inr (3, [.int 0, .ref y, .ref g, .ref a15, .int 0])), (a15, .inr (0, [.ref g]))] H := hP
  have hD : va_D A [(h, .inr (3, [.int 0, .ref y, .ref g, .ref a15, .int 0])), (a15, .inr (0, [.ref g]))] := hD
  exact rt_n X hr hlk hK ⟨a15, rfl⟩ hP hD hS d_P_init_26
theorem d_K_init_0 : decode mb_K_init 0 = .ok (.aload_n 0, 1) := by decide +kernel
theorem d_K_init_1 : decode mb_K_init 1 = .ok (.invokespecial 3, 3) := by decide +kernel
theorem d_K_init_4 : decode mb_K_init 4 = .ok (.aload_n 0, 1) := by decide +kernel
theorem d_K_init_5 : decode mb_K_init 5 = .ok (.new 9, 3) := by decide +kernel
theorem d_K_init_8 : decode mb_K_init 8 = .ok (.dup, 1) := by decide +kernel
theorem d_K_init_9 : decode mb_K_init 9 = .ok (.iconst 4, 1) := by decide +kernel
theorem d_K_init_10 : decode mb_K_init 10 = .ok (.invokespecial 13, 3) := by decide +kernel
theorem d_K_init_13 : decode mb_K_init 13 = .ok (.putfield 16, 3) := by decide +kernel
theorem d_K_init_16 : decode mb_K_init 16 = .ok (.aload_n 0, 1) := by decide +kernel
theorem d_K_init_17 : decode mb_K_init 17 = .ok (.new 20, 3) := by decide +kernel
theorem d_K_init_20 : decode mb_K_init 20 = .ok (.dup, 1) := by decide +kernel
theorem d_K_init_21 : decode mb_K_init 21 = .ok (.invokespecial 22, 3) := by decide +kernel
theorem d_K_init_24 : decode mb_K_init 24 = .ok (.putfield 23, 3) := by decide +kernel
theorem d_K_init_27 : decode mb_K_init 27 = .ok (.aload_n 0, 1) := by decide +kernel
theorem d_K_init_28 : decode mb_K_init 28 = .ok (.iconst 4, 1) := by decide +kernel
theorem d_K_init_29 : decode mb_K_init 29 = .ok (.anewarray 27, 3) := by decide +kernel
theorem d_K_init_32 : decode mb_K_init 32 = .ok (.putfield 29, 3) := by decide +kernel
theorem d_K_init_35 : decode mb_K_init 35 = .ok (.aload_n 0, 1) := by decide +kernel
theorem d_K_init_36 : decode mb_K_init 36 = .ok (.aload_n 1, 1) := by decide +kernel
theorem d_K_init_37 : decode mb_K_init 37 = .ok (.putfield 33, 3) := by decide +kernel
theorem d_K_init_40 : decode mb_K_init 40 = .ok (.aload_n 0, 1) := by decide +kernel
theorem d_K_init_41 : decode mb_K_init 41 = .ok (.aload_n 2, 1) := by decide +kernel
theorem d_K_init_42 : decode mb_K_init 42 = .ok (.putfield 37, 3) := by decide +kernel
theorem d_K_init_45 : decode mb_K_init 45 = .ok (.iconst 0, 1) := by decide +kernel
theorem d_K_init_46 : decode mb_K_init 46 = .ok (.istore_n 3, 1) := by decide +kernel
theorem d_K_init_47 : decode mb_K_init 47 = .ok (.iload_n 3, 1) := by decide +kernel
theorem d_K_init_48 : decode mb_K_init 48 = .ok (.iconst 4, 1) := by decide +kernel
theorem d_K_init_49 : decode mb_K_init 49 = .ok (.if_icmp .ge 23, 3) := by decide +kernel
theorem d_K_init_52 : decode mb_K_init 52 = .ok (.aload_n 0, 1) := by decide +kernel
theorem d_K_init_53 : decode mb_K_init 53 = .ok (.getfield 29, 3) := by decide +kernel
theorem d_K_init_56 : decode mb_K_init 56 = .ok (.iload_n 3, 1) := by decide +kernel
theorem d_K_init_57 : decode mb_K_init 57 = .ok (.new 27, 3) := by decide +kernel
theorem d_K_init_60 : decode mb_K_init 60 = .ok (.dup, 1) := by decide +kernel
theorem d_K_init_61 : decode mb_K_init 61 = .ok (.iload_n 3, 1) := by decide +kernel
theorem d_K_init_62 : decode mb_K_init 62 = .ok (.invokespecial 40, 3) := by decide +kernel
theorem d_K_init_65 : decode mb_K_init 65 = .ok (.aastore, 1) := by decide +kernel
theorem d_K_init_66 : decode mb_K_init 66 = .ok (.iinc 3 1, 3) := by decide +kernel
theorem d_K_init_69 : decode mb_K_init 69 = .ok (.goto (-22), 3) := by decide +kernel
theorem d_K_init_72 : decode mb_K_init 72 = .ok (.return_, 1) := by decide +kernel
set_option maxHeartbeats 4000000 in
set_option maxRecDepth 100000 in
theorem c_K_init (l : Launch) (D : va_G) (cI cT : ClassId) (h : Nat) (y : Nat) (g : Nat) : cn_v l my_K_init mb_K_init 4 ⟨2, 8, 39, 33⟩ D (ty_ cI cT) [.ref h, .ref y, .ref g] [(h, .inr (1, [.null, .null, .null, .null, .null, .null]))] (fun w' => ∃ (aQ aL aS aA : Nat) (tk : Nat → Nat), w' = [(h, .inr (1, [.ref aQ, .null, .ref y, .ref g, .ref aS, .ref aA])), (aQ, .inr (4, [.ref aL, .int 0])), (aL, .inl (cT, 4, .inr (.inr (.inr (.inr (fun _ => none)))))), (aS, .inr (5, [.int 0, .int 0, .int 0, .int 0, .int 0, .int 0, .int 0, .int 0, .int 0])), (aA, .inl (cT, 4, .inr (.inr (.inr (.inr (fun j => some (tk j))))))), ((tk 0), .inr (6, [.int 0, .int 0, .int 0, .int 0, .int 0])), ((tk 1), .inr (6, [.int 1, .int 0, .int 0, .int 0, .int 0])), ((tk 2), .inr (6, [.int 2, .int 0, .int 0, .int 0, .int 0])), ((tk 3), .inr (6, [.int 3, .int 0, .int 0, .int 0, .int 0]))]) 8 39 := by
  refine cn_v_of (by decide) rfl (Nat.le_of_ble_eq_true rfl) ?_
  intro p e s m below meth c A ls X hr hlk hin hK hP hD hS hA hN hl
  have hx := X.1
  have hb := X.2.1
  have hml := X.2.2.1
  have hown := X.2.2.2.1
  have hts := X.2.2.2.2
  have hl : lv_has ls 4 [(0, .ref h), (1, .ref y), (2, .ref g)] := hl
  have hP : va_P D cz_all [(h, .inr (1, [.null, .null, .null, .null, .null, .null]))] s.heap := hP
  refine lv_aload_n hx hb d_K_init_0 rfl (lv_at hl 0 rfl) ?_
  refine W.objInit hx hb hown (hts (.methodLink rn_K 3 objectInit) (by decide +kernel)) (hts _ oi_1) (hts _ oi_2) rfl (by rw [hml]; exact hl.1) rfl d_K_init_1 (Nat.le_of_ble_eq_true rfl) (Nat.le_of_ble_eq_true rfl) ?_
  refine W.eq (g2 := F0 m 4 ls []) rfl ?_
  refine lv_aload_n hx hb d_K_init_4 rfl (lv_at hl 0 rfl) ?_
  refine va_new (ci := 4) (fs := [.null, .int 0]) (C := rn_Q) (T := fn_Q) (N := 2) hx hb hts fw_Q ft_Q fk_Q hown (hts (.classLink rn_K 9 rn_Q) (by decide +kernel)) (hts (.instantiable rn_Q 2) (by decide +kernel)) (hts (.initialized rn_Q) (by decide +kernel)) hK hP hD hS hA rfl (fun j hj => by rcases (show j = 0 ∨ j = 1 by omega) with rfl | rfl <;> rfl) (by decide) (by decide) d_K_init_5 (fun a5 H hP hD hS => ?_)
  have hP : va_P D cz_all [(h, .inr (1, [.null, .null, .null, .null, .null, .null])), (a5, .inr (4, [.null, .int 0]))] H := hP
  have hD : va_D A [(h, .inr (1, [.null, .null, .null, .null, .null, .null])), (a5, .inr (4, [.null, .int 0]))] := hD
  refine W.widen (k := 1) (n := 2) (by decide) (by decide) ?_
  refine lv_dup hx hb d_K_init_8 rfl ?_
  refine lv_iconst (v := (4 : Int32)) hx hb d_K_init_9 (by decide) ?_
  refine cf_n (n := 1) (As := [.int 4]) X ⟨by decide +kernel, by decide +kernel, by decide +kernel, by decide +kernel, rfl, by decide +kernel, by decide +kernel, by decide +kernel⟩ hK hP hD hS hA hN hl (c_Q_init l D cI cT a5) ⟨by decide, by decide⟩ rfl rfl [1] [0] rfl rfl (by decide) (by decide) (by decide) rfl rfl (Nat.le_of_ble_eq_true rfl) d_K_init_10 ⟨by decide, by decide⟩ (fun w1 H locs hB hP hD hS => ?_)
  obtain ⟨aL, rfl⟩ := hB
  have hP : va_P D cz_all [(h, .inr (1, [.null, .null, .null, .null, .null, .null])), (a5, .inr (4, [.ref aL, .int 0])), (aL, .inl (cT, 4, .inr (.inr (.inr (.inr (fun _ => none))))))] H := hP
  have hD : va_D A [(h, .inr (1, [.null, .null, .null, .null, .null, .null])), (a5, .inr (4, [.ref aL, .int 0])), (aL, .inl (cT, 4, .inr (.inr (.inr (.inr (fun _ => none))))))] := hD
  refine W.widen (k := 2) (n := 6) (by decide) (by decide) ?_
  refine va_putF (D := D) (ci := 1) (v := .ref a5) (ty := .object "TaskComputer$Queue") (C := rn_K) (T := fn_K) (N := 6) hx hb hts fw_K ft_K fk_K fd_K hown hK hP hD hS 0 rfl rfl 0 (by decide) (hts (.fieldLink rn_K 16 "TaskComputer$Kernel" "queue" "LTaskComputer$Queue;") (by decide +kernel)) (fun _ h9 => h9) rfl hin rfl (by decide +kernel) rfl rfl (Nat.le_of_ble_eq_true rfl) d_K_init_13 (fun H locs hP hD hS => ?_)
  have hP : va_P D cz_all [(h, .inr (1, [.ref a5, .null, .null, .null, .null, .null])), (a5, .inr (4, [.ref aL, .int 0])), (aL, .inl (cT, 4, .inr (.inr (.inr (.inr (fun _ => none))))))] H := hP
  have hD : va_D A [(h, .inr (1, [.ref a5, .null, .null, .null, .null, .null])), (a5, .inr (4, [.ref aL, .int 0])), (aL, .inl (cT, 4, .inr (.inr (.inr (.inr (fun _ => none))))))] := hD
  refine lv_aload_n hx hb d_K_init_16 rfl (lv_at hl 0 rfl) ?_
  refine va_new (ci := 5) (fs := [.int 0, .int 0, .int 0, .int 0, .int 0, .int 0, .int 0, .int 0, .int 0]) (C := rn_G) (T := fn_G) (N := 9) hx hb hts fw_G ft_G fk_G hown (hts (.classLink rn_K 20 rn_G) (by decide +kernel)) (hts (.instantiable rn_G 9) (by decide +kernel)) (hts (.initialized rn_G) (by decide +kernel)) hK hP hD hS hA rfl (fun j hj => by rcases (show j = 0 ∨ j = 1 ∨ j = 2 ∨ j = 3 ∨ j = 4 ∨ j = 5 ∨ j = 6 ∨ j = 7 ∨ j = 8 by omega) with rfl | rfl | rfl | rfl | rfl | rfl | rfl | rfl | rfl <;> rfl) (by decide) (by decide) d_K_init_17 (fun a17 H hP hD hS => ?_)
  have hP : va_P D cz_all [(h, .inr (1, [.ref a5, .null, .null, .null, .null, .null])), (a5, .inr (4, [.ref aL, .int 0])), (aL, .inl (cT, 4, .inr (.inr (.inr (.inr (fun _ => none)))))), (a17, .inr (5, [.int 0, .int 0, .int 0, .int 0, .int 0, .int 0, .int 0, .int 0, .int 0]))] H := hP
  have hD : va_D A [(h, .inr (1, [.ref a5, .null, .null, .null, .null, .null])), (a5, .inr (4, [.ref aL, .int 0])), (aL, .inl (cT, 4, .inr (.inr (.inr (.inr (fun _ => none)))))), (a17, .inr (5, [.int 0, .int 0, .int 0, .int 0, .int 0, .int 0, .int 0, .int 0, .int 0]))] := hD
  refine W.widen (k := 3) (n := 15) (by decide) (by decide) ?_
  refine lv_dup hx hb d_K_init_20 rfl ?_
  refine cf_m (host := rn_T) (n := 0) (As := []) X ⟨by decide +kernel, by decide +kernel, by decide +kernel, rfl, by decide +kernel, by decide +kernel, by decide +kernel⟩ hN.2.2.2.2 hK hP hD hS hA hN hl (c_G_init l D cI cT a17) ⟨by decide, by decide⟩ rfl rfl [3] [0, 1, 2] rfl rfl (by decide) (by decide) (by decide) rfl rfl (Nat.le_of_ble_eq_true rfl) d_K_init_21 ⟨by decide, by decide⟩ (fun w1 H locs hB hP hD hS => ?_)
  obtain rfl := hB
  have hP : va_P D cz_all [(h, .inr (1, [.ref a5, .null, .null, .null, .null, .null])), (a5, .inr (4, [.ref aL, .int 0])), (aL, .inl (cT, 4, .inr (.inr (.inr (.inr (fun _ => none)))))), (a17, .inr (5, [.int 0, .int 0, .int 0, .int 0, .int 0, .int 0, .int 0, .int 0, .int 0]))] H := hP
  have hD : va_D A [(h, .inr (1, [.ref a5, .null, .null, .null, .null, .null])), (a5, .inr (4, [.ref aL, .int 0])), (aL, .inl (cT, 4, .inr (.inr (.inr (.inr (fun _ => none)))))), (a17, .inr (5, [.int 0, .int 0, .int 0, .int 0, .int 0, .int 0, .int 0, .int 0, .int 0]))] := hD
  refine W.widen (k := 3) (n := 15) (by decide) (by decide) ?_
  refine va_putF (D := D) (ci := 1) (v := .ref a17) (ty := .object "TaskComputer$Registers") (C := rn_K) (T := fn_K) (N := 6) hx hb hts fw_K ft_K fk_K fd_K hown hK hP hD hS 0 rfl rfl 4 (by decide) (hts (.fieldLink rn_K 23 "TaskComputer$Kernel" "spare" "LTaskComputer$Registers;") (by decide +kernel)) (fun _ h9 => h9) rfl hin rfl (by decide +kernel) rfl rfl (Nat.le_of_ble_eq_true rfl) d_K_init_24 (fun H locs hP hD hS => ?_)
  have hP : va_P D cz_all [(h, .inr (1, [.ref a5, .null, .null, .null, .ref a17, .null])), (a5, .inr (4, [.ref aL, .int 0])), (aL, .inl (cT, 4, .inr (.inr (.inr (.inr (fun _ => none)))))), (a17, .inr (5, [.int 0, .int 0, .int 0, .int 0, .int 0, .int 0, .int 0, .int 0, .int 0]))] H := hP
  have hD : va_D A [(h, .inr (1, [.ref a5, .null, .null, .null, .ref a17, .null])), (a5, .inr (4, [.ref aL, .int 0])), (aL, .inl (cT, 4, .inr (.inr (.inr (.inr (fun _ => none)))))), (a17, .inr (5, [.int 0, .int 0, .int 0, .int 0, .int 0, .int 0, .int 0, .int 0, .int 0]))] := hD
  refine lv_aload_n hx hb d_K_init_27 rfl (lv_at hl 0 rfl) ?_
  refine lv_iconst (v := (4 : Int32)) hx hb d_K_init_28 (by decide) ?_
  refine va_newq (C := "TaskComputer$Task") (N' := 4) hx hb hown (hts (.classLink rn_K 27 rn_A) (by decide +kernel)) hN.1 hK hP hD hS hA (by decide) (by decide) (by decide) (by decide) (by decide) d_K_init_29 (fun a29 cA H hK2 hP hD hS => ?_)
  have ec := ar_T hK hK2
  subst ec
  have hP : va_P D cz_all [(h, .inr (1, [.ref a5, .null, .null, .null, .ref a17, .null])), (a5, .inr (4, [.ref aL, .int 0])), (aL, .inl (cT, 4, .inr (.inr (.inr (.inr (fun _ => none)))))), (a17, .inr (5, [.int 0, .int 0, .int 0, .int 0, .int 0, .int 0, .int 0, .int 0, .int 0])), (a29, .inl (cT, 4, .inr (.inr (.inr (.inr (fun _ => none))))))] H := hP
  have hD : va_D A [(h, .inr (1, [.ref a5, .null, .null, .null, .ref a17, .null])), (a5, .inr (4, [.ref aL, .int 0])), (aL, .inl (cT, 4, .inr (.inr (.inr (.inr (fun _ => none)))))), (a17, .inr (5, [.int 0, .int 0, .int 0, .int 0, .int 0, .int 0, .int 0, .int 0, .int 0])), (a29, .inl (cT, 4, .inr (.inr (.inr (.inr (fun _ => none))))))] := hD
  refine W.widen (k := 4) (n := 19) (by decide) (by decide) ?_
  refine va_putF (D := D) (ci := 1) (v := .ref a29) (ty := .array (.object "TaskComputer$Task")) (C := rn_K) (T := fn_K) (N := 6) hx hb hts fw_K ft_K fk_K fd_K hown hK hP hD hS 0 rfl rfl 5 (by decide) (hts (.fieldLink rn_K 29 "TaskComputer$Kernel" "tasks" "[LTaskComputer$Task;") (by decide +kernel)) (fun _ h9 => h9) rfl hin rfl (by decide +kernel) rfl rfl (Nat.le_of_ble_eq_true rfl) d_K_init_32 (fun H locs hP hD hS => ?_)
  have hP : va_P D cz_all [(h, .inr (1, [.ref a5, .null, .null, .null, .ref a17, .ref a29])), (a5, .inr (4, [.ref aL, .int 0])), (aL, .inl (cT, 4, .inr (.inr (.inr (.inr (fun _ => none)))))), (a17, .inr (5, [.int 0, .int 0, .int 0, .int 0, .int 0, .int 0, .int 0, .int 0, .int 0])), (a29, .inl (cT, 4, .inr (.inr (.inr (.inr (fun _ => none))))))] H := hP
  have hD : va_D A [(h, .inr (1, [.ref a5, .null, .null, .null, .ref a17, .ref a29])), (a5, .inr (4, [.ref aL, .int 0])), (aL, .inl (cT, 4, .inr (.inr (.inr (.inr (fun _ => none)))))), (a17, .inr (5, [.int 0, .int 0, .int 0, .int 0, .int 0, .int 0, .int 0, .int 0, .int 0])), (a29, .inl (cT, 4, .inr (.inr (.inr (.inr (fun _ => none))))))] := hD
  refine lv_aload_n hx hb d_K_init_35 rfl (lv_at hl 0 rfl) ?_
  refine lv_aload_n hx hb d_K_init_36 rfl (lv_at hl 1 rfl) ?_
  refine va_putF (D := D) (ci := 1) (v := .ref y) (ty := .object "TaskComputer$Memory") (C := rn_K) (T := fn_K) (N := 6) hx hb hts fw_K ft_K fk_K fd_K hown hK hP hD hS 0 rfl rfl 2 (by decide) (hts (.fieldLink rn_K 33 "TaskComputer$Kernel" "memory" "LTaskComputer$Memory;") (by decide +kernel)) (fun _ h9 => h9) rfl hin rfl (by decide +kernel) rfl rfl (Nat.le_of_ble_eq_true rfl) d_K_init_37 (fun H locs hP hD hS => ?_)
  have hP : va_P D cz_all [(h, .inr (1, [.ref a5, .null, .ref y, .null, .ref a17, .ref a29])), (a5, .inr (4, [.ref aL, .int 0])), (aL, .inl (cT, 4, .inr (.inr (.inr (.inr (fun _ => none)))))), (a17, .inr (5, [.int 0, .int 0, .int 0, .int 0, .int 0, .int 0, .int 0, .int 0, .int 0])), (a29, .inl (cT, 4, .inr (.inr (.inr (.inr (fun _ => none))))))] H := hP
  have hD : va_D A [(h, .inr (1, [.ref a5, .null, .ref y, .null, .ref a17, .ref a29])), (a5, .inr (4, [.ref aL, .int 0])), (aL, .inl (cT, 4, .inr (.inr (.inr (.inr (fun _ => none)))))), (a17, .inr (5, [.int 0, .int 0, .int 0, .int 0, .int 0, .int 0, .int 0, .int 0, .int 0])), (a29, .inl (cT, 4, .inr (.inr (.inr (.inr (fun _ => none))))))] := hD
  refine lv_aload_n hx hb d_K_init_40 rfl (lv_at hl 0 rfl) ?_
  refine lv_aload_n hx hb d_K_init_41 rfl (lv_at hl 2 rfl) ?_
  refine va_putF (D := D) (ci := 1) (v := .ref g) (ty := .object "TaskComputer$Registers") (C := rn_K) (T := fn_K) (N := 6) hx hb hts fw_K ft_K fk_K fd_K hown hK hP hD hS 0 rfl rfl 3 (by decide) (hts (.fieldLink rn_K 37 "TaskComputer$Kernel" "registers" "LTaskComputer$Registers;") (by decide +kernel)) (fun _ h9 => h9) rfl hin rfl (by decide +kernel) rfl rfl (Nat.le_of_ble_eq_true rfl) d_K_init_42 (fun H locs hP hD hS => ?_)
  have hP : va_P D cz_all [(h, .inr (1, [.ref a5, .null, .ref y, .ref g, .ref a17, .ref a29])), (a5, .inr (4, [.ref aL, .int 0])), (aL, .inl (cT, 4, .inr (.inr (.inr (.inr (fun _ => none)))))), (a17, .inr (5, [.int 0, .int 0, .int 0, .int 0, .int 0, .int 0, .int 0, .int 0, .int 0])), (a29, .inl (cT, 4, .inr (.inr (.inr (.inr (fun _ => none))))))] H := hP
  have hD : va_D A [(h, .inr (1, [.ref a5, .null, .ref y, .ref g, .ref a17, .ref a29])), (a5, .inr (4, [.ref aL, .int 0])), (aL, .inl (cT, 4, .inr (.inr (.inr (.inr (fun _ => none)))))), (a17, .inr (5, [.int 0, .int 0, .int 0, .int 0, .int 0, .int 0, .int 0, .int 0, .int 0])), (a29, .inl (cT, 4, .inr (.inr (.inr (.inr (fun _ => none))))))] := hD
  refine lv_iconst (v := (0 : Int32)) hx hb d_K_init_45 (by decide) ?_
  refine lv_istore_n hx hb d_K_init_46 rfl hl (by decide) rfl (fun ls hl => ?_)
  have hl : lv_has ls 4 [(3, .int 0), (0, .ref h), (1, .ref y), (2, .ref g)] := hl
  refine lv_iload_n hx hb d_K_init_47 rfl (lv_at hl 0 rfl) ?_
  refine lv_iconst (v := (4 : Int32)) hx hb d_K_init_48 (by decide) ?_
  refine lv_icmp_ge (tgt := 72) hx hb d_K_init_49 (by decide) (fun hc => absurd hc (by decide)) (fun hc => ?_)
  refine lv_aload_n hx hb d_K_init_52 rfl (lv_at hl 1 rfl) ?_
  refine va_get (D := D) (ci := 1) (v := .ref a29) (C := rn_K) (T := fn_K) (N := 6) hx hb hts fw_K hown hK hP 0 rfl rfl 5 (by decide) (hts (.fieldLink rn_K 29 "TaskComputer$Kernel" "tasks" "[LTaskComputer$Task;") (by decide +kernel)) (fun _ h9 => h9) rfl d_K_init_53 ?_
  refine lv_iload_n hx hb d_K_init_56 rfl (lv_at hl 0 rfl) ?_
  refine va_new (ci := 6) (fs := [.int 0, .int 0, .int 0, .int 0, .int 0]) (C := rn_A) (T := fn_A) (N := 5) hx hb hts fw_A ft_A fk_A hown (hts (.classLink rn_K 27 rn_A) (by decide +kernel)) (hts (.instantiable rn_A 5) (by decide +kernel)) (hts (.initialized rn_A) (by decide +kernel)) hK hP hD hS hA rfl (fun j hj => by rcases (show j = 0 ∨ j = 1 ∨ j = 2 ∨ j = 3 ∨ j = 4 by omega) with rfl | rfl | rfl | rfl | rfl <;> rfl) (by decide) (by decide) d_K_init_57 (fun t0 H hP hD hS => ?_)
  have hP : va_P D cz_all [(h, .inr (1, [.ref a5, .null, .ref y, .ref g, .ref a17, .ref a29])), (a5, .inr (4, [.ref aL, .int 0])), (aL, .inl (cT, 4, .inr (.inr (.inr (.inr (fun _ => none)))))), (a17, .inr (5, [.int 0, .int 0, .int 0, .int 0, .int 0, .int 0, .int 0, .int 0, .int 0])), (a29, .inl (cT, 4, .inr (.inr (.inr (.inr (fun _ => none)))))), (t0, .inr (6, [.int 0, .int 0, .int 0, .int 0, .int 0]))] H := hP
  have hD : va_D A [(h, .inr (1, [.ref a5, .null, .ref y, .ref g, .ref a17, .ref a29])), (a5, .inr (4, [.ref aL, .int 0])), (aL, .inl (cT, 4, .inr (.inr (.inr (.inr (fun _ => none)))))), (a17, .inr (5, [.int 0, .int 0, .int 0, .int 0, .int 0, .int 0, .int 0, .int 0, .int 0])), (a29, .inl (cT, 4, .inr (.inr (.inr (.inr (fun _ => none)))))), (t0, .inr (6, [.int 0, .int 0, .int 0, .int 0, .int 0]))] := hD
  refine W.widen (k := 5) (n := 24) (by decide) (by decide) ?_
  refine lv_dup hx hb d_K_init_60 rfl ?_
  refine lv_iload_n hx hb d_K_init_61 rfl (lv_at hl 0 rfl) ?_
  refine cf_n (n := 1) (As := [.int 0]) X ⟨by decide +kernel, by decide +kernel, by decide +kernel, by decide +kernel, rfl, by decide +kernel, by decide +kernel, by decide +kernel⟩ hK hP hD hS hA hN hl (c_A_init l D cI cT t0 0) ⟨by decide, by decide⟩ rfl rfl [5] [0, 1, 2, 3, 4] rfl rfl (by decide) (by decide) (by decide) rfl rfl (Nat.le_of_ble_eq_true rfl) d_K_init_62 ⟨by decide, by decide⟩ (fun w1 H locs hB hP hD hS => ?_)
  obtain rfl := hB
  have hP : va_P D cz_all [(h, .inr (1, [.ref a5, .null, .ref y, .ref g, .ref a17, .ref a29])), (a5, .inr (4, [.ref aL, .int 0])), (aL, .inl (cT, 4, .inr (.inr (.inr (.inr (fun _ => none)))))), (a17, .inr (5, [.int 0, .int 0, .int 0, .int 0, .int 0, .int 0, .int 0, .int 0, .int 0])), (a29, .inl (cT, 4, .inr (.inr (.inr (.inr (fun _ => none)))))), (t0, .inr (6, [.int 0, .int 0, .int 0, .int 0, .int 0]))] H := hP
  have hD : va_D A [(h, .inr (1, [.ref a5, .null, .ref y, .ref g, .ref a17, .ref a29])), (a5, .inr (4, [.ref aL, .int 0])), (aL, .inl (cT, 4, .inr (.inr (.inr (.inr (fun _ => none)))))), (a17, .inr (5, [.int 0, .int 0, .int 0, .int 0, .int 0, .int 0, .int 0, .int 0, .int 0])), (a29, .inl (cT, 4, .inr (.inr (.inr (.inr (fun _ => none)))))), (t0, .inr (6, [.int 0, .int 0, .int 0, .int 0, .int 0]))] := hD
  refine W.widen (k := 5) (n := 24) (by decide) (by decide) ?_
  refine va_astq hx hb hK hP hD hS 4 1 5 6 rfl rfl rfl rfl (in_b_vp (by decide)) d_K_init_65 (fun H locs hP hD hS => ?_)
  have hP : va_P D cz_all [(h, .inr (1, [.ref a5, .null, .ref y, .ref g, .ref a17, .ref a29])), (a5, .inr (4, [.ref aL, .int 0])), (aL, .inl (cT, 4, .inr (.inr (.inr (.inr (fun _ => none)))))), (a17, .inr (5, [.int 0, .int 0, .int 0, .int 0, .int 0, .int 0, .int 0, .int 0, .int 0])), (a29, .inl (cT, 4, .inr (.inr (.inr (.inr (va_up (fun _ => none) 0 (some t0))))))), (t0, .inr (6, [.int 0, .int 0, .int 0, .int 0, .int 0]))] H := hP
  have hD : va_D A [(h, .inr (1, [.ref a5, .null, .ref y, .ref g, .ref a17, .ref a29])), (a5, .inr (4, [.ref aL, .int 0])), (aL, .inl (cT, 4, .inr (.inr (.inr (.inr (fun _ => none)))))), (a17, .inr (5, [.int 0, .int 0, .int 0, .int 0, .int 0, .int 0, .int 0, .int 0, .int 0])), (a29, .inl (cT, 4, .inr (.inr (.inr (.inr (va_up (fun _ => none) 0 (some t0))))))), (t0, .inr (6, [.int 0, .int 0, .int 0, .int 0, .int 0]))] := hD
  refine lv_iinc (k := 0) hx hb d_K_init_66 hl rfl rfl (by decide) rfl (fun ls hl => ?_)
  have hl : lv_has ls 4 [(3, .int 1), (0, .ref h), (1, .ref y), (2, .ref g)] := hl
  refine lv_goto (tgt := 47) hx hb d_K_init_69 (by decide) ?_
  refine lv_iload_n hx hb d_K_init_47 rfl (lv_at hl 0 rfl) ?_
  refine lv_iconst (v := (4 : Int32)) hx hb d_K_init_48 (by decide) ?_
  refine lv_icmp_ge (tgt := 72) hx hb d_K_init_49 (by decide) (fun hc => absurd hc (by decide)) (fun hc => ?_)
  refine lv_aload_n hx hb d_K_init_52 rfl (lv_at hl 1 rfl) ?_
  refine va_get (D := D) (ci := 1) (v := .ref a29) (C := rn_K) (T := fn_K) (N := 6) hx hb hts fw_K hown hK hP 0 rfl rfl 5 (by decide) (hts (.fieldLink rn_K 29 "TaskComputer$Kernel" "tasks" "[LTaskComputer$Task;") (by decide +kernel)) (fun _ h9 => h9) rfl d_K_init_53 ?_
  refine lv_iload_n hx hb d_K_init_56 rfl (lv_at hl 0 rfl) ?_
  refine va_new (ci := 6) (fs := [.int 0, .int 0, .int 0, .int 0, .int 0]) (C := rn_A) (T := fn_A) (N := 5) hx hb hts fw_A ft_A fk_A hown (hts (.classLink rn_K 27 rn_A) (by decide +kernel)) (hts (.instantiable rn_A 5) (by decide +kernel)) (hts (.initialized rn_A) (by decide +kernel)) hK hP hD hS hA rfl (fun j hj => by rcases (show j = 0 ∨ j = 1 ∨ j = 2 ∨ j = 3 ∨ j = 4 by omega) with rfl | rfl | rfl | rfl | rfl <;> rfl) (by decide) (by decide) d_K_init_57 (fun t1 H hP hD hS => ?_)
  have hP : va_P D cz_all [(h, .inr (1, [.ref a5, .null, .ref y, .ref g, .ref a17, .ref a29])), (a5, .inr (4, [.ref aL, .int 0])), (aL, .inl (cT, 4, .inr (.inr (.inr (.inr (fun _ => none)))))), (a17, .inr (5, [.int 0, .int 0, .int 0, .int 0, .int 0, .int 0, .int 0, .int 0, .int 0])), (a29, .inl (cT, 4, .inr (.inr (.inr (.inr (va_up (fun _ => none) 0 (some t0))))))), (t0, .inr (6, [.int 0, .int 0, .int 0, .int 0, .int 0])), (t1, .inr (6, [.int 0, .int 0, .int 0, .int 0, .int 0]))] H := hP
  have hD : va_D A [(h, .inr (1, [.ref a5, .null, .ref y, .ref g, .ref a17, .ref a29])), (a5, .inr (4, [.ref aL, .int 0])), (aL, .inl (cT, 4, .inr (.inr (.inr (.inr (fun _ => none)))))), (a17, .inr (5, [.int 0, .int 0, .int 0, .int 0, .int 0, .int 0, .int 0, .int 0, .int 0])), (a29, .inl (cT, 4, .inr (.inr (.inr (.inr (va_up (fun _ => none) 0 (some t0))))))), (t0, .inr (6, [.int 0, .int 0, .int 0, .int 0, .int 0])), (t1, .inr (6, [.int 0, .int 0, .int 0, .int 0, .int 0]))] := hD
  refine W.widen (k := 6) (n := 29) (by decide) (by decide) ?_
  refine lv_dup hx hb d_K_init_60 rfl ?_
  refine lv_iload_n hx hb d_K_init_61 rfl (lv_at hl 0 rfl) ?_
  refine cf_n (n := 1) (As := [.int 1]) X ⟨by decide +kernel, by decide +kernel, by decide +kernel, by decide +kernel, rfl, by decide +kernel, by decide +kernel, by decide +kernel⟩ hK hP hD hS hA hN hl (c_A_init l D cI cT t1 1) ⟨by decide, by decide⟩ rfl rfl [6] [0, 1, 2, 3, 4, 5] rfl rfl (by decide) (by decide) (by decide) rfl rfl (Nat.le_of_ble_eq_true rfl) d_K_init_62 ⟨by decide, by decide⟩ (fun w1 H locs hB hP hD hS => ?_)
  obtain rfl := hB
  have hP : va_P D cz_all [(h, .inr (1, [.ref a5, .null, .ref y, .ref g, .ref a17, .ref a29])), (a5, .inr (4, [.ref aL, .int 0])), (aL, .inl (cT, 4, .inr (.inr (.inr (.inr (fun _ => none)))))), (a17, .inr (5, [.int 0, .int 0, .int 0, .int 0, .int 0, .int 0, .int 0, .int 0, .int 0])), (a29, .inl (cT, 4, .inr (.inr (.inr (.inr (va_up (fun _ => none) 0 (some t0))))))), (t0, .inr (6, [.int 0, .int 0, .int 0, .int 0, .int 0])), (t1, .inr (6, [.int 1, .int 0, .int 0, .int 0, .int 0]))] H := hP
  have hD : va_D A [(h, .inr (1, [.ref a5, .null, .ref y, .ref g, .ref a17, .ref a29])), (a5, .inr (4, [.ref aL, .int 0])), (aL, .inl (cT, 4, .inr (.inr (.inr (.inr (fun _ => none)))))), (a17, .inr (5, [.int 0, .int 0, .int 0, .int 0, .int 0, .int 0, .int 0, .int 0, .int 0])), (a29, .inl (cT, 4, .inr (.inr (.inr (.inr (va_up (fun _ => none) 0 (some t0))))))), (t0, .inr (6, [.int 0, .int 0, .int 0, .int 0, .int 0])), (t1, .inr (6, [.int 1, .int 0, .int 0, .int 0, .int 0]))] := hD
  refine W.widen (k := 6) (n := 29) (by decide) (by decide) ?_
  refine va_astq hx hb hK hP hD hS 4 1 6 6 rfl rfl rfl rfl (in_b_vp (by decide)) d_K_init_65 (fun H locs hP hD hS => ?_)
  have hP : va_P D cz_all [(h, .inr (1, [.ref a5, .null, .ref y, .ref g, .ref a17, .ref a29])), (a5, .inr (4, [.ref aL, .int 0])), (aL, .inl (cT, 4, .inr (.inr (.inr (.inr (fun _ => none)))))), (a17, .inr (5, [.int 0, .int 0, .int 0, .int 0, .int 0, .int 0, .int 0, .int 0, .int 0])), (a29, .inl (cT, 4, .inr (.inr (.inr (.inr (va_up (va_up (fun _ => none) 0 (some t0)) 1 (some t1))))))), (t0, .inr (6, [.int 0, .int 0, .int 0, .int 0, .int 0])), (t1, .inr (6, [.int 1, .int 0, .int 0, .int 0, .int 0]))] H := hP
  have hD : va_D A [(h, .inr (1, [.ref a5, .null, .ref y, .ref g, .ref a17, .ref a29])), (a5, .inr (4, [.ref aL, .int 0])), (aL, .inl (cT, 4, .inr (.inr (.inr (.inr (fun _ => none)))))), (a17, .inr (5, [.int 0, .int 0, .int 0, .int 0, .int 0, .int 0, .int 0, .int 0, .int 0])), (a29, .inl (cT, 4, .inr (.inr (.inr (.inr (va_up (va_up (fun _ => none) 0 (some t0)) 1 (some t1))))))), (t0, .inr (6, [.int 0, .int 0, .int 0, .int 0, .int 0])), (t1, .inr (6, [.int 1, .int 0, .int 0, .int 0, .int 0]))] := hD
  refine lv_iinc (k := 0) hx hb d_K_init_66 hl rfl rfl (by decide) rfl (fun ls hl => ?_)
  have hl : lv_has ls 4 [(3, .int 2), (0, .ref h), (1, .ref y), (2, .ref g)] := hl
  refine lv_goto (tgt := 47) hx hb d_K_init_69 (by decide) ?_
  refine lv_iload_n hx hb d_K_init_47 rfl (lv_at hl 0 rfl) ?_
  refine lv_iconst (v := (4 : Int32)) hx hb d_K_init_48 (by decide) ?_
  refine lv_icmp_ge (tgt := 72) hx hb d_K_init_49 (by decide) (fun hc => absurd hc (by decide)) (fun hc => ?_)
  refine lv_aload_n hx hb d_K_init_52 rfl (lv_at hl 1 rfl) ?_
  refine va_get (D := D) (ci := 1) (v := .ref a29) (C := rn_K) (T := fn_K) (N := 6) hx hb hts fw_K hown hK hP 0 rfl rfl 5 (by decide) (hts (.fieldLink rn_K 29 "TaskComputer$Kernel" "tasks" "[LTaskComputer$Task;") (by decide +kernel)) (fun _ h9 => h9) rfl d_K_init_53 ?_
  refine lv_iload_n hx hb d_K_init_56 rfl (lv_at hl 0 rfl) ?_
  refine va_new (ci := 6) (fs := [.int 0, .int 0, .int 0, .int 0, .int 0]) (C := rn_A) (T := fn_A) (N := 5) hx hb hts fw_A ft_A fk_A hown (hts (.classLink rn_K 27 rn_A) (by decide +kernel)) (hts (.instantiable rn_A 5) (by decide +kernel)) (hts (.initialized rn_A) (by decide +kernel)) hK hP hD hS hA rfl (fun j hj => by rcases (show j = 0 ∨ j = 1 ∨ j = 2 ∨ j = 3 ∨ j = 4 by omega) with rfl | rfl | rfl | rfl | rfl <;> rfl) (by decide) (by decide) d_K_init_57 (fun t2 H hP hD hS => ?_)
  have hP : va_P D cz_all [(h, .inr (1, [.ref a5, .null, .ref y, .ref g, .ref a17, .ref a29])), (a5, .inr (4, [.ref aL, .int 0])), (aL, .inl (cT, 4, .inr (.inr (.inr (.inr (fun _ => none)))))), (a17, .inr (5, [.int 0, .int 0, .int 0, .int 0, .int 0, .int 0, .int 0, .int 0, .int 0])), (a29, .inl (cT, 4, .inr (.inr (.inr (.inr (va_up (va_up (fun _ => none) 0 (some t0)) 1 (some t1))))))), (t0, .inr (6, [.int 0, .int 0, .int 0, .int 0, .int 0])), (t1, .inr (6, [.int 1, .int 0, .int 0, .int 0, .int 0])), (t2, .inr (6, [.int 0, .int 0, .int 0, .int 0, .int 0]))] H := hP
  have hD : va_D A [(h, .inr (1, [.ref a5, .null, .ref y, .ref g, .ref a17, .ref a29])), (a5, .inr (4, [.ref aL, .int 0])), (aL, .inl (cT, 4, .inr (.inr (.inr (.inr (fun _ => none)))))), (a17, .inr (5, [.int 0, .int 0, .int 0, .int 0, .int 0, .int 0, .int 0, .int 0, .int 0])), (a29, .inl (cT, 4, .inr (.inr (.inr (.inr (va_up (va_up (fun _ => none) 0 (some t0)) 1 (some t1))))))), (t0, .inr (6, [.int 0, .int 0, .int 0, .int 0, .int 0])), (t1, .inr (6, [.int 1, .int 0, .int 0, .int 0, .int 0])), (t2, .inr (6, [.int 0, .int 0, .int 0, .int 0, .int 0]))] := hD
  refine W.widen (k := 7) (n := 34) (by decide) (by decide) ?_
  refine lv_dup hx hb d_K_init_60 rfl ?_
  refine lv_iload_n hx hb d_K_init_61 rfl (lv_at hl 0 rfl) ?_
  refine cf_n (n := 1) (As := [.int 2]) X ⟨by decide +kernel, by decide +kernel, by decide +kernel, by decide +kernel, rfl, by decide +kernel, by decide +kernel, by decide +kernel⟩ hK hP hD hS hA hN hl (c_A_init l D cI cT t2 2) ⟨by decide, by decide⟩ rfl rfl [7] [0, 1, 2, 3, 4, 5, 6] rfl rfl (by decide) (by decide) (by decide) rfl rfl (Nat.le_of_ble_eq_true rfl) d_K_init_62 ⟨by decide, by decide⟩ (fun w1 H locs hB hP hD hS => ?_)
  obtain rfl := hB
  have hP : va_P D cz_all [(h, .inr (1, [.ref a5, .null, .ref y, .ref g, .ref a17, .ref a29])), (a5, .inr (4, [.ref aL, .int 0])), (aL, .inl (cT, 4, .inr (.inr (.inr (.inr (fun _ => none)))))), (a17, .inr (5, [.int 0, .int 0, .int 0, .int 0, .int 0, .int 0, .int 0, .int 0, .int 0])), (a29, .inl (cT, 4, .inr (.inr (.inr (.inr (va_up (va_up (fun _ => none) 0 (some t0)) 1 (some t1))))))), (t0, .inr (6, [.int 0, .int 0, .int 0, .int 0, .int 0])), (t1, .inr (6, [.int 1, .int 0, .int 0, .int 0, .int 0])), (t2, .inr (6, [.int 2, .int 0, .int 0, .int 0, .int 0]))] H := hP
  have hD : va_D A [(h, .inr (1, [.ref a5, .null, .ref y, .ref g, .ref a17, .ref a29])), (a5, .inr (4, [.ref aL, .int 0])), (aL, .inl (cT, 4, .inr (.inr (.inr (.inr (fun _ => none)))))), (a17, .inr (5, [.int 0, .int 0, .int 0, .int 0, .int 0, .int 0, .int 0, .int 0, .int 0])), (a29, .inl (cT, 4, .inr (.inr (.inr (.inr (va_up (va_up (fun _ => none) 0 (some t0)) 1 (some t1))))))), (t0, .inr (6, [.int 0, .int 0, .int 0, .int 0, .int 0])), (t1, .inr (6, [.int 1, .int 0, .int 0, .int 0, .int 0])), (t2, .inr (6, [.int 2, .int 0, .int 0, .int 0, .int 0]))] := hD
  refine W.widen (k := 7) (n := 34) (by decide) (by decide) ?_
  refine va_astq hx hb hK hP hD hS 4 1 7 6 rfl rfl rfl rfl (in_b_vp (by decide)) d_K_init_65 (fun H locs hP hD hS => ?_)
  have hP : va_P D cz_all [(h, .inr (1, [.ref a5, .null, .ref y, .ref g, .ref a17, .ref a29])), (a5, .inr (4, [.ref aL, .int 0])), (aL, .inl (cT, 4, .inr (.inr (.inr (.inr (fun _ => none)))))), (a17, .inr (5, [.int 0, .int 0, .int 0, .int 0, .int 0, .int 0, .int 0, .int 0, .int 0])), (a29, .inl (cT, 4, .inr (.inr (.inr (.inr (va_up (va_up (va_up (fun _ => none) 0 (some t0)) 1 (some t1)) 2 (some t2))))))), (t0, .inr (6, [.int 0, .int 0, .int 0, .int 0, .int 0])), (t1, .inr (6, [.int 1, .int 0, .int 0, .int 0, .int 0])), (t2, .inr (6, [.int 2, .int 0, .int 0, .int 0, .int 0]))] H := hP
  have hD : va_D A [(h, .inr (1, [.ref a5, .null, .ref y, .ref g, .ref a17, .ref a29])), (a5, .inr (4, [.ref aL, .int 0])), (aL, .inl (cT, 4, .inr (.inr (.inr (.inr (fun _ => none)))))), (a17, .inr (5, [.int 0, .int 0, .int 0, .int 0, .int 0, .int 0, .int 0, .int 0, .int 0])), (a29, .inl (cT, 4, .inr (.inr (.inr (.inr (va_up (va_up (va_up (fun _ => none) 0 (some t0)) 1 (some t1)) 2 (some t2))))))), (t0, .inr (6, [.int 0, .int 0, .int 0, .int 0, .int 0])), (t1, .inr (6, [.int 1, .int 0, .int 0, .int 0, .int 0])), (t2, .inr (6, [.int 2, .int 0, .int 0, .int 0, .int 0]))] := hD
  refine lv_iinc (k := 0) hx hb d_K_init_66 hl rfl rfl (by decide) rfl (fun ls hl => ?_)
  have hl : lv_has ls 4 [(3, .int 3), (0, .ref h), (1, .ref y), (2, .ref g)] := hl
  refine lv_goto (tgt := 47) hx hb d_K_init_69 (by decide) ?_
  refine lv_iload_n hx hb d_K_init_47 rfl (lv_at hl 0 rfl) ?_
  refine lv_iconst (v := (4 : Int32)) hx hb d_K_init_48 (by decide) ?_
  refine lv_icmp_ge (tgt := 72) hx hb d_K_init_49 (by decide) (fun hc => absurd hc (by decide)) (fun hc => ?_)
  refine lv_aload_n hx hb d_K_init_52 rfl (lv_at hl 1 rfl) ?_
  refine va_get (D := D) (ci := 1) (v := .ref a29) (C := rn_K) (T := fn_K) (N := 6) hx hb hts fw_K hown hK hP 0 rfl rfl 5 (by decide) (hts (.fieldLink rn_K 29 "TaskComputer$Kernel" "tasks" "[LTaskComputer$Task;") (by decide +kernel)) (fun _ h9 => h9) rfl d_K_init_53 ?_
  refine lv_iload_n hx hb d_K_init_56 rfl (lv_at hl 0 rfl) ?_
  refine va_new (ci := 6) (fs := [.int 0, .int 0, .int 0, .int 0, .int 0]) (C := rn_A) (T := fn_A) (N := 5) hx hb hts fw_A ft_A fk_A hown (hts (.classLink rn_K 27 rn_A) (by decide +kernel)) (hts (.instantiable rn_A 5) (by decide +kernel)) (hts (.initialized rn_A) (by decide +kernel)) hK hP hD hS hA rfl (fun j hj => by rcases (show j = 0 ∨ j = 1 ∨ j = 2 ∨ j = 3 ∨ j = 4 by omega) with rfl | rfl | rfl | rfl | rfl <;> rfl) (by decide) (by decide) d_K_init_57 (fun t3 H hP hD hS => ?_)
  have hP : va_P D cz_all [(h, .inr (1, [.ref a5, .null, .ref y, .ref g, .ref a17, .ref a29])), (a5, .inr (4, [.ref aL, .int 0])), (aL, .inl (cT, 4, .inr (.inr (.inr (.inr (fun _ => none)))))), (a17, .inr (5, [.int 0, .int 0, .int 0, .int 0, .int 0, .int 0, .int 0, .int 0, .int 0])), (a29, .inl (cT, 4, .inr (.inr (.inr (.inr (va_up (va_up (va_up (fun _ => none) 0 (some t0)) 1 (some t1)) 2 (some t2))))))), (t0, .inr (6, [.int 0, .int 0, .int 0, .int 0, .int 0])), (t1, .inr (6, [.int 1, .int 0, .int 0, .int 0, .int 0])), (t2, .inr (6, [.int 2, .int 0, .int 0, .int 0, .int 0])), (t3, .inr (6, [.int 0, .int 0, .int 0, .int 0, .int 0]))] H := hP
  have hD : va_D A [(h, .inr (1, [.ref a5, .null, .ref y, .ref g, .ref a17, .ref a29])), (a5, .inr (4, [.ref aL, .int 0])), (aL, .inl (cT, 4, .inr (.inr (.inr (.inr (fun _ => none)))))), (a17, .inr (5, [.int 0, .int 0, .int 0, .int 0, .int 0, .int 0, .int 0, .int 0, .int 0])), (a29, .inl (cT, 4, .inr (.inr (.inr (.inr (va_up (va_up (va_up (fun _ => none) 0 (some t0)) 1 (some t1)) 2 (some t2))))))), (t0, .inr (6, [.int 0, .int 0, .int 0, .int 0, .int 0])), (t1, .inr (6, [.int 1, .int 0, .int 0, .int 0, .int 0])), (t2, .inr (6, [.int 2, .int 0, .int 0, .int 0, .int 0])), (t3, .inr (6, [.int 0, .int 0, .int 0, .int 0, .int 0]))] := hD
  refine W.widen (k := 8) (n := 39) (by decide) (by decide) ?_
  refine lv_dup hx hb d_K_init_60 rfl ?_
  refine lv_iload_n hx hb d_K_init_61 rfl (lv_at hl 0 rfl) ?_
  refine cf_n (n := 1) (As := [.int 3]) X ⟨by decide +kernel, by decide +kernel, by decide +kernel, by decide +kernel, rfl, by decide +kernel, by decide +kernel, by decide +kernel⟩ hK hP hD hS hA hN hl (c_A_init l D cI cT t3 3) ⟨by decide, by decide⟩ rfl rfl [8] [0, 1, 2, 3, 4, 5, 6, 7] rfl rfl (by decide) (by decide) (by decide) rfl rfl (Nat.le_of_ble_eq_true rfl) d_K_init_62 ⟨by decide, by decide⟩ (fun w1 H locs hB hP hD hS => ?_)
  obtain rfl := hB
  have hP : va_P D cz_all [(h, .inr (1, [.ref a5, .null, .ref y, .ref g, .ref a17, .ref a29])), (a5, .inr (4, [.ref aL, .int 0])), (aL, .inl (cT, 4, .inr (.inr (.inr (.inr (fun _ => none)))))), (a17, .inr (5, [.int 0, .int 0, .int 0, .int 0, .int 0, .int 0, .int 0, .int 0, .int 0])), (a29, .inl (cT, 4, .inr (.inr (.inr (.inr (va_up (va_up (va_up (fun _ => none) 0 (some t0)) 1 (some t1)) 2 (some t2))))))), (t0, .inr (6, [.int 0, .int 0, .int 0, .int 0, .int 0])), (t1, .inr (6, [.int 1, .int 0, .int 0, .int 0, .int 0])), (t2, .inr (6, [.int 2, .int 0, .int 0, .int 0, .int 0])), (t3, .inr (6, [.int 3, .int 0, .int 0, .int 0, .int 0]))] H := hP
  have hD : va_D A [(h, .inr (1, [.ref a5, .null, .ref y, .ref g, .ref a17, .ref a29])), (a5, .inr (4, [.ref aL, .int 0])), (aL, .inl (cT, 4, .inr (.inr (.inr (.inr (fun _ => none)))))), (a17, .inr (5, [.int 0, .int 0, .int 0, .int 0, .int 0, .int 0, .int 0, .int 0, .int 0])), (a29, .inl (cT, 4, .inr (.inr (.inr (.inr (va_up (va_up (va_up (fun _ => none) 0 (some t0)) 1 (some t1)) 2 (some t2))))))), (t0, .inr (6, [.int 0, .int 0, .int 0, .int 0, .int 0])), (t1, .inr (6, [.int 1, .int 0, .int 0, .int 0, .int 0])), (t2, .inr (6, [.int 2, .int 0, .int 0, .int 0, .int 0])), (t3, .inr (6, [.int 3, .int 0, .int 0, .int 0, .int 0]))] := hD
  refine W.widen (k := 8) (n := 39) (by decide) (by decide) ?_
  refine va_astq hx hb hK hP hD hS 4 1 8 6 rfl rfl rfl rfl (in_b_vp (by decide)) d_K_init_65 (fun H locs hP hD hS => ?_)
  have hP : va_P D cz_all [(h, .inr (1, [.ref a5, .null, .ref y, .ref g, .ref a17, .ref a29])), (a5, .inr (4, [.ref aL, .int 0])), (aL, .inl (cT, 4, .inr (.inr (.inr (.inr (fun _ => none)))))), (a17, .inr (5, [.int 0, .int 0, .int 0, .int 0, .int 0, .int 0, .int 0, .int 0, .int 0])), (a29, .inl (cT, 4, .inr (.inr (.inr (.inr (va_up (va_up (va_up (va_up (fun _ => none) 0 (some t0)) 1 (some t1)) 2 (some t2)) 3 (some t3))))))), (t0, .inr (6, [.int 0, .int 0, .int 0, .int 0, .int 0])), (t1, .inr (6, [.int 1, .int 0, .int 0, .int 0, .int 0])), (t2, .inr (6, [.int 2, .int 0, .int 0, .int 0, .int 0])), (t3, .inr (6, [.int 3, .int 0, .int 0, .int 0, .int 0]))] H := hP
  have hD : va_D A [(h, .inr (1, [.ref a5, .null, .ref y, .ref g, .ref a17, .ref a29])), (a5, .inr (4, [.ref aL, .int 0])), (aL, .inl (cT, 4, .inr (.inr (.inr (.inr (fun _ => none)))))), (a17, .inr (5, [.int 0, .int 0, .int 0, .int 0, .int 0, .int 0, .int 0, .int 0, .int 0])), (a29, .inl (cT, 4, .inr (.inr (.inr (.inr (va_up (va_up (va_up (va_up (fun _ => none) 0 (some t0)) 1 (some t1)) 2 (some t2)) 3 (some t3))))))), (t0, .inr (6, [.int 0, .int 0, .int 0, .int 0, .int 0])), (t1, .inr (6, [.int 1, .int 0, .int 0, .int 0, .int 0])), (t2, .inr (6, [.int 2, .int 0, .int 0, .int 0, .int 0])), (t3, .inr (6, [.int 3, .int 0, .int 0, .int 0, .int 0]))] := hD
  refine lv_iinc (k := 0) hx hb d_K_init_66 hl rfl rfl (by decide) rfl (fun ls hl => ?_)
  have hl : lv_has ls 4 [(3, .int 4), (0, .ref h), (1, .ref y), (2, .ref g)] := hl
  refine lv_goto (tgt := 47) hx hb d_K_init_69 (by decide) ?_
  refine lv_iload_n hx hb d_K_init_47 rfl (lv_at hl 0 rfl) ?_
  refine lv_iconst (v := (4 : Int32)) hx hb d_K_init_48 (by decide) ?_
  refine lv_icmp_ge (tgt := 72) hx hb d_K_init_49 (by decide) (fun hc => ?_) (fun hc => absurd hc (by decide))
  have hP9 := P_fn hP 4 (fun j => some (tk4 t0 t1 t2 t3 j)) rfl (by intro j hj; rcases (show j = 0 ∨ j = 1 ∨ j = 2 ∨ j = 3 by omega) with rfl | rfl | rfl | rfl <;> rfl)
  have hD9 := hD.set (p := 4) (e := .inl (cT, 4, .inr (.inr (.inr (.inr (fun j => some (tk4 t0 t1 t2 t3 j))))))) rfl
  exact rt_n X hr hlk hK ⟨a5, aL, a17, a29, tk4 t0 t1 t2 t3, rfl⟩ hP9 hD9 hS d_K_init_72
theorem d_T_init_0 : decode mb_T_init 0 = .ok (.aload_n 0, 1) := by decide +kernel
theorem d_T_init_1 : decode mb_T_init 1 = .ok (.invokespecial 1, 3) := by decide +kernel
theorem d_T_init_4 : decode mb_T_init 4 = .ok (.new 7, 3) := by decide +kernel
theorem d_T_init_7 : decode mb_T_init 7 = .ok (.dup, 1) := by decide +kernel
theorem d_T_init_8 : decode mb_T_init 8 = .ok (.invokespecial 9, 3) := by decide +kernel
theorem d_T_init_11 : decode mb_T_init 11 = .ok (.astore_n 1, 1) := by decide +kernel
theorem d_T_init_12 : decode mb_T_init 12 = .ok (.new 10, 3) := by decide +kernel
theorem d_T_init_15 : decode mb_T_init 15 = .ok (.dup, 1) := by decide +kernel
theorem d_T_init_16 : decode mb_T_init 16 = .ok (.invokespecial 12, 3) := by decide +kernel
theorem d_T_init_19 : decode mb_T_init 19 = .ok (.astore_n 2, 1) := by decide +kernel
theorem d_T_init_20 : decode mb_T_init 20 = .ok (.aload_n 0, 1) := by decide +kernel
theorem d_T_init_21 : decode mb_T_init 21 = .ok (.aload_n 1, 1) := by decide +kernel
theorem d_T_init_22 : decode mb_T_init 22 = .ok (.putfield 13, 3) := by decide +kernel
theorem d_T_init_25 : decode mb_T_init 25 = .ok (.aload_n 0, 1) := by decide +kernel
theorem d_T_init_26 : decode mb_T_init 26 = .ok (.new 19, 3) := by decide +kernel
theorem d_T_init_29 : decode mb_T_init 29 = .ok (.dup, 1) := by decide +kernel
theorem d_T_init_30 : decode mb_T_init 30 = .ok (.aload_n 1, 1) := by decide +kernel
theorem d_T_init_31 : decode mb_T_init 31 = .ok (.aload_n 2, 1) := by decide +kernel
theorem d_T_init_32 : decode mb_T_init 32 = .ok (.invokespecial 21, 3) := by decide +kernel
theorem d_T_init_35 : decode mb_T_init 35 = .ok (.putfield 24, 3) := by decide +kernel
theorem d_T_init_38 : decode mb_T_init 38 = .ok (.aload_n 0, 1) := by decide +kernel
theorem d_T_init_39 : decode mb_T_init 39 = .ok (.new 28, 3) := by decide +kernel
theorem d_T_init_42 : decode mb_T_init 42 = .ok (.dup, 1) := by decide +kernel
theorem d_T_init_43 : decode mb_T_init 43 = .ok (.aload_n 1, 1) := by decide +kernel
theorem d_T_init_44 : decode mb_T_init 44 = .ok (.aload_n 2, 1) := by decide +kernel
theorem d_T_init_45 : decode mb_T_init 45 = .ok (.invokespecial 30, 3) := by decide +kernel
theorem d_T_init_48 : decode mb_T_init 48 = .ok (.putfield 31, 3) := by decide +kernel
theorem d_T_init_51 : decode mb_T_init 51 = .ok (.aload_n 0, 1) := by decide +kernel
theorem d_T_init_52 : decode mb_T_init 52 = .ok (.new 35, 3) := by decide +kernel
theorem d_T_init_55 : decode mb_T_init 55 = .ok (.dup, 1) := by decide +kernel
theorem d_T_init_56 : decode mb_T_init 56 = .ok (.invokespecial 37, 3) := by decide +kernel
theorem d_T_init_59 : decode mb_T_init 59 = .ok (.putfield 38, 3) := by decide +kernel
theorem d_T_init_62 : decode mb_T_init 62 = .ok (.return_, 1) := by decide +kernel
set_option maxHeartbeats 4000000 in
set_option maxRecDepth 100000 in
theorem c_T_init (l : Launch) (D : va_G) (cI cT : ClassId) (h : Nat) : cn_v l my_T_init mb_T_init 3 ⟨3, 15, 579, 56⟩ D (ty_ cI cT) [.ref h] [(h, .inr (8, [.null, .null, .null, .null]))] (fun w' => ∃ (aK aQ aL aA : Nat) (tk : Nat → Nat) (aY aB aG aS aP aC aI : Nat), w' = ct_ h aK aQ aL aA tk aY aB aG aS aP aC aI cI cT none 0 (fun _ => none) (fun _ => 0) (fun _ => 0) (fun _ => 0) (fun _ => 0) (fun _ => 0) 0 0 0 0 0 0 0 0 0 0 0 0 0 0 0 0 0 0 0 0 0 0 0 0 0 false) 15 579 := by
  refine cn_v_of (by decide) rfl (Nat.le_of_ble_eq_true rfl) ?_
  intro p e s m below meth c A ls X hr hlk hin hK hP hD hS hA hN hl
  have hx := X.1
  have hb := X.2.1
  have hml := X.2.2.1
  have hown := X.2.2.2.1
  have hts := X.2.2.2.2
  have hl : lv_has ls 3 [(0, .ref h)] := hl
  have hP : va_P D cz_all [(h, .inr (8, [.null, .null, .null, .null]))] s.heap := hP
  refine lv_aload_n hx hb d_T_init_0 rfl (lv_at hl 0 rfl) ?_
  refine W.objInit hx hb hown (hts (.methodLink rn_T 1 objectInit) (by decide +kernel)) (hts _ oi_1) (hts _ oi_2) rfl (by rw [hml]; exact hl.1) rfl d_T_init_1 (Nat.le_of_ble_eq_true rfl) (Nat.le_of_ble_eq_true rfl) ?_
  refine W.eq (g2 := F0 m 4 ls []) rfl ?_
  refine va_new (ci := 2) (fs := [.null]) (C := rn_Y) (T := fn_Y) (N := 1) hx hb hts fw_Y ft_Y fk_Y hown (hts (.classLink rn_T 7 rn_Y) (by decide +kernel)) (hts (.instantiable rn_Y 1) (by decide +kernel)) (hts (.initialized rn_Y) (by decide +kernel)) hK hP hD hS hA rfl (fun j hj => by rcases (show j = 0 by omega) with rfl <;> rfl) (by decide) (by decide) d_T_init_4 (fun a4 H hP hD hS => ?_)
  have hP : va_P D cz_all [(h, .inr (8, [.null, .null, .null, .null])), (a4, .inr (2, [.null]))] H := hP
  have hD : va_D A [(h, .inr (8, [.null, .null, .null, .null])), (a4, .inr (2, [.null]))] := hD
  refine W.widen (k := 1) (n := 1) (by decide) (by decide) ?_
  refine lv_dup hx hb d_T_init_7 rfl ?_
  refine cf_m (host := rn_T) (n := 0) (As := []) X ⟨by decide +kernel, by decide +kernel, by decide +kernel, rfl, by decide +kernel, by decide +kernel, by decide +kernel⟩ hN.2.1 hK hP hD hS hA hN hl (c_Y_init l D cI cT a4) ⟨by decide, by decide⟩ rfl rfl [1] [0] rfl rfl (by decide) (by decide) (by decide) rfl rfl (Nat.le_of_ble_eq_true rfl) d_T_init_8 ⟨by decide, by decide⟩ (fun w1 H locs hB hP hD hS => ?_)
  obtain ⟨aB, rfl⟩ := hB
  have hP : va_P D cz_all [(h, .inr (8, [.null, .null, .null, .null])), (a4, .inr (2, [.ref aB])), (aB, .inl (cI, 512, .inl (fun _ => 0)))] H := hP
  have hD : va_D A [(h, .inr (8, [.null, .null, .null, .null])), (a4, .inr (2, [.ref aB])), (aB, .inl (cI, 512, .inl (fun _ => 0)))] := hD
  refine W.widen (k := 2) (n := 513) (by decide) (by decide) ?_
  refine lv_astore_n hx hb d_T_init_11 rfl hl (by decide) rfl (fun ls hl => ?_)
  have hl : lv_has ls 3 [(1, .ref a4), (0, .ref h)] := hl
  refine va_new (ci := 5) (fs := [.int 0, .int 0, .int 0, .int 0, .int 0, .int 0, .int 0, .int 0, .int 0]) (C := rn_G) (T := fn_G) (N := 9) hx hb hts fw_G ft_G fk_G hown (hts (.classLink rn_T 10 rn_G) (by decide +kernel)) (hts (.instantiable rn_G 9) (by decide +kernel)) (hts (.initialized rn_G) (by decide +kernel)) hK hP hD hS hA rfl (fun j hj => by rcases (show j = 0 ∨ j = 1 ∨ j = 2 ∨ j = 3 ∨ j = 4 ∨ j = 5 ∨ j = 6 ∨ j = 7 ∨ j = 8 by omega) with rfl | rfl | rfl | rfl | rfl | rfl | rfl | rfl | rfl <;> rfl) (by decide) (by decide) d_T_init_12 (fun a12 H hP hD hS => ?_)
  have hP : va_P D cz_all [(h, .inr (8, [.null, .null, .null, .null])), (a4, .inr (2, [.ref aB])), (aB, .inl (cI, 512, .inl (fun _ => 0))), (a12, .inr (5, [.int 0, .int 0, .int 0, .int 0, .int 0, .int 0, .int 0, .int 0, .int 0]))] H := hP
  have hD : va_D A [(h, .inr (8, [.null, .null, .null, .null])), (a4, .inr (2, [.ref aB])), (aB, .inl (cI, 512, .inl (fun _ => 0))), (a12, .inr (5, [.int 0, .int 0, .int 0, .int 0, .int 0, .int 0, .int 0, .int 0, .int 0]))] := hD
  refine W.widen (k := 3) (n := 522) (by decide) (by decide) ?_
  refine lv_dup hx hb d_T_init_15 rfl ?_
  refine cf_m (host := rn_T) (n := 0) (As := []) X ⟨by decide +kernel, by decide +kernel, by decide +kernel, rfl, by decide +kernel, by decide +kernel, by decide +kernel⟩ hN.2.2.1 hK hP hD hS hA hN hl (c_G_init l D cI cT a12) ⟨by decide, by decide⟩ rfl rfl [3] [0, 1, 2] rfl rfl (by decide) (by decide) (by decide) rfl rfl (Nat.le_of_ble_eq_true rfl) d_T_init_16 ⟨by decide, by decide⟩ (fun w1 H locs hB hP hD hS => ?_)
  obtain rfl := hB
  have hP : va_P D cz_all [(h, .inr (8, [.null, .null, .null, .null])), (a4, .inr (2, [.ref aB])), (aB, .inl (cI, 512, .inl (fun _ => 0))), (a12, .inr (5, [.int 0, .int 0, .int 0, .int 0, .int 0, .int 0, .int 0, .int 0, .int 0]))] H := hP
  have hD : va_D A [(h, .inr (8, [.null, .null, .null, .null])), (a4, .inr (2, [.ref aB])), (aB, .inl (cI, 512, .inl (fun _ => 0))), (a12, .inr (5, [.int 0, .int 0, .int 0, .int 0, .int 0, .int 0, .int 0, .int 0, .int 0]))] := hD
  refine W.widen (k := 3) (n := 522) (by decide) (by decide) ?_
  refine lv_astore_n hx hb d_T_init_19 rfl hl (by decide) rfl (fun ls hl => ?_)
  have hl : lv_has ls 3 [(2, .ref a12), (1, .ref a4), (0, .ref h)] := hl
  refine lv_aload_n hx hb d_T_init_20 rfl (lv_at hl 2 rfl) ?_
  refine lv_aload_n hx hb d_T_init_21 rfl (lv_at hl 1 rfl) ?_
  refine va_putF (D := D) (ci := 8) (v := .ref a4) (ty := .object "TaskComputer$Memory") (C := rn_T) (T := fn_T) (N := 4) hx hb hts fw_T ft_T fk_T fd_T hown hK hP hD hS 0 rfl rfl 0 (by decide) (hts (.fieldLink rn_T 13 "TaskComputer" "memory" "LTaskComputer$Memory;") (by decide +kernel)) (fun _ h9 => h9) rfl hin rfl (by decide +kernel) rfl rfl (Nat.le_of_ble_eq_true rfl) d_T_init_22 (fun H locs hP hD hS => ?_)
  have hP : va_P D cz_all [(h, .inr (8, [.ref a4, .null, .null, .null])), (a4, .inr (2, [.ref aB])), (aB, .inl (cI, 512, .inl (fun _ => 0))), (a12, .inr (5, [.int 0, .int 0, .int 0, .int 0, .int 0, .int 0, .int 0, .int 0, .int 0]))] H := hP
  have hD : va_D A [(h, .inr (8, [.ref a4, .null, .null, .null])), (a4, .inr (2, [.ref aB])), (aB, .inl (cI, 512, .inl (fun _ => 0))), (a12, .inr (5, [.int 0, .int 0, .int 0, .int 0, .int 0, .int 0, .int 0, .int 0, .int 0]))] := hD
  refine lv_aload_n hx hb d_T_init_25 rfl (lv_at hl 2 rfl) ?_
  refine va_new (ci := 3) (fs := [.int 0, .null, .null, .null, .int 0]) (C := rn_P) (T := fn_P) (N := 5) hx hb hts fw_P ft_P fk_P hown (hts (.classLink rn_T 19 rn_P) (by decide +kernel)) (hts (.instantiable rn_P 5) (by decide +kernel)) (hts (.initialized rn_P) (by decide +kernel)) hK hP hD hS hA rfl (fun j hj => by rcases (show j = 0 ∨ j = 1 ∨ j = 2 ∨ j = 3 ∨ j = 4 by omega) with rfl | rfl | rfl | rfl | rfl <;> rfl) (by decide) (by decide) d_T_init_26 (fun a26 H hP hD hS => ?_)
  have hP : va_P D cz_all [(h, .inr (8, [.ref a4, .null, .null, .null])), (a4, .inr (2, [.ref aB])), (aB, .inl (cI, 512, .inl (fun _ => 0))), (a12, .inr (5, [.int 0, .int 0, .int 0, .int 0, .int 0, .int 0, .int 0, .int 0, .int 0])), (a26, .inr (3, [.int 0, .null, .null, .null, .int 0]))] H := hP
  have hD : va_D A [(h, .inr (8, [.ref a4, .null, .null, .null])), (a4, .inr (2, [.ref aB])), (aB, .inl (cI, 512, .inl (fun _ => 0))), (a12, .inr (5, [.int 0, .int 0, .int 0, .int 0, .int 0, .int 0, .int 0, .int 0, .int 0])), (a26, .inr (3, [.int 0, .null, .null, .null, .int 0]))] := hD
  refine W.widen (k := 4) (n := 527) (by decide) (by decide) ?_
  refine lv_dup hx hb d_T_init_29 rfl ?_
  refine lv_aload_n hx hb d_T_init_30 rfl (lv_at hl 1 rfl) ?_
  refine lv_aload_n hx hb d_T_init_31 rfl (lv_at hl 0 rfl) ?_
  refine cf_n (n := 2) (As := [.ref a4, .ref a12]) X ⟨by decide +kernel, by decide +kernel, by decide +kernel, by decide +kernel, rfl, by decide +kernel, by decide +kernel, by decide +kernel⟩ hK hP hD hS hA hN hl (c_P_init l D cI cT a26 a4 a12) ⟨by decide, by decide⟩ rfl rfl [4] [0, 1, 2, 3] rfl rfl (by decide) (by decide) (by decide) rfl rfl (Nat.le_of_ble_eq_true rfl) d_T_init_32 ⟨by decide, by decide⟩ (fun w1 H locs hB hP hD hS => ?_)
  obtain ⟨aC, rfl⟩ := hB
  have hP : va_P D cz_all [(h, .inr (8, [.ref a4, .null, .null, .null])), (a4, .inr (2, [.ref aB])), (aB, .inl (cI, 512, .inl (fun _ => 0))), (a12, .inr (5, [.int 0, .int 0, .int 0, .int 0, .int 0, .int 0, .int 0, .int 0, .int 0])), (a26, .inr (3, [.int 0, .ref a4, .ref a12, .ref aC, .int 0])), (aC, .inr (0, [.ref a12]))] H := hP
  have hD : va_D A [(h, .inr (8, [.ref a4, .null, .null, .null])), (a4, .inr (2, [.ref aB])), (aB, .inl (cI, 512, .inl (fun _ => 0))), (a12, .inr (5, [.int 0, .int 0, .int 0, .int 0, .int 0, .int 0, .int 0, .int 0, .int 0])), (a26, .inr (3, [.int 0, .ref a4, .ref a12, .ref aC, .int 0])), (aC, .inr (0, [.ref a12]))] := hD
  refine W.widen (k := 5) (n := 528) (by decide) (by decide) ?_
  refine va_putF (D := D) (ci := 8) (v := .ref a26) (ty := .object "TaskComputer$Processor") (C := rn_T) (T := fn_T) (N := 4) hx hb hts fw_T ft_T fk_T fd_T hown hK hP hD hS 0 rfl rfl 1 (by decide) (hts (.fieldLink rn_T 24 "TaskComputer" "processor" "LTaskComputer$Processor;") (by decide +kernel)) (fun _ h9 => h9) rfl hin rfl (by decide +kernel) rfl rfl (Nat.le_of_ble_eq_true rfl) d_T_init_35 (fun H locs hP hD hS => ?_)
  have hP : va_P D cz_all [(h, .inr (8, [.ref a4, .ref a26, .null, .null])), (a4, .inr (2, [.ref aB])), (aB, .inl (cI, 512, .inl (fun _ => 0))), (a12, .inr (5, [.int 0, .int 0, .int 0, .int 0, .int 0, .int 0, .int 0, .int 0, .int 0])), (a26, .inr (3, [.int 0, .ref a4, .ref a12, .ref aC, .int 0])), (aC, .inr (0, [.ref a12]))] H := hP
  have hD : va_D A [(h, .inr (8, [.ref a4, .ref a26, .null, .null])), (a4, .inr (2, [.ref aB])), (aB, .inl (cI, 512, .inl (fun _ => 0))), (a12, .inr (5, [.int 0, .int 0, .int 0, .int 0, .int 0, .int 0, .int 0, .int 0, .int 0])), (a26, .inr (3, [.int 0, .ref a4, .ref a12, .ref aC, .int 0])), (aC, .inr (0, [.ref a12]))] := hD
  refine lv_aload_n hx hb d_T_init_38 rfl (lv_at hl 2 rfl) ?_
  refine va_new (ci := 1) (fs := [.null, .null, .null, .null, .null, .null]) (C := rn_K) (T := fn_K) (N := 6) hx hb hts fw_K ft_K fk_K hown (hts (.classLink rn_T 28 rn_K) (by decide +kernel)) (hts (.instantiable rn_K 6) (by decide +kernel)) (hts (.initialized rn_K) (by decide +kernel)) hK hP hD hS hA rfl (fun j hj => by rcases (show j = 0 ∨ j = 1 ∨ j = 2 ∨ j = 3 ∨ j = 4 ∨ j = 5 by omega) with rfl | rfl | rfl | rfl | rfl | rfl <;> rfl) (by decide) (by decide) d_T_init_39 (fun a39 H hP hD hS => ?_)
  have hP : va_P D cz_all [(h, .inr (8, [.ref a4, .ref a26, .null, .null])), (a4, .inr (2, [.ref aB])), (aB, .inl (cI, 512, .inl (fun _ => 0))), (a12, .inr (5, [.int 0, .int 0, .int 0, .int 0, .int 0, .int 0, .int 0, .int 0, .int 0])), (a26, .inr (3, [.int 0, .ref a4, .ref a12, .ref aC, .int 0])), (aC, .inr (0, [.ref a12])), (a39, .inr (1, [.null, .null, .null, .null, .null, .null]))] H := hP
  have hD : va_D A [(h, .inr (8, [.ref a4, .ref a26, .null, .null])), (a4, .inr (2, [.ref aB])), (aB, .inl (cI, 512, .inl (fun _ => 0))), (a12, .inr (5, [.int 0, .int 0, .int 0, .int 0, .int 0, .int 0, .int 0, .int 0, .int 0])), (a26, .inr (3, [.int 0, .ref a4, .ref a12, .ref aC, .int 0])), (aC, .inr (0, [.ref a12])), (a39, .inr (1, [.null, .null, .null, .null, .null, .null]))] := hD
  refine W.widen (k := 6) (n := 534) (by decide) (by decide) ?_
  refine lv_dup hx hb d_T_init_42 rfl ?_
  refine lv_aload_n hx hb d_T_init_43 rfl (lv_at hl 1 rfl) ?_
  refine lv_aload_n hx hb d_T_init_44 rfl (lv_at hl 0 rfl) ?_
  refine cf_n (n := 2) (As := [.ref a4, .ref a12]) X ⟨by decide +kernel, by decide +kernel, by decide +kernel, by decide +kernel, rfl, by decide +kernel, by decide +kernel, by decide +kernel⟩ hK hP hD hS hA hN hl (c_K_init l D cI cT a39 a4 a12) ⟨by decide, by decide⟩ rfl rfl [6] [0, 1, 2, 3, 4, 5] rfl rfl (by decide) (by decide) (by decide) rfl rfl (Nat.le_of_ble_eq_true rfl) d_T_init_45 ⟨by decide, by decide⟩ (fun w1 H locs hB hP hD hS => ?_)
  obtain ⟨aQ, aL, aS, aA, tk, rfl⟩ := hB
  have hP : va_P D cz_all [(h, .inr (8, [.ref a4, .ref a26, .null, .null])), (a4, .inr (2, [.ref aB])), (aB, .inl (cI, 512, .inl (fun _ => 0))), (a12, .inr (5, [.int 0, .int 0, .int 0, .int 0, .int 0, .int 0, .int 0, .int 0, .int 0])), (a26, .inr (3, [.int 0, .ref a4, .ref a12, .ref aC, .int 0])), (aC, .inr (0, [.ref a12])), (a39, .inr (1, [.ref aQ, .null, .ref a4, .ref a12, .ref aS, .ref aA])), (aQ, .inr (4, [.ref aL, .int 0])), (aL, .inl (cT, 4, .inr (.inr (.inr (.inr (fun _ => none)))))), (aS, .inr (5, [.int 0, .int 0, .int 0, .int 0, .int 0, .int 0, .int 0, .int 0, .int 0])), (aA, .inl (cT, 4, .inr (.inr (.inr (.inr (fun j => some (tk j))))))), ((tk 0), .inr (6, [.int 0, .int 0, .int 0, .int 0, .int 0])), ((tk 1), .inr (6, [.int 1, .int 0, .int 0, .int 0, .int 0])), ((tk 2), .inr (6, [.int 2, .int 0, .int 0, .int 0, .int 0])), ((tk 3), .inr (6, [.int 3, .int 0, .int 0, .int 0, .int 0]))] H := hP
  have hD : va_D A [(h, .inr (8, [.ref a4, .ref a26, .null, .null])), (a4, .inr (2, [.ref aB])), (aB, .inl (cI, 512, .inl (fun _ => 0))), (a12, .inr (5, [.int 0, .int 0, .int 0, .int 0, .int 0, .int 0, .int 0, .int 0, .int 0])), (a26, .inr (3, [.int 0, .ref a4, .ref a12, .ref aC, .int 0])), (aC, .inr (0, [.ref a12])), (a39, .inr (1, [.ref aQ, .null, .ref a4, .ref a12, .ref aS, .ref aA])), (aQ, .inr (4, [.ref aL, .int 0])), (aL, .inl (cT, 4, .inr (.inr (.inr (.inr (fun _ => none)))))), (aS, .inr (5, [.int 0, .int 0, .int 0, .int 0, .int 0, .int 0, .int 0, .int 0, .int 0])), (aA, .inl (cT, 4, .inr (.inr (.inr (.inr (fun j => some (tk j))))))), ((tk 0), .inr (6, [.int 0, .int 0, .int 0, .int 0, .int 0])), ((tk 1), .inr (6, [.int 1, .int 0, .int 0, .int 0, .int 0])), ((tk 2), .inr (6, [.int 2, .int 0, .int 0, .int 0, .int 0])), ((tk 3), .inr (6, [.int 3, .int 0, .int 0, .int 0, .int 0]))] := hD
  refine W.widen (k := 14) (n := 573) (by decide) (by decide) ?_
  refine va_putF (D := D) (ci := 8) (v := .ref a39) (ty := .object "TaskComputer$Kernel") (C := rn_T) (T := fn_T) (N := 4) hx hb hts fw_T ft_T fk_T fd_T hown hK hP hD hS 0 rfl rfl 2 (by decide) (hts (.fieldLink rn_T 31 "TaskComputer" "kernel" "LTaskComputer$Kernel;") (by decide +kernel)) (fun _ h9 => h9) rfl hin rfl (by decide +kernel) rfl rfl (Nat.le_of_ble_eq_true rfl) d_T_init_48 (fun H locs hP hD hS => ?_)
  have hP : va_P D cz_all [(h, .inr (8, [.ref a4, .ref a26, .ref a39, .null])), (a4, .inr (2, [.ref aB])), (aB, .inl (cI, 512, .inl (fun _ => 0))), (a12, .inr (5, [.int 0, .int 0, .int 0, .int 0, .int 0, .int 0, .int 0, .int 0, .int 0])), (a26, .inr (3, [.int 0, .ref a4, .ref a12, .ref aC, .int 0])), (aC, .inr (0, [.ref a12])), (a39, .inr (1, [.ref aQ, .null, .ref a4, .ref a12, .ref aS, .ref aA])), (aQ, .inr (4, [.ref aL, .int 0])), (aL, .inl (cT, 4, .inr (.inr (.inr (.inr (fun _ => none)))))), (aS, .inr (5, [.int 0, .int 0, .int 0, .int 0, .int 0, .int 0, .int 0, .int 0, .int 0])), (aA, .inl (cT, 4, .inr (.inr (.inr (.inr (fun j => some (tk j))))))), ((tk 0), .inr (6, [.int 0, .int 0, .int 0, .int 0, .int 0])), ((tk 1), .inr (6, [.int 1, .int 0, .int 0, .int 0, .int 0])), ((tk 2), .inr (6, [.int 2, .int 0, .int 0, .int 0, .int 0])), ((tk 3), .inr (6, [.int 3, .int 0, .int 0, .int 0, .int 0]))] H := hP
  have hD : va_D A [(h, .inr (8, [.ref a4, .ref a26, .ref a39, .null])), (a4, .inr (2, [.ref aB])), (aB, .inl (cI, 512, .inl (fun _ => 0))), (a12, .inr (5, [.int 0, .int 0, .int 0, .int 0, .int 0, .int 0, .int 0, .int 0, .int 0])), (a26, .inr (3, [.int 0, .ref a4, .ref a12, .ref aC, .int 0])), (aC, .inr (0, [.ref a12])), (a39, .inr (1, [.ref aQ, .null, .ref a4, .ref a12, .ref aS, .ref aA])), (aQ, .inr (4, [.ref aL, .int 0])), (aL, .inl (cT, 4, .inr (.inr (.inr (.inr (fun _ => none)))))), (aS, .inr (5, [.int 0, .int 0, .int 0, .int 0, .int 0, .int 0, .int 0, .int 0, .int 0])), (aA, .inl (cT, 4, .inr (.inr (.inr (.inr (fun j => some (tk j))))))), ((tk 0), .inr (6, [.int 0, .int 0, .int 0, .int 0, .int 0])), ((tk 1), .inr (6, [.int 1, .int 0, .int 0, .int 0, .int 0])), ((tk 2), .inr (6, [.int 2, .int 0, .int 0, .int 0, .int 0])), ((tk 3), .inr (6, [.int 3, .int 0, .int 0, .int 0, .int 0]))] := hD
  refine lv_aload_n hx hb d_T_init_51 rfl (lv_at hl 2 rfl) ?_
  refine va_new (ci := 7) (fs := [.int 0, .int 0, .int 0, .int 0, .int 0, .int 0]) (C := rn_I) (T := fn_I) (N := 6) hx hb hts fw_I ft_I fk_I hown (hts (.classLink rn_T 35 rn_I) (by decide +kernel)) (hts (.instantiable rn_I 6) (by decide +kernel)) (hts (.initialized rn_I) (by decide +kernel)) hK hP hD hS hA rfl (fun j hj => by rcases (show j = 0 ∨ j = 1 ∨ j = 2 ∨ j = 3 ∨ j = 4 ∨ j = 5 by omega) with rfl | rfl | rfl | rfl | rfl | rfl <;> rfl) (by decide) (by decide) d_T_init_52 (fun a52 H hP hD hS => ?_)
  have hP : va_P D cz_all [(h, .inr (8, [.ref a4, .ref a26, .ref a39, .null])), (a4, .inr (2, [.ref aB])), (aB, .inl (cI, 512, .inl (fun _ => 0))), (a12, .inr (5, [.int 0, .int 0, .int 0, .int 0, .int 0, .int 0, .int 0, .int 0, .int 0])), (a26, .inr (3, [.int 0, .ref a4, .ref a12, .ref aC, .int 0])), (aC, .inr (0, [.ref a12])), (a39, .inr (1, [.ref aQ, .null, .ref a4, .ref a12, .ref aS, .ref aA])), (aQ, .inr (4, [.ref aL, .int 0])), (aL, .inl (cT, 4, .inr (.inr (.inr (.inr (fun _ => none)))))), (aS, .inr (5, [.int 0, .int 0, .int 0, .int 0, .int 0, .int 0, .int 0, .int 0, .int 0])), (aA, .inl (cT, 4, .inr (.inr (.inr (.inr (fun j => some (tk j))))))), ((tk 0), .inr (6, [.int 0, .int 0, .int 0, .int 0, .int 0])), ((tk 1), .inr (6, [.int 1, .int 0, .int 0, .int 0, .int 0])), ((tk 2), .inr (6, [.int 2, .int 0, .int 0, .int 0, .int 0])), ((tk 3), .inr (6, [.int 3, .int 0, .int 0, .int 0, .int 0])), (a52, .inr (7, [.int 0, .int 0, .int 0, .int 0, .int 0, .int 0]))] H := hP
  have hD : va_D A [(h, .inr (8, [.ref a4, .ref a26, .ref a39, .null])), (a4, .inr (2, [.ref aB])), (aB, .inl (cI, 512, .inl (fun _ => 0))), (a12, .inr (5, [.int 0, .int 0, .int 0, .int 0, .int 0, .int 0, .int 0, .int 0, .int 0])), (a26, .inr (3, [.int 0, .ref a4, .ref a12, .ref aC, .int 0])), (aC, .inr (0, [.ref a12])), (a39, .inr (1, [.ref aQ, .null, .ref a4, .ref a12, .ref aS, .ref aA])), (aQ, .inr (4, [.ref aL, .int 0])), (aL, .inl (cT, 4, .inr (.inr (.inr (.inr (fun _ => none)))))), (aS, .inr (5, [.int 0, .int 0, .int 0, .int 0, .int 0, .int 0, .int 0, .int 0, .int 0])), (aA, .inl (cT, 4, .inr (.inr (.inr (.inr (fun j => some (tk j))))))), ((tk 0), .inr (6, [.int 0, .int 0, .int 0, .int 0, .int 0])), ((tk 1), .inr (6, [.int 1, .int 0, .int 0, .int 0, .int 0])), ((tk 2), .inr (6, [.int 2, .int 0, .int 0, .int 0, .int 0])), ((tk 3), .inr (6, [.int 3, .int 0, .int 0, .int 0, .int 0])), (a52, .inr (7, [.int 0, .int 0, .int 0, .int 0, .int 0, .int 0]))] := hD
  refine W.widen (k := 15) (n := 579) (by decide) (by decide) ?_
  refine lv_dup hx hb d_T_init_55 rfl ?_
  refine cf_m (host := rn_T) (n := 0) (As := []) X ⟨by decide +kernel, by decide +kernel, by decide +kernel, rfl, by decide +kernel, by decide +kernel, by decide +kernel⟩ hN.2.2.2.1 hK hP hD hS hA hN hl (c_I_init l D cI cT a52) ⟨by decide, by decide⟩ rfl rfl [15] [0, 1, 2, 3, 4, 5, 6, 7, 8, 9, 10, 11, 12, 13, 14] rfl rfl (by decide) (by decide) (by decide) rfl rfl (Nat.le_of_ble_eq_true rfl) d_T_init_56 ⟨by decide, by decide⟩ (fun w1 H locs hB hP hD hS => ?_)
  obtain rfl := hB
  have hP : va_P D cz_all [(h, .inr (8, [.ref a4, .ref a26, .ref a39, .null])), (a4, .inr (2, [.ref aB])), (aB, .inl (cI, 512, .inl (fun _ => 0))), (a12, .inr (5, [.int 0, .int 0, .int 0, .int 0, .int 0, .int 0, .int 0, .int 0, .int 0])), (a26, .inr (3, [.int 0, .ref a4, .ref a12, .ref aC, .int 0])), (aC, .inr (0, [.ref a12])), (a39, .inr (1, [.ref aQ, .null, .ref a4, .ref a12, .ref aS, .ref aA])), (aQ, .inr (4, [.ref aL, .int 0])), (aL, .inl (cT, 4, .inr (.inr (.inr (.inr (fun _ => none)))))), (aS, .inr (5, [.int 0, .int 0, .int 0, .int 0, .int 0, .int 0, .int 0, .int 0, .int 0])), (aA, .inl (cT, 4, .inr (.inr (.inr (.inr (fun j => some (tk j))))))), ((tk 0), .inr (6, [.int 0, .int 0, .int 0, .int 0, .int 0])), ((tk 1), .inr (6, [.int 1, .int 0, .int 0, .int 0, .int 0])), ((tk 2), .inr (6, [.int 2, .int 0, .int 0, .int 0, .int 0])), ((tk 3), .inr (6, [.int 3, .int 0, .int 0, .int 0, .int 0])), (a52, .inr (7, [.int 0, .int 0, .int 0, .int 0, .int 0, .int 0]))] H := hP
  have hD : va_D A [(h, .inr (8, [.ref a4, .ref a26, .ref a39, .null])), (a4, .inr (2, [.ref aB])), (aB, .inl (cI, 512, .inl (fun _ => 0))), (a12, .inr (5, [.int 0, .int 0, .int 0, .int 0, .int 0, .int 0, .int 0, .int 0, .int 0])), (a26, .inr (3, [.int 0, .ref a4, .ref a12, .ref aC, .int 0])), (aC, .inr (0, [.ref a12])), (a39, .inr (1, [.ref aQ, .null, .ref a4, .ref a12, .ref aS, .ref aA])), (aQ, .inr (4, [.ref aL, .int 0])), (aL, .inl (cT, 4, .inr (.inr (.inr (.inr (fun _ => none)))))), (aS, .inr (5, [.int 0, .int 0, .int 0, .int 0, .int 0, .int 0, .int 0, .int 0, .int 0])), (aA, .inl (cT, 4, .inr (.inr (.inr (.inr (fun j => some (tk j))))))), ((tk 0), .inr (6, [.int 0, .int 0, .int 0, .int 0, .int 0])), ((tk 1), .inr (6, [.int 1, .int 0, .int 0, .int 0, .int 0])), ((tk 2), .inr (6, [.int 2, .int 0, .int 0, .int 0, .int 0])), ((tk 3), .inr (6, [.int 3, .int 0, .int 0, .int 0, .int 0])), (a52, .inr (7, [.int 0, .int 0, .int 0, .int 0, .int 0, .int 0]))] := hD
  refine W.widen (k := 15) (n := 579) (by decide) (by decide) ?_
  refine va_putF (D := D) (ci := 8) (v := .ref a52) (ty := .object "TaskComputer$Timer") (C := rn_T) (T := fn_T) (N := 4) hx hb hts fw_T ft_T fk_T fd_T hown hK hP hD hS 0 rfl rfl 3 (by decide) (hts (.fieldLink rn_T 38 "TaskComputer" "timer" "LTaskComputer$Timer;") (by decide +kernel)) (fun _ h9 => h9) rfl hin rfl (by decide +kernel) rfl rfl (Nat.le_of_ble_eq_true rfl) d_T_init_59 (fun H locs hP hD hS => ?_)
  have hP : va_P D cz_all [(h, .inr (8, [.ref a4, .ref a26, .ref a39, .ref a52])), (a4, .inr (2, [.ref aB])), (aB, .inl (cI, 512, .inl (fun _ => 0))), (a12, .inr (5, [.int 0, .int 0, .int 0, .int 0, .int 0, .int 0, .int 0, .int 0, .int 0])), (a26, .inr (3, [.int 0, .ref a4, .ref a12, .ref aC, .int 0])), (aC, .inr (0, [.ref a12])), (a39, .inr (1, [.ref aQ, .null, .ref a4, .ref a12, .ref aS, .ref aA])), (aQ, .inr (4, [.ref aL, .int 0])), (aL, .inl (cT, 4, .inr (.inr (.inr (.inr (fun _ => none)))))), (aS, .inr (5, [.int 0, .int 0, .int 0, .int 0, .int 0, .int 0, .int 0, .int 0, .int 0])), (aA, .inl (cT, 4, .inr (.inr (.inr (.inr (fun j => some (tk j))))))), ((tk 0), .inr (6, [.int 0, .int 0, .int 0, .int 0, .int 0])), ((tk 1), .inr (6, [.int 1, .int 0, .int 0, .int 0, .int 0])), ((tk 2), .inr (6, [.int 2, .int 0, .int 0, .int 0, .int 0])), ((tk 3), .inr (6, [.int 3, .int 0, .int 0, .int 0, .int 0])), (a52, .inr (7, [.int 0, .int 0, .int 0, .int 0, .int 0, .int 0]))] H := hP
  have hD : va_D A [(h, .inr (8, [.ref a4, .ref a26, .ref a39, .ref a52])), (a4, .inr (2, [.ref aB])), (aB, .inl (cI, 512, .inl (fun _ => 0))), (a12, .inr (5, [.int 0, .int 0, .int 0, .int 0, .int 0, .int 0, .int 0, .int 0, .int 0])), (a26, .inr (3, [.int 0, .ref a4, .ref a12, .ref aC, .int 0])), (aC, .inr (0, [.ref a12])), (a39, .inr (1, [.ref aQ, .null, .ref a4, .ref a12, .ref aS, .ref aA])), (aQ, .inr (4, [.ref aL, .int 0])), (aL, .inl (cT, 4, .inr (.inr (.inr (.inr (fun _ => none)))))), (aS, .inr (5, [.int 0, .int 0, .int 0, .int 0, .int 0, .int 0, .int 0, .int 0, .int 0])), (aA, .inl (cT, 4, .inr (.inr (.inr (.inr (fun j => some (tk j))))))), ((tk 0), .inr (6, [.int 0, .int 0, .int 0, .int 0, .int 0])), ((tk 1), .inr (6, [.int 1, .int 0, .int 0, .int 0, .int 0])), ((tk 2), .inr (6, [.int 2, .int 0, .int 0, .int 0, .int 0])), ((tk 3), .inr (6, [.int 3, .int 0, .int 0, .int 0, .int 0])), (a52, .inr (7, [.int 0, .int 0, .int 0, .int 0, .int 0, .int 0]))] := hD
  exact rt_n X hr hlk hK ⟨a39, aQ, aL, aA, tk, a4, aB, a12, aS, a26, aC, a52, rfl⟩ (P_of hP [0, 6, 7, 8, 10, 11, 12, 13, 14, 1, 2, 3, 9, 4, 5, 15] rfl) (hD.sub [0, 6, 7, 8, 10, 11, 12, 13, 14, 1, 2, 3, 9, 4, 5, 15] (by decide) rfl) hS d_T_init_62
theorem d_M_init_0 : decode mb_M_init 0 = .ok (.aload_n 0, 1) := by decide +kernel
theorem d_M_init_1 : decode mb_M_init 1 = .ok (.invokespecial 1, 3) := by decide +kernel
theorem d_M_init_4 : decode mb_M_init 4 = .ok (.aload_n 0, 1) := by decide +kernel
theorem d_M_init_5 : decode mb_M_init 5 = .ok (.sipush 512, 3) := by decide +kernel
theorem d_M_init_8 : decode mb_M_init 8 = .ok (.newarray .int, 2) := by decide +kernel
theorem d_M_init_10 : decode mb_M_init 10 = .ok (.putfield 7, 3) := by decide +kernel
theorem d_M_init_13 : decode mb_M_init 13 = .ok (.aload_n 0, 1) := by decide +kernel
theorem d_M_init_14 : decode mb_M_init 14 = .ok (.bipush 12, 2) := by decide +kernel
theorem d_M_init_16 : decode mb_M_init 16 = .ok (.newarray .int, 2) := by decide +kernel
theorem d_M_init_18 : decode mb_M_init 18 = .ok (.putfield 13, 3) := by decide +kernel
theorem d_M_init_21 : decode mb_M_init 21 = .ok (.aload_n 0, 1) := by decide +kernel
theorem d_M_init_22 : decode mb_M_init 22 = .ok (.iconst 4, 1) := by decide +kernel
theorem d_M_init_23 : decode mb_M_init 23 = .ok (.newarray .int, 2) := by decide +kernel
theorem d_M_init_25 : decode mb_M_init 25 = .ok (.putfield 16, 3) := by decide +kernel
theorem d_M_init_28 : decode mb_M_init 28 = .ok (.aload_n 0, 1) := by decide +kernel
theorem d_M_init_29 : decode mb_M_init 29 = .ok (.iconst 4, 1) := by decide +kernel
theorem d_M_init_30 : decode mb_M_init 30 = .ok (.newarray .int, 2) := by decide +kernel
theorem d_M_init_32 : decode mb_M_init 32 = .ok (.putfield 19, 3) := by decide +kernel
theorem d_M_init_35 : decode mb_M_init 35 = .ok (.aload_n 0, 1) := by decide +kernel
theorem d_M_init_36 : decode mb_M_init 36 = .ok (.iconst 4, 1) := by decide +kernel
theorem d_M_init_37 : decode mb_M_init 37 = .ok (.newarray .int, 2) := by decide +kernel
theorem d_M_init_39 : decode mb_M_init 39 = .ok (.putfield 22, 3) := by decide +kernel
theorem d_M_init_42 : decode mb_M_init 42 = .ok (.aload_n 0, 1) := by decide +kernel
theorem d_M_init_43 : decode mb_M_init 43 = .ok (.iconst 4, 1) := by decide +kernel
theorem d_M_init_44 : decode mb_M_init 44 = .ok (.newarray .int, 2) := by decide +kernel
theorem d_M_init_46 : decode mb_M_init 46 = .ok (.putfield 25, 3) := by decide +kernel
theorem d_M_init_49 : decode mb_M_init 49 = .ok (.aload_n 0, 1) := by decide +kernel
theorem d_M_init_50 : decode mb_M_init 50 = .ok (.iconst 4, 1) := by decide +kernel
theorem d_M_init_51 : decode mb_M_init 51 = .ok (.newarray .int, 2) := by decide +kernel
theorem d_M_init_53 : decode mb_M_init 53 = .ok (.putfield 28, 3) := by decide +kernel
theorem d_M_init_56 : decode mb_M_init 56 = .ok (.aload_n 0, 1) := by decide +kernel
theorem d_M_init_57 : decode mb_M_init 57 = .ok (.iconst (-1), 1) := by decide +kernel
theorem d_M_init_58 : decode mb_M_init 58 = .ok (.putfield 31, 3) := by decide +kernel
theorem d_M_init_61 : decode mb_M_init 61 = .ok (.return_, 1) := by decide +kernel
set_option maxHeartbeats 4000000 in
set_option maxRecDepth 100000 in
theorem c_M_init (l : Launch) (D : va_G) (cI cT : ClassId) (h : Nat) : cn_v l my_M_init mb_M_init 1 ⟨1, 7, 544, 12⟩ D (ty_ cI cT) [.ref h] [(h, .inr (9, [.null, .null, .null, .null, .null, .null, .null, .int 0, .int 0, .int 0, .int 0, .int 0, .int 0, .int 0, .int 0, .int 0, .int 0]))] (fun w' => ∃ h1 h2 h3 h4 h5 h6 h7 : Nat, w' = mw_ h h1 h2 h3 h4 h5 h6 h7 cI (fun _ => 0) (fun _ => 0) (fun _ => 0) (fun _ => 0) (fun _ => 0) (fun _ => 0) (fun _ => 0) 0 (-1) 0 0 false 0 0 0 0 false) 7 544 := by
  refine cn_v_of (by decide) rfl (Nat.le_of_ble_eq_true rfl) ?_
  intro p e s m below meth c A ls X hr hlk hin hK hP hD hS hA hN hl
  have hx := X.1
  have hb := X.2.1
  have hml := X.2.2.1
  have hown := X.2.2.2.1
  have hts := X.2.2.2.2
  have hl : lv_has ls 1 [(0, .ref h)] := hl
  have hP : va_P D cz_all [(h, .inr (9, [.null, .null, .null, .null, .null, .null, .null, .int 0, .int 0, .int 0, .int 0, .int 0, .int 0, .int 0, .int 0, .int 0, .int 0]))] s.heap := hP
  refine lv_aload_n hx hb d_M_init_0 rfl (lv_at hl 0 rfl) ?_
  refine W.objInit hx hb hown (hts (.methodLink rn_M 1 objectInit) (by decide +kernel)) (hts _ oi_1) (hts _ oi_2) rfl (by rw [hml]; exact hl.1) rfl d_M_init_1 (Nat.le_of_ble_eq_true rfl) (Nat.le_of_ble_eq_true rfl) ?_
  refine W.eq (g2 := F0 m 4 ls []) rfl ?_
  refine lv_aload_n hx hb d_M_init_4 rfl (lv_at hl 0 rfl) ?_
  refine lv_sipush (v := (512 : Int32)) hx hb d_M_init_5 (by decide) ?_
  refine va_newa (atype := .int) (ty := .int) (N' := 512) (a0 := (512, .inl (fun _ => 0))) hx hb (hts (.arrayClass .int) (by decide +kernel)) rfl hK hP hD hS hA (fun cA => rfl) (by decide) (by decide) (by decide) (by decide) (by decide) d_M_init_8 (fun a8 cA H hK2 hP hD hS => ?_)
  have ec := ar_I hK hK2
  subst ec
  have hP : va_P D cz_all [(h, .inr (9, [.null, .null, .null, .null, .null, .null, .null, .int 0, .int 0, .int 0, .int 0, .int 0, .int 0, .int 0, .int 0, .int 0, .int 0])), (a8, .inl (cI, 512, .inl (fun _ => 0)))] H := hP
  have hD : va_D A [(h, .inr (9, [.null, .null, .null, .null, .null, .null, .null, .int 0, .int 0, .int 0, .int 0, .int 0, .int 0, .int 0, .int 0, .int 0, .int 0])), (a8, .inl (cI, 512, .inl (fun _ => 0)))] := hD
  refine W.widen (k := 1) (n := 512) (by decide) (by decide) ?_
  refine va_put (D := D) (ci := 9) (v := .ref a8) (ty := .array .int) (C := rn_M) (T := fn_M) (N := 17) hx hb hts fw_M ft_M fk_M fd_M hown hK hP hD hS 0 rfl rfl 0 (by decide) (hts (.fieldLink rn_M 7 "TaskComputerModel" "memory" "[I") (by decide +kernel)) (fun _ h9 => h9) rfl (by decide +kernel) rfl rfl (Nat.le_of_ble_eq_true rfl) d_M_init_10 (fun H locs hP hD hS => ?_)
  have hP : va_P D cz_all [(h, .inr (9, [.ref a8, .null, .null, .null, .null, .null, .null, .int 0, .int 0, .int 0, .int 0, .int 0, .int 0, .int 0, .int 0, .int 0, .int 0])), (a8, .inl (cI, 512, .inl (fun _ => 0)))] H := hP
  have hD : va_D A [(h, .inr (9, [.ref a8, .null, .null, .null, .null, .null, .null, .int 0, .int 0, .int 0, .int 0, .int 0, .int 0, .int 0, .int 0, .int 0, .int 0])), (a8, .inl (cI, 512, .inl (fun _ => 0)))] := hD
  refine lv_aload_n hx hb d_M_init_13 rfl (lv_at hl 0 rfl) ?_
  refine lv_bipush (v := (12 : Int32)) hx hb d_M_init_14 (by decide) ?_
  refine va_newa (atype := .int) (ty := .int) (N' := 12) (a0 := (12, .inl (fun _ => 0))) hx hb (hts (.arrayClass .int) (by decide +kernel)) rfl hK hP hD hS hA (fun cA => rfl) (by decide) (by decide) (by decide) (by decide) (by decide) d_M_init_16 (fun a16 cA H hK2 hP hD hS => ?_)
  have ec := ar_I hK hK2
  subst ec
  have hP : va_P D cz_all [(h, .inr (9, [.ref a8, .null, .null, .null, .null, .null, .null, .int 0, .int 0, .int 0, .int 0, .int 0, .int 0, .int 0, .int 0, .int 0, .int 0])), (a8, .inl (cI, 512, .inl (fun _ => 0))), (a16, .inl (cI, 12, .inl (fun _ => 0)))] H := hP
  have hD : va_D A [(h, .inr (9, [.ref a8, .null, .null, .null, .null, .null, .null, .int 0, .int 0, .int 0, .int 0, .int 0, .int 0, .int 0, .int 0, .int 0, .int 0])), (a8, .inl (cI, 512, .inl (fun _ => 0))), (a16, .inl (cI, 12, .inl (fun _ => 0)))] := hD
  refine W.widen (k := 2) (n := 524) (by decide) (by decide) ?_
  refine va_put (D := D) (ci := 9) (v := .ref a16) (ty := .array .int) (C := rn_M) (T := fn_M) (N := 17) hx hb hts fw_M ft_M fk_M fd_M hown hK hP hD hS 0 rfl rfl 1 (by decide) (hts (.fieldLink rn_M 13 "TaskComputerModel" "reg" "[I") (by decide +kernel)) (fun _ h9 => h9) rfl (by decide +kernel) rfl rfl (Nat.le_of_ble_eq_true rfl) d_M_init_18 (fun H locs hP hD hS => ?_)
  have hP : va_P D cz_all [(h, .inr (9, [.ref a8, .ref a16, .null, .null, .null, .null, .null, .int 0, .int 0, .int 0, .int 0, .int 0, .int 0, .int 0, .int 0, .int 0, .int 0])), (a8, .inl (cI, 512, .inl (fun _ => 0))), (a16, .inl (cI, 12, .inl (fun _ => 0)))] H := hP
  have hD : va_D A [(h, .inr (9, [.ref a8, .ref a16, .null, .null, .null, .null, .null, .int 0, .int 0, .int 0, .int 0, .int 0, .int 0, .int 0, .int 0, .int 0, .int 0])), (a8, .inl (cI, 512, .inl (fun _ => 0))), (a16, .inl (cI, 12, .inl (fun _ => 0)))] := hD
  refine lv_aload_n hx hb d_M_init_21 rfl (lv_at hl 0 rfl) ?_
  refine lv_iconst (v := (4 : Int32)) hx hb d_M_init_22 (by decide) ?_
  refine va_newa (atype := .int) (ty := .int) (N' := 4) (a0 := (4, .inl (fun _ => 0))) hx hb (hts (.arrayClass .int) (by decide +kernel)) rfl hK hP hD hS hA (fun cA => rfl) (by decide) (by decide) (by decide) (by decide) (by decide) d_M_init_23 (fun a23 cA H hK2 hP hD hS => ?_)
  have ec := ar_I hK hK2
  subst ec
  have hP : va_P D cz_all [(h, .inr (9, [.ref a8, .ref a16, .null, .null, .null, .null, .null, .int 0, .int 0, .int 0, .int 0, .int 0, .int 0, .int 0, .int 0, .int 0, .int 0])), (a8, .inl (cI, 512, .inl (fun _ => 0))), (a16, .inl (cI, 12, .inl (fun _ => 0))), (a23, .inl (cI, 4, .inl (fun _ => 0)))] H := hP
  have hD : va_D A [(h, .inr (9, [.ref a8, .ref a16, .null, .null, .null, .null, .null, .int 0, .int 0, .int 0, .int 0, .int 0, .int 0, .int 0, .int 0, .int 0, .int 0])), (a8, .inl (cI, 512, .inl (fun _ => 0))), (a16, .inl (cI, 12, .inl (fun _ => 0))), (a23, .inl (cI, 4, .inl (fun _ => 0)))] := hD
  refine W.widen (k := 3) (n := 528) (by decide) (by decide) ?_
  refine va_put (D := D) (ci := 9) (v := .ref a23) (ty := .array .int) (C := rn_M) (T := fn_M) (N := 17) hx hb hts fw_M ft_M fk_M fd_M hown hK hP hD hS 0 rfl rfl 2 (by decide) (hts (.fieldLink rn_M 16 "TaskComputerModel" "stateOf" "[I") (by decide +kernel)) (fun _ h9 => h9) rfl (by decide +kernel) rfl rfl (Nat.le_of_ble_eq_true rfl) d_M_init_25 (fun H locs hP hD hS => ?_)
  have hP : va_P D cz_all [(h, .inr (9, [.ref a8, .ref a16, .ref a23, .null, .null, .null, .null, .int 0, .int 0, .int 0, .int 0, .int 0, .int 0, .int 0, .int 0, .int 0, .int 0])), (a8, .inl (cI, 512, .inl (fun _ => 0))), (a16, .inl (cI, 12, .inl (fun _ => 0))), (a23, .inl (cI, 4, .inl (fun _ => 0)))] H := hP
  have hD : va_D A [(h, .inr (9, [.ref a8, .ref a16, .ref a23, .null, .null, .null, .null, .int 0, .int 0, .int 0, .int 0, .int 0, .int 0, .int 0, .int 0, .int 0, .int 0])), (a8, .inl (cI, 512, .inl (fun _ => 0))), (a16, .inl (cI, 12, .inl (fun _ => 0))), (a23, .inl (cI, 4, .inl (fun _ => 0)))] := hD
  refine lv_aload_n hx hb d_M_init_28 rfl (lv_at hl 0 rfl) ?_
  refine lv_iconst (v := (4 : Int32)) hx hb d_M_init_29 (by decide) ?_
  refine va_newa (atype := .int) (ty := .int) (N' := 4) (a0 := (4, .inl (fun _ => 0))) hx hb (hts (.arrayClass .int) (by decide +kernel)) rfl hK hP hD hS hA (fun cA => rfl) (by decide) (by decide) (by decide) (by decide) (by decide) d_M_init_30 (fun a30 cA H hK2 hP hD hS => ?_)
  have ec := ar_I hK hK2
  subst ec
  have hP : va_P D cz_all [(h, .inr (9, [.ref a8, .ref a16, .ref a23, .null, .null, .null, .null, .int 0, .int 0, .int 0, .int 0, .int 0, .int 0, .int 0, .int 0, .int 0, .int 0])), (a8, .inl (cI, 512, .inl (fun _ => 0))), (a16, .inl (cI, 12, .inl (fun _ => 0))), (a23, .inl (cI, 4, .inl (fun _ => 0))), (a30, .inl (cI, 4, .inl (fun _ => 0)))] H := hP
  have hD : va_D A [(h, .inr (9, [.ref a8, .ref a16, .ref a23, .null, .null, .null, .null, .int 0, .int 0, .int 0, .int 0, .int 0, .int 0, .int 0, .int 0, .int 0, .int 0])), (a8, .inl (cI, 512, .inl (fun _ => 0))), (a16, .inl (cI, 12, .inl (fun _ => 0))), (a23, .inl (cI, 4, .inl (fun _ => 0))), (a30, .inl (cI, 4, .inl (fun _ => 0)))] := hD
  refine W.widen (k := 4) (n := 532) (by decide) (by decide) ?_
  refine va_put (D := D) (ci := 9) (v := .ref a30) (ty := .array .int) (C := rn_M) (T := fn_M) (N := 17) hx hb hts fw_M ft_M fk_M fd_M hown hK hP hD hS 0 rfl rfl 3 (by decide) (hts (.fieldLink rn_M 19 "TaskComputerModel" "savedS" "[I") (by decide +kernel)) (fun _ h9 => h9) rfl (by decide +kernel) rfl rfl (Nat.le_of_ble_eq_true rfl) d_M_init_32 (fun H locs hP hD hS => ?_)
  have hP : va_P D cz_all [(h, .inr (9, [.ref a8, .ref a16, .ref a23, .ref a30, .null, .null, .null, .int 0, .int 0, .int 0, .int 0, .int 0, .int 0, .int 0, .int 0, .int 0, .int 0])), (a8, .inl (cI, 512, .inl (fun _ => 0))), (a16, .inl (cI, 12, .inl (fun _ => 0))), (a23, .inl (cI, 4, .inl (fun _ => 0))), (a30, .inl (cI, 4, .inl (fun _ => 0)))] H := hP
  have hD : va_D A [(h, .inr (9, [.ref a8, .ref a16, .ref a23, .ref a30, .null, .null, .null, .int 0, .int 0, .int 0, .int 0, .int 0, .int 0, .int 0, .int 0, .int 0, .int 0])), (a8, .inl (cI, 512, .inl (fun _ => 0))), (a16, .inl (cI, 12, .inl (fun _ => 0))), (a23, .inl (cI, 4, .inl (fun _ => 0))), (a30, .inl (cI, 4, .inl (fun _ => 0)))] := hD
  refine lv_aload_n hx hb d_M_init_35 rfl (lv_at hl 0 rfl) ?_
  refine lv_iconst (v := (4 : Int32)) hx hb d_M_init_36 (by decide) ?_
  refine va_newa (atype := .int) (ty := .int) (N' := 4) (a0 := (4, .inl (fun _ => 0))) hx hb (hts (.arrayClass .int) (by decide +kernel)) rfl hK hP hD hS hA (fun cA => rfl) (by decide) (by decide) (by decide) (by decide) (by decide) d_M_init_37 (fun a37 cA H hK2 hP hD hS => ?_)
  have ec := ar_I hK hK2
  subst ec
  have hP : va_P D cz_all [(h, .inr (9, [.ref a8, .ref a16, .ref a23, .ref a30, .null, .null, .null, .int 0, .int 0, .int 0, .int 0, .int 0, .int 0, .int 0, .int 0, .int 0, .int 0])), (a8, .inl (cI, 512, .inl (fun _ => 0))), (a16, .inl (cI, 12, .inl (fun _ => 0))), (a23, .inl (cI, 4, .inl (fun _ => 0))), (a30, .inl (cI, 4, .inl (fun _ => 0))), (a37, .inl (cI, 4, .inl (fun _ => 0)))] H := hP
  have hD : va_D A [(h, .inr (9, [.ref a8, .ref a16, .ref a23, .ref a30, .null, .null, .null, .int 0, .int 0, .int 0, .int 0, .int 0, .int 0, .int 0, .int 0, .int 0, .int 0])), (a8, .inl (cI, 512, .inl (fun _ => 0))), (a16, .inl (cI, 12, .inl (fun _ => 0))), (a23, .inl (cI, 4, .inl (fun _ => 0))), (a30, .inl (cI, 4, .inl (fun _ => 0))), (a37, .inl (cI, 4, .inl (fun _ => 0)))] := hD
  refine W.widen (k := 5) (n := 536) (by decide) (by decide) ?_
  refine va_put (D := D) (ci := 9) (v := .ref a37) (ty := .array .int) (C := rn_M) (T := fn_M) (N := 17) hx hb hts fw_M ft_M fk_M fd_M hown hK hP hD hS 0 rfl rfl 4 (by decide) (hts (.fieldLink rn_M 22 "TaskComputerModel" "toSleep" "[I") (by decide +kernel)) (fun _ h9 => h9) rfl (by decide +kernel) rfl rfl (Nat.le_of_ble_eq_true rfl) d_M_init_39 (fun H locs hP hD hS => ?_)
  have hP : va_P D cz_all [(h, .inr (9, [.ref a8, .ref a16, .ref a23, .ref a30, .ref a37, .null, .null, .int 0, .int 0, .int 0, .int 0, .int 0, .int 0, .int 0, .int 0, .int 0, .int 0])), (a8, .inl (cI, 512, .inl (fun _ => 0))), (a16, .inl (cI, 12, .inl (fun _ => 0))), (a23, .inl (cI, 4, .inl (fun _ => 0))), (a30, .inl (cI, 4, .inl (fun _ => 0))), (a37, .inl (cI, 4, .inl (fun _ => 0)))] H := hP
  have hD : va_D A [(h, .inr (9, [.ref a8, .ref a16, .ref a23, .ref a30, .ref a37, .null, .null, .int 0, .int 0, .int 0, .int 0, .int 0, .int 0, .int 0, .int 0, .int 0, .int 0])), (a8, .inl (cI, 512, .inl (fun _ => 0))), (a16, .inl (cI, 12, .inl (fun _ => 0))), (a23, .inl (cI, 4, .inl (fun _ => 0))), (a30, .inl (cI, 4, .inl (fun _ => 0))), (a37, .inl (cI, 4, .inl (fun _ => 0)))] := hD
  refine lv_aload_n hx hb d_M_init_42 rfl (lv_at hl 0 rfl) ?_
  refine lv_iconst (v := (4 : Int32)) hx hb d_M_init_43 (by decide) ?_
  refine va_newa (atype := .int) (ty := .int) (N' := 4) (a0 := (4, .inl (fun _ => 0))) hx hb (hts (.arrayClass .int) (by decide +kernel)) rfl hK hP hD hS hA (fun cA => rfl) (by decide) (by decide) (by decide) (by decide) (by decide) d_M_init_44 (fun a44 cA H hK2 hP hD hS => ?_)
  have ec := ar_I hK hK2
  subst ec
  have hP : va_P D cz_all [(h, .inr (9, [.ref a8, .ref a16, .ref a23, .ref a30, .ref a37, .null, .null, .int 0, .int 0, .int 0, .int 0, .int 0, .int 0, .int 0, .int 0, .int 0, .int 0])), (a8, .inl (cI, 512, .inl (fun _ => 0))), (a16, .inl (cI, 12, .inl (fun _ => 0))), (a23, .inl (cI, 4, .inl (fun _ => 0))), (a30, .inl (cI, 4, .inl (fun _ => 0))), (a37, .inl (cI, 4, .inl (fun _ => 0))), (a44, .inl (cI, 4, .inl (fun _ => 0)))] H := hP
  have hD : va_D A [(h, .inr (9, [.ref a8, .ref a16, .ref a23, .ref a30, .ref a37, .null, .null, .int 0, .int 0, .int 0, .int 0, .int 0, .int 0, .int 0, .int 0, .int 0, .int 0])), (a8, .inl (cI, 512, .inl (fun _ => 0))), (a16, .inl (cI, 12, .inl (fun _ => 0))), (a23, .inl (cI, 4, .inl (fun _ => 0))), (a30, .inl (cI, 4, .inl (fun _ => 0))), (a37, .inl (cI, 4, .inl (fun _ => 0))), (a44, .inl (cI, 4, .inl (fun _ => 0)))] := hD
  refine W.widen (k := 6) (n := 540) (by decide) (by decide) ?_
  refine va_put (D := D) (ci := 9) (v := .ref a44) (ty := .array .int) (C := rn_M) (T := fn_M) (N := 17) hx hb hts fw_M ft_M fk_M fd_M hown hK hP hD hS 0 rfl rfl 5 (by decide) (hts (.fieldLink rn_M 25 "TaskComputerModel" "statusOf" "[I") (by decide +kernel)) (fun _ h9 => h9) rfl (by decide +kernel) rfl rfl (Nat.le_of_ble_eq_true rfl) d_M_init_46 (fun H locs hP hD hS => ?_)
  have hP : va_P D cz_all [(h, .inr (9, [.ref a8, .ref a16, .ref a23, .ref a30, .ref a37, .ref a44, .null, .int 0, .int 0, .int 0, .int 0, .int 0, .int 0, .int 0, .int 0, .int 0, .int 0])), (a8, .inl (cI, 512, .inl (fun _ => 0))), (a16, .inl (cI, 12, .inl (fun _ => 0))), (a23, .inl (cI, 4, .inl (fun _ => 0))), (a30, .inl (cI, 4, .inl (fun _ => 0))), (a37, .inl (cI, 4, .inl (fun _ => 0))), (a44, .inl (cI, 4, .inl (fun _ => 0)))] H := hP
  have hD : va_D A [(h, .inr (9, [.ref a8, .ref a16, .ref a23, .ref a30, .ref a37, .ref a44, .null, .int 0, .int 0, .int 0, .int 0, .int 0, .int 0, .int 0, .int 0, .int 0, .int 0])), (a8, .inl (cI, 512, .inl (fun _ => 0))), (a16, .inl (cI, 12, .inl (fun _ => 0))), (a23, .inl (cI, 4, .inl (fun _ => 0))), (a30, .inl (cI, 4, .inl (fun _ => 0))), (a37, .inl (cI, 4, .inl (fun _ => 0))), (a44, .inl (cI, 4, .inl (fun _ => 0)))] := hD
  refine lv_aload_n hx hb d_M_init_49 rfl (lv_at hl 0 rfl) ?_
  refine lv_iconst (v := (4 : Int32)) hx hb d_M_init_50 (by decide) ?_
  refine va_newa (atype := .int) (ty := .int) (N' := 4) (a0 := (4, .inl (fun _ => 0))) hx hb (hts (.arrayClass .int) (by decide +kernel)) rfl hK hP hD hS hA (fun cA => rfl) (by decide) (by decide) (by decide) (by decide) (by decide) d_M_init_51 (fun a51 cA H hK2 hP hD hS => ?_)
  have ec := ar_I hK hK2
  subst ec
  have hP : va_P D cz_all [(h, .inr (9, [.ref a8, .ref a16, .ref a23, .ref a30, .ref a37, .ref a44, .null, .int 0, .int 0, .int 0, .int 0, .int 0, .int 0, .int 0, .int 0, .int 0, .int 0])), (a8, .inl (cI, 512, .inl (fun _ => 0))), (a16, .inl (cI, 12, .inl (fun _ => 0))), (a23, .inl (cI, 4, .inl (fun _ => 0))), (a30, .inl (cI, 4, .inl (fun _ => 0))), (a37, .inl (cI, 4, .inl (fun _ => 0))), (a44, .inl (cI, 4, .inl (fun _ => 0))), (a51, .inl (cI, 4, .inl (fun _ => 0)))] H := hP
  have hD : va_D A [(h, .inr (9, [.ref a8, .ref a16, .ref a23, .ref a30, .ref a37, .ref a44, .null, .int 0, .int 0, .int 0, .int 0, .int 0, .int 0, .int 0, .int 0, .int 0, .int 0])), (a8, .inl (cI, 512, .inl (fun _ => 0))), (a16, .inl (cI, 12, .inl (fun _ => 0))), (a23, .inl (cI, 4, .inl (fun _ => 0))), (a30, .inl (cI, 4, .inl (fun _ => 0))), (a37, .inl (cI, 4, .inl (fun _ => 0))), (a44, .inl (cI, 4, .inl (fun _ => 0))), (a51, .inl (cI, 4, .inl (fun _ => 0)))] := hD
  refine W.widen (k := 7) (n := 544) (by decide) (by decide) ?_
  refine va_put (D := D) (ci := 9) (v := .ref a51) (ty := .array .int) (C := rn_M) (T := fn_M) (N := 17) hx hb hts fw_M ft_M fk_M fd_M hown hK hP hD hS 0 rfl rfl 6 (by decide) (hts (.fieldLink rn_M 28 "TaskComputerModel" "queue" "[I") (by decide +kernel)) (fun _ h9 => h9) rfl (by decide +kernel) rfl rfl (Nat.le_of_ble_eq_true rfl) d_M_init_53 (fun H locs hP hD hS => ?_)
  have hP : va_P D cz_all [(h, .inr (9, [.ref a8, .ref a16, .ref a23, .ref a30, .ref a37, .ref a44, .ref a51, .int 0, .int 0, .int 0, .int 0, .int 0, .int 0, .int 0, .int 0, .int 0, .int 0])), (a8, .inl (cI, 512, .inl (fun _ => 0))), (a16, .inl (cI, 12, .inl (fun _ => 0))), (a23, .inl (cI, 4, .inl (fun _ => 0))), (a30, .inl (cI, 4, .inl (fun _ => 0))), (a37, .inl (cI, 4, .inl (fun _ => 0))), (a44, .inl (cI, 4, .inl (fun _ => 0))), (a51, .inl (cI, 4, .inl (fun _ => 0)))] H := hP
  have hD : va_D A [(h, .inr (9, [.ref a8, .ref a16, .ref a23, .ref a30, .ref a37, .ref a44, .ref a51, .int 0, .int 0, .int 0, .int 0, .int 0, .int 0, .int 0, .int 0, .int 0, .int 0])), (a8, .inl (cI, 512, .inl (fun _ => 0))), (a16, .inl (cI, 12, .inl (fun _ => 0))), (a23, .inl (cI, 4, .inl (fun _ => 0))), (a30, .inl (cI, 4, .inl (fun _ => 0))), (a37, .inl (cI, 4, .inl (fun _ => 0))), (a44, .inl (cI, 4, .inl (fun _ => 0))), (a51, .inl (cI, 4, .inl (fun _ => 0)))] := hD
  refine lv_aload_n hx hb d_M_init_56 rfl (lv_at hl 0 rfl) ?_
  refine lv_iconst (v := (-1 : Int32)) hx hb d_M_init_57 (by decide) ?_
  refine va_put (D := D) (ci := 9) (v := .int (-1)) (ty := .int) (C := rn_M) (T := fn_M) (N := 17) hx hb hts fw_M ft_M fk_M fd_M hown hK hP hD hS 0 rfl rfl 8 (by decide) (hts (.fieldLink rn_M 31 "TaskComputerModel" "running" "I") (by decide +kernel)) (fun _ h9 => h9) rfl (by decide +kernel) rfl rfl (Nat.le_of_ble_eq_true rfl) d_M_init_58 (fun H locs hP hD hS => ?_)
  have hP : va_P D cz_all [(h, .inr (9, [.ref a8, .ref a16, .ref a23, .ref a30, .ref a37, .ref a44, .ref a51, .int 0, .int (-1), .int 0, .int 0, .int 0, .int 0, .int 0, .int 0, .int 0, .int 0])), (a8, .inl (cI, 512, .inl (fun _ => 0))), (a16, .inl (cI, 12, .inl (fun _ => 0))), (a23, .inl (cI, 4, .inl (fun _ => 0))), (a30, .inl (cI, 4, .inl (fun _ => 0))), (a37, .inl (cI, 4, .inl (fun _ => 0))), (a44, .inl (cI, 4, .inl (fun _ => 0))), (a51, .inl (cI, 4, .inl (fun _ => 0)))] H := hP
  have hD : va_D A [(h, .inr (9, [.ref a8, .ref a16, .ref a23, .ref a30, .ref a37, .ref a44, .ref a51, .int 0, .int (-1), .int 0, .int 0, .int 0, .int 0, .int 0, .int 0, .int 0, .int 0])), (a8, .inl (cI, 512, .inl (fun _ => 0))), (a16, .inl (cI, 12, .inl (fun _ => 0))), (a23, .inl (cI, 4, .inl (fun _ => 0))), (a30, .inl (cI, 4, .inl (fun _ => 0))), (a37, .inl (cI, 4, .inl (fun _ => 0))), (a44, .inl (cI, 4, .inl (fun _ => 0))), (a51, .inl (cI, 4, .inl (fun _ => 0)))] := hD
  exact rt_n X hr hlk hK ⟨a8, a16, a23, a30, a37, a44, a51, rfl⟩ hP hD hS d_M_init_61
