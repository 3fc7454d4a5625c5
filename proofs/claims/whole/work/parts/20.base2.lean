/-! Contracts of the class's methods: as co_i, co_v, and what the static table PUSHED holds is carried along; calls with the frame rule. -/
def ps_i : Nat → Int32 := fun j => match j with
  | 0 => 10
  | 1 => 8
  | 2 => 9
  | 3 => 11
  | 4 => 1
  | 5 => 2
  | 6 => 3
  | _ => 5
def sa_ (A : Nat → Prop) (U : State) (H : Heap) : Prop := ∃ t : Nat, va_Z "TaskComputer$Registers" "PUSHED" "[I" (.ref t) A U H ∧ va_T .int t 8 (fun j => .int (ps_i j)) A U H
theorem sa_moved {A : Nat → Prop} {u U : State} {H : Heap} (hvm : u.vm.Alike U.vm) (h : sa_ A u H) : sa_ A U H := by
  obtain ⟨t, h1, h2⟩ := h
  exact ⟨t, h1.moved hvm, h2.moved hvm⟩
theorem sa_kept {A : Nat → Prop} {U : State} {H H1 : Heap} (h : sa_ A U H) (hq : ∀ a : Nat, a < H.size → ¬ A a → H1[a]? = H[a]?) : sa_ A U H1 := by
  obtain ⟨t, h1, h2⟩ := h
  exact ⟨t, h1.kept hq, h2.kept hq⟩
theorem sa_narrow {A B : Nat → Prop} {U : State} {H : Heap} (h : sa_ A U H) (hAB : ∀ q, B q → A q) : sa_ B U H := by
  obtain ⟨t, h1, h2⟩ := h
  exact ⟨t, h1.narrow hAB, h2.narrow hAB⟩
def opt_c {α : Type} (x : Option Nat) (a : Option α) (b : Nat → Option α) : Option α := match x with
  | none => a
  | some i => b i
theorem op_n {α : Type} {x : Option Nat} {a : Option α} {b : Nat → Option α} {z : α} (h : opt_c x a b = some z) : (x = none ∧ a = some z) ∨ ∃ i, x = some i ∧ b i = some z := by
  cases x with
  | none => exact Or.inl ⟨rfl, h⟩
  | some i => exact Or.inr ⟨i, rfl, h⟩
theorem op_f {α : Type} {x : Option Nat} {b : Nat → Option α} {z : α} (h : opt_c x none b = some z) : ∃ i, x = some i ∧ b i = some z := by
  rcases op_n h with ⟨_, h⟩ | h
  · cases h
  · exact h
theorem op_t {β : Type} {i n : Nat} {x : Option β} {z : β} (h : (if i < n then x else none) = some z) : i < n ∧ x = some z := by
  by_cases hb : i < n
  · rw [if_pos hb] at h
    exact ⟨hb, h⟩
  · rw [if_neg hb] at h
    cases h
def tk_ok (o : Option Nat) : Bool := match o with
  | none => true
  | some i => decide (i < 4)
theorem op_k {β : Type} {o : Option Nat} {x : Option β} {z : β} (h : (if tk_ok o = true then x else none) = some z) : tk_ok o = true ∧ x = some z := by
  by_cases hb : tk_ok o = true
  · rw [if_pos hb] at h
    exact ⟨hb, h⟩
  · rw [if_neg hb] at h
    cases h
section BASE2
variable {p : Program} {l : Launch} {e : Env} {R : Room} {s : State} {m : MethodId} {args : Array Value} {below : List Frame} {meth : Method} {c : Code} {H : Heap} {locs : List Loc} {Q : State → Prop}
variable {cc bytes : ByteArray} {pc nL maxL idx n b : Nat} {ls : Array Slot} {rest st As : List Value} {D : va_G} {tys : List (ClassId × FieldType)} {A : Nat → Prop} {w w' ws : va_W} {own : String} {y : MethodName} {rt : FieldType} {ret : Option FieldType} {rm : Room} {r : Int32} {ro : Option Nat} {lv : List (Nat × Value)}
def qs_q (D : va_G) (tys : List (ClassId × FieldType)) (w' : va_W) (r : Option Nat) (A : Nat → Prop) : Array Value → State → Outcome → State → Prop := va_Qq (fun r' (_ : Unit) => r' = r) (fun _ t => va_P D cz_all w' t.heap ∧ va_K D cz_all tys t ∧ va_D A w') A
def qc_p (D : va_G) (tys : List (ClassId × FieldType)) (As : List Value) (w : va_W) (sz : Nat) : Array Value → State → Prop := va_Pc As (fun U => U.heap.size = sz ∧ va_P D cz_all w U.heap ∧ va_K D cz_all tys U ∧ va_D (fun _ => True) w ∧ sa_ (va_A w sz) U U.heap)
def cs_i (l : Launch) (y : MethodName) (cc : ByteArray) (nL : Nat) (rt : FieldType) (rm : Room) (D : va_G) (tys : List (ClassId × FieldType)) (As : List Value) (w w' : va_W) (r : Int32) : Prop := ∀ sz : Nat, Met l y (Cond.code y cc nL (some rt) :: wg_all) rm (qc_p D tys As w sz) (qs_i D tys w' r (va_A w sz)) 0 0 (va_A w sz)
def cs_v (l : Launch) (y : MethodName) (cc : ByteArray) (nL : Nat) (rm : Room) (D : va_G) (tys : List (ClassId × FieldType)) (As : List Value) (w w' : va_W) : Prop := ∀ sz : Nat, Met l y (Cond.code y cc nL none :: wg_all) rm (qc_p D tys As w sz) (qs_v D tys w' (va_A w sz)) 0 0 (va_A w sz)
def cs_q (l : Launch) (y : MethodName) (cc : ByteArray) (nL : Nat) (rt : FieldType) (rm : Room) (D : va_G) (tys : List (ClassId × FieldType)) (As : List Value) (w w' : va_W) (r : Option Nat) : Prop := ∀ sz : Nat, Met l y (Cond.code y cc nL (some rt) :: wg_all) rm (qc_p D tys As w sz) (qs_q D tys w' r (va_A w sz)) 0 0 (va_A w sz)
theorem qc_p_blind {As : List Value} {w : va_W} {sz : Nat} : FrameBlind (qc_p D tys As w sz) := fun a U g mk q => by
  obtain ⟨q0, q1, qP, qK, qD, qZ⟩ := q
  exact ⟨q0, q1, qP, va_K.moved (u := U) (U := U.calling g mk a) (Vm.Alike.refl U.vm) qK, qD, sa_moved (u := U) (U := U.calling g mk a) (Vm.Alike.refl U.vm) qZ⟩
theorem cs_i_of (hy : plainName y.cls = true) (hn : (lg_sl As).length ≤ nL)
    (body : ∀ (p : Program) (e : Env) (s : State) (m : MethodId) (below : List Frame) (meth : Method) (c : Code) (A : Nat → Prop) (ls : Array Slot), CallFix p m c cc nL s As.toArray wg_all y.cls → meth.sig.returnType = some rt → meth.locks = false → va_K D cz_all tys s → va_P D cz_all w s.heap → va_D A w → va_S A s.heap s.heap [] → (∀ q, s.heap.size ≤ q → A q) → sa_ A s s.heap → lv_has ls nL (lv_args 0 As) →
      W p l e rm s m As.toArray below meth c s.heap [] 0 0 (MQ below (qs_i D tys w' r A) As.toArray s 0 0 A) (F0 m 0 ls [])) : cs_i l y cc nL rt rm D tys As w w' r := by
  intro sz
  refine Met.ofW (cc := cc) (maxL := nL) (ret := some rt) hy rfl ?_
  intro p e s m args below meth c s₁ B hml hv
  obtain ⟨rfl, hsz, hP, hK, hD0, hZ⟩ := hv
  have hts := atoms_spec (ws := Cond.code y cc nL (some rt) :: wg_all) B.pre
  subst hsz
  rw [lg_entry_eq]
  exact body p e s m below meth c _ _ ⟨B.exec, B.bytes, hml, findClass_of_methodNamed B.named, fun w hw => hts w (List.mem_cons_of_mem _ hw)⟩ B.returns B.notSynchronized hK hP hD0.self va_S.rf (fun q h => Or.inr h) hZ (lv_entry As hn)
theorem cs_v_of (hy : plainName y.cls = true) (hn : (lg_sl As).length ≤ nL)
    (body : ∀ (p : Program) (e : Env) (s : State) (m : MethodId) (below : List Frame) (meth : Method) (c : Code) (A : Nat → Prop) (ls : Array Slot), CallFix p m c cc nL s As.toArray wg_all y.cls → meth.sig.returnType = none → meth.locks = false → va_K D cz_all tys s → va_P D cz_all w s.heap → va_D A w → va_S A s.heap s.heap [] → (∀ q, s.heap.size ≤ q → A q) → sa_ A s s.heap → lv_has ls nL (lv_args 0 As) →
      W p l e rm s m As.toArray below meth c s.heap [] 0 0 (MQ below (qs_v D tys w' A) As.toArray s 0 0 A) (F0 m 0 ls [])) : cs_v l y cc nL rm D tys As w w' := by
  intro sz
  refine Met.ofW (cc := cc) (maxL := nL) (ret := none) hy rfl ?_
  intro p e s m args below meth c s₁ B hml hv
  obtain ⟨rfl, hsz, hP, hK, hD0, hZ⟩ := hv
  have hts := atoms_spec (ws := Cond.code y cc nL none :: wg_all) B.pre
  subst hsz
  rw [lg_entry_eq]
  exact body p e s m below meth c _ _ ⟨B.exec, B.bytes, hml, findClass_of_methodNamed B.named, fun w hw => hts w (List.mem_cons_of_mem _ hw)⟩ B.returns B.notSynchronized hK hP hD0.self va_S.rf (fun q h => Or.inr h) hZ (lv_entry As hn)
theorem cs_q_of (hy : plainName y.cls = true) (hn : (lg_sl As).length ≤ nL)
    (body : ∀ (p : Program) (e : Env) (s : State) (m : MethodId) (below : List Frame) (meth : Method) (c : Code) (A : Nat → Prop) (ls : Array Slot), CallFix p m c cc nL s As.toArray wg_all y.cls → meth.sig.returnType = some rt → meth.locks = false → va_K D cz_all tys s → va_P D cz_all w s.heap → va_D A w → va_S A s.heap s.heap [] → (∀ q, s.heap.size ≤ q → A q) → sa_ A s s.heap → lv_has ls nL (lv_args 0 As) →
      W p l e rm s m As.toArray below meth c s.heap [] 0 0 (MQ below (qs_q D tys w' ro A) As.toArray s 0 0 A) (F0 m 0 ls [])) : cs_q l y cc nL rt rm D tys As w w' ro := by
  intro sz
  refine Met.ofW (cc := cc) (maxL := nL) (ret := some rt) hy rfl ?_
  intro p e s m args below meth c s₁ B hml hv
  obtain ⟨rfl, hsz, hP, hK, hD0, hZ⟩ := hv
  have hts := atoms_spec (ws := Cond.code y cc nL (some rt) :: wg_all) B.pre
  subst hsz
  rw [lg_entry_eq]
  exact body p e s m below meth c _ _ ⟨B.exec, B.bytes, hml, findClass_of_methodNamed B.named, fun w hw => hts w (List.mem_cons_of_mem _ hw)⟩ B.returns B.notSynchronized hK hP hD0.self va_S.rf (fun q h => Or.inr h) hZ (lv_entry As hn)
theorem rt_q (X : CallFix p m c cc nL s args wg_all own) {nm : String} (hr : meth.sig.returnType = some (.object nm)) (hlk : meth.locks = false) (hK : va_K D cz_all tys s) (hP : va_P D cz_all w' H) (hD : va_D A w') (hS : va_S A s.heap H locs) (hdg : decode cc pc = .ok (.areturn, 1)) : W p l e R s m args below meth c H locs 0 0 (MQ below (qs_q D tys w' ro A) args s 0 0 A) (F0 m pc ls [va_rf ro]) :=
  W.aret X.1 X.2.1 hr (Or.inl ⟨nm, rfl⟩) (va_rf_or ro) (fun t ht hW => ⟨⟨ro, (), rfl, rfl, by rw [ht]; exact hP, va_K.moved hW.alike hK, hD⟩, hS.F ht⟩) hS.2.2 hdg hlk
theorem P_of {D : va_G} {cl : List vw_C} {ws wc : va_W} {H : Heap} (hP : va_P D cl ws H) (isC : List Nat) (hC : isC.map (fun i => ws[i]?) = wc.map some) : va_P D cl wc H := by
  intro k q hk
  obtain ⟨i, -, hi⟩ := va_in_of isC hC hk
  exact hP i q hi
theorem pre_cV (hK : va_K D cz_all tys s) (hP : va_P D cz_all w H) (hD : va_D A w) (hZ : sa_ (va_A w H.size) s H) {C : String} (hcell : ∃ cell : Cell, H[b]? = some cell ∧ cell.vm.isStatics = false ∧ s.vm.findClass C = some cell.cls) : PreV s H C b (qc_p D tys (.ref b :: As) w H.size) As :=
  ⟨qc_p_blind, hcell, fun U hU hW => ⟨rfl, by rw [hU], by rw [hU]; exact hP, va_K.moved hW.alike hK, hD.weaken (fun _ _ _ _ => trivial), by rw [hU]; exact sa_moved hW.alike hZ⟩⟩
theorem pre_cS (hK : va_K D cz_all tys s) (hP : va_P D cz_all w H) (hD : va_D A w) (hZ : sa_ (va_A w H.size) s H) : PreS s H (qc_p D tys As w H.size) As :=
  ⟨qc_p_blind, fun U hU hW => ⟨rfl, by rw [hU], by rw [hU]; exact hP, va_K.moved hW.alike hK, hD.weaken (fun _ _ _ _ => trivial), by rw [hU]; exact sa_moved hW.alike hZ⟩⟩
/-- a call with the frame rule: what the callee needs lies at the places isC of the caller's world, the rest at isR; ws2 is the caller's world behind the call, by the places is2 of rest and callee's world -/
theorem cf_i {ws2 : va_W} (X : CallFix p m c cc nL s args wg_all own) (cw : cw_V own idx y bytes maxL (some rt) n) (hK : va_K D cz_all tys s) (hP : va_P D cz_all ws H) (hD : va_D A ws) (hS : va_S A s.heap H locs) (hA : ∀ q, s.heap.size ≤ q → A q) (hZ : sa_ A s s.heap) (hl : lv_has ls nL lv) (hM : cs_i l y bytes maxL rt rm D tys (.ref b :: As) w w' r) (hR : rm_in rm R maxL)
    (isC isR is2 : List Nat) (hC : isC.map (fun i => ws[i]?) = w.map some) (hRr : isR.map (fun i => ws[i]?) = (isR.filterMap (fun i => ws[i]?)).map some) (hn1 : va_nd isC = true) (hn2 : va_nd isR = true) (hdis : ∀ i ∈ isR, i ∉ isC) (h2 : is2.map (fun i => ((isR.filterMap (fun i => ws[i]?)) ++ w')[i]?) = ws2.map some) (hn3 : va_nd is2 = true)
    (q0 : Nat) {ci : Nat} {fs : List Value} {q : vw_C} (he : w[q0]? = some (b, .inr (ci, fs))) (hc : cz_all[ci]? = some q) (hq : q.1 = y.cls) (hst : st = As.reverse ++ .ref b :: rest) (hn : As.length = n) (hW : (rest.map fun v => v.category).sum ≤ 8) (hdg : decode cc pc = .ok (.invokevirtual idx, 3))
    (kk : ∀ (H1 : Heap) (locs1 : List Loc), va_P D cz_all ws2 H1 → va_D A ws2 → va_S A s.heap H1 locs1 → W p l e R s m args below meth c H1 locs1 0 0 Q (F0 m (pc + 3) ls (.int r :: rest))) : W p l e R s m args below meth c H locs 0 0 Q (F0 m pc ls st) := by
  subst hst
  have hPc := P_of hP isC hC
  have hDc := hD.sub isC hn1 hC
  have hFc := va_free hD hS hA isC hC
  have hZc := sa_narrow (sa_kept hZ hS.2.1) hFc
  have hcell := va_recv hK hPc hc he
  rw [hq] at hcell
  refine va_calli (va_runV (As := As) (rest := rest) (b := b) X (hM H.size) (cw_V_use cw X hR) (pre_cV hK hPc hDc hZc hcell) rfl hn hl.1 rfl (lv_room hW) hdg ⟨Nat.zero_le _, Nat.zero_le _⟩) hS (fun q _ h => hFc q h) hFc (fun r' u t H1 locs1 ht hvm hpost hB hz1 hk1 hS1 => ?_)
  obtain ⟨hP1, hK1, hD1⟩ := hB
  cases hpost
  rw [ht] at hP1
  obtain ⟨hP2, hD2⟩ := va_join hP hD isC isR hC hRr hn2 hdis hk1 hFc hP1 hD1
  exact kk H1 locs1 (P_of hP2 is2 h2) (hD2.sub is2 hn3 h2) hS1
theorem cf_v {ws2 : va_W} (X : CallFix p m c cc nL s args wg_all own) (cw : cw_V own idx y bytes maxL none n) (hK : va_K D cz_all tys s) (hP : va_P D cz_all ws H) (hD : va_D A ws) (hS : va_S A s.heap H locs) (hA : ∀ q, s.heap.size ≤ q → A q) (hZ : sa_ A s s.heap) (hl : lv_has ls nL lv) (hM : cs_v l y bytes maxL rm D tys (.ref b :: As) w w') (hR : rm_in rm R maxL)
    (isC isR is2 : List Nat) (hC : isC.map (fun i => ws[i]?) = w.map some) (hRr : isR.map (fun i => ws[i]?) = (isR.filterMap (fun i => ws[i]?)).map some) (hn1 : va_nd isC = true) (hn2 : va_nd isR = true) (hdis : ∀ i ∈ isR, i ∉ isC) (h2 : is2.map (fun i => ((isR.filterMap (fun i => ws[i]?)) ++ w')[i]?) = ws2.map some) (hn3 : va_nd is2 = true)
    (q0 : Nat) {ci : Nat} {fs : List Value} {q : vw_C} (he : w[q0]? = some (b, .inr (ci, fs))) (hc : cz_all[ci]? = some q) (hq : q.1 = y.cls) (hst : st = As.reverse ++ .ref b :: rest) (hn : As.length = n) (hW : (rest.map fun v => v.category).sum ≤ 8) (hdg : decode cc pc = .ok (.invokevirtual idx, 3))
    (kk : ∀ (H1 : Heap) (locs1 : List Loc), va_P D cz_all ws2 H1 → va_D A ws2 → va_S A s.heap H1 locs1 → W p l e R s m args below meth c H1 locs1 0 0 Q (F0 m (pc + 3) ls rest)) : W p l e R s m args below meth c H locs 0 0 Q (F0 m pc ls st) := by
  subst hst
  have hPc := P_of hP isC hC
  have hDc := hD.sub isC hn1 hC
  have hFc := va_free hD hS hA isC hC
  have hZc := sa_narrow (sa_kept hZ hS.2.1) hFc
  have hcell := va_recv hK hPc hc he
  rw [hq] at hcell
  refine va_callv (va_runV (As := As) (rest := rest) (b := b) X (hM H.size) (cw_V_use cw X hR) (pre_cV hK hPc hDc hZc hcell) rfl hn hl.1 rfl (lv_room hW) hdg ⟨Nat.zero_le _, Nat.zero_le _⟩) hS (fun q _ h => hFc q h) hFc (fun u t H1 locs1 ht hvm hpost hB hz1 hk1 hS1 => ?_)
  obtain ⟨hP1, hK1, hD1⟩ := hB
  rw [ht] at hP1
  obtain ⟨hP2, hD2⟩ := va_join hP hD isC isR hC hRr hn2 hdis hk1 hFc hP1 hD1
  exact kk H1 locs1 (P_of hP2 is2 h2) (hD2.sub is2 hn3 h2) hS1
theorem cf_q {ws2 : va_W} (X : CallFix p m c cc nL s args wg_all own) (cw : cw_V own idx y bytes maxL (some rt) n) (hK : va_K D cz_all tys s) (hP : va_P D cz_all ws H) (hD : va_D A ws) (hS : va_S A s.heap H locs) (hA : ∀ q, s.heap.size ≤ q → A q) (hZ : sa_ A s s.heap) (hl : lv_has ls nL lv) (hM : cs_q l y bytes maxL rt rm D tys (.ref b :: As) w w' ro) (hR : rm_in rm R maxL)
    (isC isR is2 : List Nat) (hC : isC.map (fun i => ws[i]?) = w.map some) (hRr : isR.map (fun i => ws[i]?) = (isR.filterMap (fun i => ws[i]?)).map some) (hn1 : va_nd isC = true) (hn2 : va_nd isR = true) (hdis : ∀ i ∈ isR, i ∉ isC) (h2 : is2.map (fun i => ((isR.filterMap (fun i => ws[i]?)) ++ w')[i]?) = ws2.map some) (hn3 : va_nd is2 = true)
    (q0 : Nat) {ci : Nat} {fs : List Value} {q : vw_C} (he : w[q0]? = some (b, .inr (ci, fs))) (hc : cz_all[ci]? = some q) (hq : q.1 = y.cls) (hst : st = As.reverse ++ .ref b :: rest) (hn : As.length = n) (hW : (rest.map fun v => v.category).sum ≤ 8) (hdg : decode cc pc = .ok (.invokevirtual idx, 3))
    (kk : ∀ (H1 : Heap) (locs1 : List Loc), va_P D cz_all ws2 H1 → va_D A ws2 → va_S A s.heap H1 locs1 → W p l e R s m args below meth c H1 locs1 0 0 Q (F0 m (pc + 3) ls (va_rf ro :: rest))) : W p l e R s m args below meth c H locs 0 0 Q (F0 m pc ls st) := by
  subst hst
  have hPc := P_of hP isC hC
  have hDc := hD.sub isC hn1 hC
  have hFc := va_free hD hS hA isC hC
  have hZc := sa_narrow (sa_kept hZ hS.2.1) hFc
  have hcell := va_recv hK hPc hc he
  rw [hq] at hcell
  refine va_callq (va_runV (As := As) (rest := rest) (b := b) X (hM H.size) (cw_V_use cw X hR) (pre_cV hK hPc hDc hZc hcell) rfl hn hl.1 rfl (lv_room hW) hdg ⟨Nat.zero_le _, Nat.zero_le _⟩) hS (fun q _ h => hFc q h) hFc (fun r' u t H1 locs1 ht hvm hpost hB hz1 hk1 hS1 => ?_)
  obtain ⟨hP1, hK1, hD1⟩ := hB
  cases hpost
  rw [ht] at hP1
  obtain ⟨hP2, hD2⟩ := va_join hP hD isC isR hC hRr hn2 hdis hk1 hFc hP1 hD1
  exact kk H1 locs1 (P_of hP2 is2 h2) (hD2.sub is2 hn3 h2) hS1
/-- invokestatic, an int; the callee keeps any world -/
theorem cf_si (X : CallFix p m c cc nL s args wg_all own) (cw : cw_S own idx y bytes maxL (some rt) n) (hK : va_K D cz_all tys s) (hP : va_P D cz_all w H) (hD : va_D A w) (hS : va_S A s.heap H locs) (hA : ∀ q, s.heap.size ≤ q → A q) (hZ : sa_ A s s.heap) (hl : lv_has ls nL lv) (hM : cs_i l y bytes maxL rt rm D tys As w w' r) (hR : rm_in rm R maxL) (hst : st = As.reverse ++ rest) (hn : As.length = n) (hW : (rest.map fun v => v.category).sum ≤ 8) (hdg : decode cc pc = .ok (.invokestatic idx, 3))
    (kk : ∀ (H1 : Heap) (locs1 : List Loc), va_P D cz_all w' H1 → va_D A w' → va_S A s.heap H1 locs1 → W p l e R s m args below meth c H1 locs1 0 0 Q (F0 m (pc + 3) ls (.int r :: rest))) : W p l e R s m args below meth c H locs 0 0 Q (F0 m pc ls st) := by
  subst hst
  have hFc := fr_all hD hS hA
  have hZc := sa_narrow (sa_kept hZ hS.2.1) hFc
  refine va_calli (va_runS (As := As) (rest := rest) X (hM H.size) (cw_S_use cw X hR) (pre_cS hK hP hD hZc) rfl hn hl.1 rfl (lv_room hW) hdg ⟨Nat.zero_le _, Nat.zero_le _⟩) hS (fun q _ h => hFc q h) hFc (fun r' u t H1 locs1 ht hvm hpost hB hz1 hk1 hS1 => ?_)
  obtain ⟨hP1, hK1, hD1⟩ := hB
  cases hpost
  exact kk H1 locs1 (by rw [← ht]; exact hP1) (hD1.weaken (fun k q _ h => hFc q.1 h)) hS1
/-- loads and stores of a reference that may be null -/
theorem lo_aload_n (hexec : p.tables.exec = Jvm.exec) (hb : c.code = cc) {k : Fin 4} {i : Nat} (hdg : decode cc pc = .ok (.aload_n k, 1)) (hi : (k : Nat) = i) (hl : ls[i]? = some (.val (va_rf ro)))
    (kk : W p l e R s m args below meth c H locs 0 0 Q (F0 m (pc + 1) ls (va_rf ro :: rest))) : W p l e R s m args below meth c H locs 0 0 Q (F0 m pc ls rest) := by
  cases ro with
  | none => exact lv_aload_nN hexec hb hdg hi hl kk
  | some a => exact lv_aload_n hexec hb hdg hi hl kk
theorem lo_aload (hexec : p.tables.exec = Jvm.exec) (hb : c.code = cc) {i : Nat} (hdg : decode cc pc = .ok (.aload i, 2)) (hl : ls[i]? = some (.val (va_rf ro)))
    (kk : W p l e R s m args below meth c H locs 0 0 Q (F0 m (pc + 2) ls (va_rf ro :: rest))) : W p l e R s m args below meth c H locs 0 0 Q (F0 m pc ls rest) := by
  cases ro with
  | none => exact lv_aloadN hexec hb hdg hl kk
  | some a => exact lv_aload hexec hb hdg hl kk
theorem lo_astore_n (hexec : p.tables.exec = Jvm.exec) (hb : c.code = cc) {k : Fin 4} {i nL : Nat} {lv lv' : List (Nat × Value)} (hdg : decode cc pc = .ok (.astore_n k, 1)) (hi : (k : Nat) = i) (h : lv_has ls nL lv) (hn : i < nL) (hl : (i, va_rf ro) :: lv.filter (fun q => !(q.1 == i) && !(q.1 + 1 == i && q.2.category == 2)) = lv')
    (kk : ∀ ls' : Array Slot, lv_has ls' nL lv' → W p l e R s m args below meth c H locs 0 0 Q (F0 m (pc + 1) ls' rest)) : W p l e R s m args below meth c H locs 0 0 Q (F0 m pc ls (va_rf ro :: rest)) := by
  cases ro with
  | none => exact lv_astore_nN hexec hb hdg hi h hn hl kk
  | some a => exact lv_astore_n hexec hb hdg hi h hn hl kk
theorem lo_astore (hexec : p.tables.exec = Jvm.exec) (hb : c.code = cc) {i nL : Nat} {lv lv' : List (Nat × Value)} (hdg : decode cc pc = .ok (.astore i, 2)) (h : lv_has ls nL lv) (hn : i < nL) (hl : (i, va_rf ro) :: lv.filter (fun q => !(q.1 == i) && !(q.1 + 1 == i && q.2.category == 2)) = lv')
    (kk : ∀ ls' : Array Slot, lv_has ls' nL lv' → W p l e R s m args below meth c H locs 0 0 Q (F0 m (pc + 2) ls' rest)) : W p l e R s m args below meth c H locs 0 0 Q (F0 m pc ls (va_rf ro :: rest)) := by
  cases ro with
  | none => exact lv_astoreN hexec hb hdg h hn hl kk
  | some a => exact lv_astore hexec hb hdg h hn hl kk
end BASE2
