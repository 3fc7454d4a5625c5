/-! Contracts of the constructors. -/
def nx_ (U : State) : Prop := va_AO "TaskComputer$Task" U ∧ va_Nw (.methodLinkNest rn_T 9 my_Y_init rn_T) U ∧ va_Nw (.methodLinkNest rn_T 12 my_G_init rn_T) U ∧ va_Nw (.methodLinkNest rn_T 37 my_I_init rn_T) U ∧ va_Nw (.methodLinkNest rn_K 22 my_G_init rn_T) U
theorem nx_same {u U : State} (h : u.vm = U.vm) (hn : nx_ u) : nx_ U := by
  obtain ⟨h1, h2, h3, h4, h5⟩ := hn
  exact ⟨va_AO.moved (by rw [h]; exact Vm.Alike.refl U.vm) h1, va_Nw.same rfl h h2, va_Nw.same rfl h h3, va_Nw.same rfl h h4, va_Nw.same rfl h h5⟩
theorem nx_warm {s U : State} (hW : s.WarmedH U.vm) (hn : nx_ s) : nx_ U := by
  obtain ⟨h1, h2, h3, h4, h5⟩ := hn
  exact ⟨va_AO.moved hW.alike h1, va_Nw.warmM hW h2, va_Nw.warmM hW h3, va_Nw.warmM hW h4, va_Nw.warmM hW h5⟩
def qn_p (D : va_G) (tys : List (ClassId × FieldType)) (As : List Value) (w : va_W) (sz : Nat) : Array Value → State → Prop := va_Pc As (fun U => U.heap.size = sz ∧ va_P D cz_all w U.heap ∧ va_K D cz_all tys U ∧ va_D (fun _ => True) w ∧ nx_ U)
def qn_v (D : va_G) (tys : List (ClassId × FieldType)) (B : va_W → Prop) (A : Nat → Prop) : Array Value → State → Outcome → State → Prop := va_Qv B (fun w' t => va_P D cz_all w' t.heap ∧ va_K D cz_all tys t ∧ va_D A w') A
def cn_v (l : Launch) (y : MethodName) (cc : ByteArray) (nL : Nat) (rm : Room) (D : va_G) (tys : List (ClassId × FieldType)) (As : List Value) (w : va_W) (B : va_W → Prop) (mc ms : Nat) : Prop := ∀ sz : Nat, Met l y (Cond.code y cc nL none :: wg_all) rm (qn_p D tys As w sz) (qn_v D tys B (va_A w sz)) mc ms (va_A w sz)
section CTB
variable {p : Program} {l : Launch} {e : Env} {R : Room} {s : State} {m : MethodId} {args : Array Value} {below : List Frame} {meth : Method} {c : Code} {H : Heap} {locs : List Loc} {Q : State → Prop}
variable {cc bytes : ByteArray} {pc nL maxL idx n b mc ms cells slots : Nat} {ls : Array Slot} {rest st As : List Value} {D : va_G} {tys : List (ClassId × FieldType)} {A : Nat → Prop} {w w' ws : va_W} {B : va_W → Prop} {own host : String} {y : MethodName} {rm : Room} {lv : List (Nat × Value)}
theorem qn_p_blind {As : List Value} {w : va_W} {sz : Nat} : FrameBlind (qn_p D tys As w sz) := fun a U g mk q => by
  obtain ⟨q0, q1, qP, qK, qD, qZ⟩ := q
  exact ⟨q0, q1, qP, va_K.moved (u := U) (U := U.calling g mk a) (Vm.Alike.refl U.vm) qK, qD, nx_same (u := U) (U := U.calling g mk a) rfl qZ⟩
theorem cn_v_of (hy : plainName y.cls = true) (hi : y.name = "<init>") (hn : (lg_sl As).length ≤ nL)
    (body : ∀ (p : Program) (e : Env) (s : State) (m : MethodId) (below : List Frame) (meth : Method) (c : Code) (A : Nat → Prop) (ls : Array Slot), CallFix p m c cc nL s As.toArray wg_all y.cls → meth.sig.returnType = none → meth.locks = false → meth.name = "<init>" → va_K D cz_all tys s → va_P D cz_all w s.heap → va_D A w → va_S A s.heap s.heap [] → (∀ q, s.heap.size ≤ q → A q) → nx_ s → lv_has ls nL (lv_args 0 As) →
      W p l e rm s m As.toArray below meth c s.heap [] 0 0 (MQ below (qn_v D tys B A) As.toArray s mc ms A) (F0 m 0 ls [])) : cn_v l y cc nL rm D tys As w B mc ms := by
  intro sz
  refine Met.ofW (cc := cc) (maxL := nL) (ret := none) hy rfl ?_
  intro p e s m args below meth c s₁ B hml hv
  obtain ⟨rfl, hsz, hP, hK, hD0, hZ⟩ := hv
  have hts := atoms_spec (ws := Cond.code y cc nL none :: wg_all) B.pre
  subst hsz
  rw [lg_entry_eq]
  exact body p e s m below meth c _ _ ⟨B.exec, B.bytes, hml, findClass_of_methodNamed B.named, fun w hw => hts w (List.mem_cons_of_mem _ hw)⟩ B.returns B.notSynchronized ((name_of_methodNamed B.named B.method).1.trans hi) hK hP hD0.self va_S.rf (fun q h => Or.inr h) hZ (lv_entry As hn)
theorem rt_n (X : CallFix p m c cc nL s args wg_all own) (hr : meth.sig.returnType = none) (hlk : meth.locks = false) (hK : va_K D cz_all tys s) (hB : B w') (hP : va_P D cz_all w' H) (hD : va_D A w') (hS : va_S A s.heap H locs) (hdg : decode cc pc = .ok (.return_, 1)) : W p l e R s m args below meth c H locs mc ms (MQ below (qn_v D tys B A) args s mc ms A) (F0 m pc ls []) :=
  W.vret X.1 X.2.1 hr (fun t ht hW => ⟨⟨w', rfl, hB, by rw [ht]; exact hP, va_K.moved hW.alike hK, hD⟩, hS.F ht⟩) hS.2.2 hdg hlk
def cw_I (own : String) (idx : Nat) (y : MethodName) (bytes : ByteArray) (maxL : Nat) (n : Nat) : Prop := Cond.methodLink own idx y ∈ wg_all ∧ Cond.instanceMethod y ∈ wg_all ∧ Cond.initialized y.cls ∈ wg_all ∧ Cond.code y bytes maxL none ∈ wg_all ∧ y.name = "<init>" ∧ y.cls ≠ "java/lang/invoke/MethodHandle" ∧ y.cls ≠ "java/lang/invoke/VarHandle" ∧ (parseMethodDescriptor y.desc).map (fun d => d.parameters.length) = some n
def cw_J (y : MethodName) (bytes : ByteArray) (maxL : Nat) (n : Nat) : Prop := Cond.instanceMethod y ∈ wg_all ∧ Cond.initialized y.cls ∈ wg_all ∧ Cond.code y bytes maxL none ∈ wg_all ∧ y.name = "<init>" ∧ y.cls ≠ "java/lang/invoke/MethodHandle" ∧ y.cls ≠ "java/lang/invoke/VarHandle" ∧ (parseMethodDescriptor y.desc).map (fun d => d.parameters.length) = some n
theorem pre_n (hK : va_K D cz_all tys s) (hP : va_P D cz_all w H) (hD : va_D A w) (hN : nx_ s) : PreS s H (qn_p D tys As w H.size) As :=
  ⟨qn_p_blind, fun U hU hW => ⟨rfl, by rw [hU], by rw [hU]; exact hP, va_K.moved hW.alike hK, hD.weaken (fun _ _ _ _ => trivial), nx_warm hW hN⟩⟩
theorem cf_r (hK : va_K D cz_all tys s) (hP : va_P D cz_all ws H) (hD : va_D A ws) (hS : va_S A s.heap H locs) (hA : ∀ q, s.heap.size ≤ q → A q)
    (isC isR : List Nat) (hC : isC.map (fun i => ws[i]?) = w.map some) (hRr : isR.map (fun i => ws[i]?) = (isR.filterMap (fun i => ws[i]?)).map some) (hn2 : va_nd isR = true) (hdis : ∀ i ∈ isR, i ∉ isC)
    {a : Array Value} (hr : va_Run p l e R s m args below meth c H locs cells slots mc ms (F0 m pc ls st) rest (qn_v D tys B (va_A w H.size) a) (va_A w H.size))
    (kk : ∀ (w' : va_W) (H1 : Heap) (locs1 : List Loc), B w' → va_P D cz_all ((isR.filterMap (fun i => ws[i]?)) ++ w') H1 → va_D A ((isR.filterMap (fun i => ws[i]?)) ++ w') → va_S A s.heap H1 locs1 → W p l e R s m args below meth c H1 locs1 (cells + mc) (slots + ms) Q (F0 m (pc + 3) ls rest)) : W p l e R s m args below meth c H locs cells slots Q (F0 m pc ls st) := by
  have hFc := va_free hD hS hA isC hC
  refine va_callv hr hS (fun q _ h => hFc q h) hFc (fun u t H1 locs1 ht hvm hpost hB hz1 hk1 hS1 => ?_)
  obtain ⟨hP1, hK1, hD1⟩ := hB
  rw [ht] at hP1
  obtain ⟨hP2, hD2⟩ := va_join hP hD isC isR hC hRr hn2 hdis hk1 hFc hP1 hD1
  exact kk u H1 locs1 hpost hP2 hD2 hS1
/-- a constructor is called -/
theorem cf_n (X : CallFix p m c cc nL s args wg_all own) (cw : cw_I own idx y bytes maxL n) (hK : va_K D cz_all tys s) (hP : va_P D cz_all ws H) (hD : va_D A ws) (hS : va_S A s.heap H locs) (hA : ∀ q, s.heap.size ≤ q → A q) (hN : nx_ s) (hl : lv_has ls nL lv) (hM : cn_v l y bytes maxL rm D tys (.ref b :: As) w B mc ms) (hR : rm.frames + 1 ≤ R.frames ∧ 8 + (maxL + 11) + rm.locals ≤ R.locals) (hrc : rm.cells = mc) (hrs : rm.slots = ms)
    (isC isR : List Nat) (hC : isC.map (fun i => ws[i]?) = w.map some) (hRr : isR.map (fun i => ws[i]?) = (isR.filterMap (fun i => ws[i]?)).map some) (hn1 : va_nd isC = true) (hn2 : va_nd isR = true) (hdis : ∀ i ∈ isR, i ∉ isC)
    (hst : st = As.reverse ++ .ref b :: rest) (hn : As.length = n) (hW : (rest.map fun v => v.category).sum ≤ 8) (hdg : decode cc pc = .ok (.invokespecial idx, 3)) (hf : cells + mc ≤ R.cells ∧ slots + ms ≤ R.slots)
    (kk : ∀ (w' : va_W) (H1 : Heap) (locs1 : List Loc), B w' → va_P D cz_all ((isR.filterMap (fun i => ws[i]?)) ++ w') H1 → va_D A ((isR.filterMap (fun i => ws[i]?)) ++ w') → va_S A s.heap H1 locs1 → W p l e R s m args below meth c H1 locs1 (cells + mc) (slots + ms) Q (F0 m (pc + 3) ls rest)) : W p l e R s m args below meth c H locs cells slots Q (F0 m pc ls st) := by
  subst hst
  obtain ⟨h1, h2, h4, h5, h7, h6⟩ := cw
  have ht := X.2.2.2.2
  exact cf_r hK hP hD hS hA isC isR hC hRr hn2 hdis (va_runI (As := As) (rest := rest) (b := b) X (hM H.size) ⟨callB_of n ht (wg_in h5) rfl hrc hrs (ht _ h4) (ht _ h1) h6 hR, h7, ht _ h2⟩ (pre_n hK (P_of hP isC hC) (hD.sub isC hn1 hC) hN) rfl hn hl.1 rfl (lv_room hW) hdg hf) kk
/-- a private constructor of a nest mate is called -/
theorem cf_m (X : CallFix p m c cc nL s args wg_all own) (cw : cw_J y bytes maxL n) (hnw : va_Nw (.methodLinkNest own idx y host) s) (hK : va_K D cz_all tys s) (hP : va_P D cz_all ws H) (hD : va_D A ws) (hS : va_S A s.heap H locs) (hA : ∀ q, s.heap.size ≤ q → A q) (hN : nx_ s) (hl : lv_has ls nL lv) (hM : cn_v l y bytes maxL rm D tys (.ref b :: As) w B mc ms) (hR : rm.frames + 1 ≤ R.frames ∧ 8 + (maxL + 11) + rm.locals ≤ R.locals) (hrc : rm.cells = mc) (hrs : rm.slots = ms)
    (isC isR : List Nat) (hC : isC.map (fun i => ws[i]?) = w.map some) (hRr : isR.map (fun i => ws[i]?) = (isR.filterMap (fun i => ws[i]?)).map some) (hn1 : va_nd isC = true) (hn2 : va_nd isR = true) (hdis : ∀ i ∈ isR, i ∉ isC)
    (hst : st = As.reverse ++ .ref b :: rest) (hn : As.length = n) (hW : (rest.map fun v => v.category).sum ≤ 8) (hdg : decode cc pc = .ok (.invokespecial idx, 3)) (hf : cells + mc ≤ R.cells ∧ slots + ms ≤ R.slots)
    (kk : ∀ (w' : va_W) (H1 : Heap) (locs1 : List Loc), B w' → va_P D cz_all ((isR.filterMap (fun i => ws[i]?)) ++ w') H1 → va_D A ((isR.filterMap (fun i => ws[i]?)) ++ w') → va_S A s.heap H1 locs1 → W p l e R s m args below meth c H1 locs1 (cells + mc) (slots + ms) Q (F0 m (pc + 3) ls rest)) : W p l e R s m args below meth c H locs cells slots Q (F0 m pc ls st) := by
  subst hst
  obtain ⟨h2, h4, h5, h7, h6⟩ := cw
  have ht := X.2.2.2.2
  exact cf_r hK hP hD hS hA isC isR hC hRr hn2 hdis (va_runIN (As := As) (rest := rest) (b := b) X (hM H.size) ⟨va_cnB n ht (wg_in h5) rfl hrc hrs hnw (ht _ h4) h6 hR, h7, ht _ h2⟩ (pre_n hK (P_of hP isC hC) (hD.sub isC hn1 hC) hN) rfl hn hl.1 rfl (lv_room hW) hdg hf) kk
end CTB
theorem oi_1 : Cond.instanceMethod objectInit ∈ wg_all := by decide +kernel
theorem oi_2 : Cond.code objectInit ⟨#[0xb1]⟩ 1 none ∈ wg_all := by decide +kernel
