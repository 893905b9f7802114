theorem zz_ws_at {args a' : Array Value} {s U : State} (hts : ∀ w ∈ zz_ws, w.before args s = true) (hW : s.WarmedH U.vm) : ∀ w ∈ zz_ws, w.before a' U = true := by
  intro w hw
  exact word_at hW (good_of_word (List.mem_filter.mp hw).2) (hts w hw)
theorem zz_cats : ∀ (st : List Value), (st.map fun v => v.category).sum ≤ 2 * st.length
  | [] => by simp
  | v :: r => by
    have h := zz_cats r
    rw [List.map_cons, List.sum_cons, List.length_cons]
    rcases lv_cat v with hv | hv <;> omega
section ZK
variable {p : Program} {l : Launch} {e : Env} {R : Room} {s : State} {m : MethodId} {args : Array Value} {below : List Frame} {meth : Method} {c : Code} {H : Heap} {T : State} {locs : List Loc} {cells slots : Nat} {Q : State → Prop}
def zz_CF (s : State) (y : MethodName) (cc : ByteArray) (maxL : Nat) (ret : Option FieldType) (hs : List (Nat × Nat × Nat × Nat)) : Prop :=
  ∃ (mk : MethodId) (methY : Method) (cY : Code), s.methodNamed? y = some mk ∧ s.vm.method? mk = some methY ∧ methY.code = some cY ∧ cY.code = cc ∧ cY.maxLocals = maxL ∧ methY.sig.returnType = ret ∧ methY.locks = false ∧ cY.exceptionTable.toList = tableOf hs ∧ parseMethodDescriptor y.desc = some methY.sig
theorem zz_CF_code {y : MethodName} {cc : ByteArray} {maxL : Nat} {ret : Option FieldType} (h : (Cond.code y cc maxL ret).before args s = true) : zz_CF s y cc maxL ret [] := by
  obtain ⟨mk, hn⟩ := Cond.code_named h
  obtain ⟨meth, c, h1, h2, h3, h4, h5, h6, h7, h8⟩ := Cond.code_spec hn h
  refine ⟨mk, meth, c, hn, h1, h2, h3, h4, h5, h6, ?_, h8⟩
  have h0 : c.exceptionTable.size = 0 := by simpa [Array.isEmpty] using h7
  exact List.eq_nil_of_length_eq_zero (by simpa using h0)
theorem zz_CF_with {y : MethodName} {cc : ByteArray} {maxL : Nat} {ret : Option FieldType} {hs : List (Nat × Nat × Nat × Nat)} (h : (Cond.codeWith y cc maxL ret hs).before args s = true) : zz_CF s y cc maxL ret hs := by
  obtain ⟨mk, meth, c, hn, h1, h2, h3, h4, h5, h6, h7, h8⟩ := Cond.codeWith_spec h
  exact ⟨mk, meth, c, hn, h1, h2, h3, h4, h6, h7, by rw [← h5, table_eq], h8⟩
def zz_Arr (p : Program) (l : Launch) (e : Env) (R : Room) (s : State) (m : MethodId) (args : Array Value) (below : List Frame) (meth : Method) (c : Code) (T : State) (locs : List Loc) (cells slots : Nat) (g : JFrame) (rest : List Value) (y : MethodName) (maxL : Nat) (a : Array Value) : Prop :=
  ∃ (mk : MethodId) (methY : Method) (cY : Code) (vm₁ : Vm), s.methodNamed? y = some mk ∧ s.vm.method? mk = some methY ∧ methY.code = some cY ∧ cY.maxLocals = maxL ∧ Stand p l e R s m args below meth c (T.setVm vm₁) locs cells slots ∧
    ∀ target, (∀ acts, Steps p.tables e below (doInvoke e ((T.setVm vm₁).setTop { g with stack := rest }) acts mk a).1 target) → Steps p.tables e below (T.setTop g) target
theorem zz_arrS (X : Stand p l e R s m args below meth c T locs cells slots) (hexec : p.tables.exec = Jvm.exec) {own : String} {index maxL : Nat} {y : MethodName} {cc : ByteArray} {ret : Option FieldType} {hs : List (Nat × Nat × Nat × Nat)} (hown : s.vm.findClass own = some m.cls) (hlink : (Cond.methodLink own index y).before args s = true) (hstat : (Cond.static y).before args s = true) (hini : (Cond.initialized y.cls).before args s = true)
    (hF : zz_CF s y cc maxL ret hs) (hy : y.cls ≠ "java/lang/invoke/MethodHandle" ∧ y.cls ≠ "java/lang/invoke/VarHandle") {g : JFrame} (hg : g.method = m) {As rest : List Value} (hlen : (parseMethodDescriptor y.desc).map (fun d => d.parameters.length) = some As.length) (hstack : g.stack = As.reverse ++ rest) (hdg : decode c.code g.pc = .ok (.invokestatic index, 3)) :
    zz_Arr p l e R s m args below meth c T locs cells slots g rest y maxL As.toArray := by
  obtain ⟨mk, methY, cY, h1, h2, h3, h4, h5, h6, h7, h8, h9⟩ := hF
  obtain ⟨kP, hkP, -⟩ := className_of_methodNamed h1
  have hinitP : kP.init = .initialized := Cond.initialized_spec (findClass_of_methodNamed h1) hkP hini
  rw [h9] at hlen
  obtain ⟨vm₁, X₁, st⟩ := X.invokestatic hexec hown hlink h1 h2 (Cond.static_spec h1 h2 hstat) hkP hinitP hy (g := g) hg (argsL := As) (rest := rest) (Option.some.inj hlen).symm hstack hdg
  exact ⟨mk, methY, cY, vm₁, h1, h2, h3, h5, X₁, st⟩
theorem zz_arrV (X : Stand p l e R s m args below meth c T locs cells slots) (hexec : p.tables.exec = Jvm.exec) {own C : String} {index maxL : Nat} {y : MethodName} {cc : ByteArray} {ret : Option FieldType} {hs : List (Nat × Nat × Nat × Nat)} (hown : s.vm.findClass own = some m.cls) (hlink : (Cond.methodLink own index y).before args s = true) (hinst : (Cond.instanceMethod y).before args s = true) (hsel : (Cond.selects C y y).before args s = true)
    (hF : zz_CF s y cc maxL ret hs) (hy : y.cls ≠ "java/lang/invoke/MethodHandle" ∧ y.cls ≠ "java/lang/invoke/VarHandle") {b : Addr} {cellB : Cell} (hcell : T.heap[b]? = some cellB) (hobj : cellB.vm.isStatics = false) (hcls : s.vm.findClass C = some cellB.cls)
    {g : JFrame} (hg : g.method = m) {As rest : List Value} (hlen : (parseMethodDescriptor y.desc).map (fun d => d.parameters.length) = some As.length) (hstack : g.stack = As.reverse ++ .ref b :: rest) (hdg : decode c.code g.pc = .ok (.invokevirtual index, 3)) :
    zz_Arr p l e R s m args below meth c T locs cells slots g rest y maxL (Value.ref b :: As).toArray := by
  obtain ⟨mk, methY, cY, h1, h2, h3, h4, h5, h6, h7, h8, h9⟩ := hF
  obtain ⟨mk', methM, hnamed, hmethM, hstM, habM⟩ := Cond.instanceMethod_spec hinst
  cases Option.some.inj (h1.symm.trans hnamed)
  cases Option.some.inj (h2.symm.trans hmethM)
  obtain ⟨c2, r2, m2, q1, q2, q3, q4, kP, hkP, hkPi⟩ := Cond.selects_spec hsel
  cases hcls.symm.trans q1
  cases (State.methodFound?_of_named hnamed hy).symm.trans q2
  cases hnamed.symm.trans q3
  have hselP : selectMethod e.platform s.vm cellB.cls mk = .method mk := by rw [Launch.admits_selectMethod X.admits]; exact q4
  rw [h9] at hlen
  obtain ⟨vm₁, X₁, st⟩ := X.invokevirtual hexec hown hlink hnamed hmethM hstM hkP hkPi hy (a := b) (cell := cellB) hcell (fun z h => by rw [h] at hobj; cases hobj) hselP hmethM habM hkP hkPi (g := g) hg (argsL := As) (rest := rest) (Option.some.inj hlen).symm hstack hdg
  exact ⟨mk, methY, cY, vm₁, h1, h2, h3, h5, X₁, st⟩
theorem zz_arrI (X : Stand p l e R s m args below meth c T locs cells slots) (hexec : p.tables.exec = Jvm.exec) {own : String} {index maxL : Nat} {y : MethodName} {cc : ByteArray} (hown : s.vm.findClass own = some m.cls) (hlink : (Cond.methodLink own index y).before args s = true) (hinst : (Cond.instanceMethod y).before args s = true) (hy1 : y.name = "<init>")
    (hcode : (Cond.code y cc maxL none).before args s = true) (hy : y.cls ≠ "java/lang/invoke/MethodHandle" ∧ y.cls ≠ "java/lang/invoke/VarHandle")
    {g : JFrame} (hg : g.method = m) {b : Addr} {As rest : List Value} (hlen : (parseMethodDescriptor y.desc).map (fun d => d.parameters.length) = some As.length) (hstack : g.stack = As.reverse ++ .ref b :: rest) (hdg : decode c.code g.pc = .ok (.invokespecial index, 3)) :
    zz_Arr p l e R s m args below meth c T locs cells slots g rest y maxL (Value.ref b :: As).toArray := by
  subst hg
  have hpl : e.platform.magicAccessors = ({} : Platform).magicAccessors := by rw [X.admits.platform]
  obtain ⟨mk, methM, cM, kP, vm₁, hnamed, hmethM, hcodeM, -, hlocalsM, -, hkP, -, hW₁, hstep₁⟩ := Steps.initColdArgs (e := e) X.here hexec X.warmed hpl hown hy1 hy hlink hinst hcode (f := g) rfl (fun sig h => by rw [h] at hlen; exact (Option.some.inj hlen).symm) hstack hdg
  exact ⟨mk, methM, cM, vm₁, hnamed, hmethM, hcodeM, hlocalsM, X.noted hW₁, hstep₁⟩
def zz_TW (p : Program) (l : Launch) (e : Env) (R : Room) (s : State) (m : MethodId) (args : Array Value) (below : List Frame) (meth : Method) (c : Code) (H : Heap) (locs : List Loc) (cells slots : Nat) (Q : State → Prop) (g : JFrame) (x : Addr) : Prop :=
  ∀ T : State, T.heap = H → Stand p l e R s m args below meth c T locs cells slots → ∃ t, Steps p.tables e below ((T.setTop g).pushFrame (.throwing x)) t ∧ Q t
theorem zz_W_call {y : MethodName} {rm : Room} {Pc : Array Value → State → Prop} {Qc : Array Value → State → Outcome → State → Prop} {mc ms b0 maxL : Nat} {ck : Bool} (hM : zz_Met l y zz_ws rm Pc Qc mc ms b0 ck) (hts : ∀ w ∈ zz_ws, w.before args s = true) (hini : Cond.initialized y.cls ∈ zz_ws) {g : JFrame} {rest : List Value} {a : Array Value} {ig : Instr}
    (harr : ∀ T, T.heap = H → Stand p l e R s m args below meth c T locs cells slots → zz_Arr p l e R s m args below meth c T locs cells slots g rest y maxL a) (hg : g.method = m) (hsize : g.locals.size = c.maxLocals) (hdg : decode c.code g.pc = .ok (ig, 3)) (hmon : g.monitorRoom = 0)
    (hfr : rm.frames + 1 ≤ R.frames) (hlo : (rest.map fun v => v.category).sum + (maxL + 11) + rm.locals ≤ R.locals) (hce : cells + rm.cells ≤ R.cells) (hsl : slots + rm.slots ≤ R.slots) (hP : ∀ U : State, U.heap = H → s.WarmedH U.vm → Pc a U)
    (kr : ∀ (v : Option Value) (st t : State) (L : List Loc), st.heap = H → s.WarmedH t.vm → Qc a st (.returned v) t → (∀ q ∈ L, b0 ≤ q.base) → (ck = true → L = []) → W p l e R s m args below meth c t.heap (locs ++ L) (cells + mc) (slots + ms) Q { g with pc := g.pc + 3, stack := v.toList ++ rest })
    (kt : ∀ (x : Addr) (st t : State) (L : List Loc), st.heap = H → s.WarmedH t.vm → Qc a st (.threw x) t → (∀ q ∈ L, b0 ≤ q.base) → (ck = true → L = []) → zz_TW p l e R s m args below meth c t.heap (locs ++ L) (cells + mc) (slots + ms) Q { g with stack := rest } x) :
    W p l e R s m args below meth c H locs cells slots Q g := by
  intro T hT X
  obtain ⟨mk, methY, cY, vm₁, h1, h2, h3, h4, X₁, st⟩ := harr T hT X
  have hW₁ : s.WarmedH vm₁ := X₁.warmed
  have hU : (T.setVm vm₁).heap = H := hT
  obtain ⟨o, t, B, L, XB, e1, e2, hq, hL, hck, hret, hthr⟩ := zz_back hM X₁ (g := { g with stack := rest }) hg hsize (ig := ig) (len := 3) hdg (mk := mk) (a := a) (X₁.named h1) (zz_ws_at hts hW₁) (zz_ws_at hts hW₁ _ hini)
    (methY := methY) (cY := cY) (by show vm₁.method? mk = some methY; rw [hW₁.alike.method?]; exact h2) h3 hfr (by rw [h4]; show 2 * g.monitorRoom + (rest.map fun v => v.category).sum + _ + _ ≤ _; rw [hmon]; omega) hce hsl (hP _ hU hW₁)
  have hWt : s.WarmedH t.vm := by rw [← e2]; exact XB.warmed
  cases o with
  | returned v =>
    obtain ⟨t2, a1, b1⟩ := kr v ((T.setVm vm₁).calling { g with stack := rest } mk a) t L hT hWt hq hL hck B e1 XB
    refine ⟨t2, ?_, b1⟩
    refine st t2 fun acts => ?_
    rw [doInvoke_state]
    exact (hret v rfl).trans a1
  | threw x =>
    obtain ⟨t2, a1, b1⟩ := kt x ((T.setVm vm₁).calling { g with stack := rest } mk a) t L hT hWt hq hL hck B e1 XB
    refine ⟨t2, ?_, b1⟩
    refine st t2 fun acts => ?_
    rw [doInvoke_state]
    exact (hthr x rfl).trans a1
theorem zz_TW_out {Qc : Array Value → State → Outcome → State → Prop} {b0 : Nat} {ck : Bool} {g : JFrame} {x : Addr} (hg : g.method = m) (hlk : g.locked = none) (hen : g.entered = []) (hout : c.exceptionTable.toList = []) (hlocks : meth.locks = false) (hl : ∀ q ∈ locs, b0 ≤ q.base) (hck : ck = true → locs = []) (hq : ∀ t : State, t.heap = H → s.WarmedH t.vm → Qc args s (.threw x) t) :
    zz_TW p l e R s m args below meth c H locs cells slots (zz_MQ below Qc args s cells slots b0 ck) g x := by
  intro T hT X
  obtain ⟨h1, h2, h3, h4, h5⟩ := X.leaveThrown x (g := g) hg hlk hen (by rw [hout]; intro z hz; cases hz)
  exact ⟨_, h1, .threw x, h2, h3, hq _ hT h4, locs, ⟨h4, h5⟩, hl, hck⟩
theorem zz_TW_catch {own E : String} {g : JFrame} {x : Addr} {cell : Cell} {hs : List (Nat × Nat × Nat × Nat)} {ns : List String} {pc' : Nat} (hg : g.method = m) (hown : s.vm.findClass own = some m.cls) (htab : c.exceptionTable.toList = tableOf hs) (hcell : H[x]? = some cell) (hobj : cell.vm.isStatics = false) (hE : s.vm.findClass E = some cell.cls) (hself : (Cond.castable E E).before args s = true) (hl : hs.length = ns.length)
    (hq : ∀ (k : Nat) (q : Nat × Nat × Nat × Nat) (nm : String), hs[k]? = some q → ns[k]? = some nm → ¬ q.2.2.2 = 0 ∧ (Cond.classLink own q.2.2.2 nm).before args s = true ∧ (¬ nm = E → va_Nc E nm s)) (hfind : zz_hn g.pc E hs ns = some pc')
    (kk : W p l e R s m args below meth c H locs cells slots Q { g with pc := pc', stack := [.ref x] }) : zz_TW p l e R s m args below meth c H locs cells slots Q g x := by
  intro T hT X
  subst hg
  have hpl : e.platform.magicAccessors = ({} : Platform).magicAccessors := by rw [X.admits.platform]
  obtain ⟨vm', hW', hs'⟩ := zz_search (e := e) (f := g) (a := x) hown hpl hobj hE hself hs ns ((T.setTop g).pushFrame (.throwing x)) (by rw [Stand.throwing_vm]; exact X.warmed) (by rw [Stand.throwing_heap, hT]; exact hcell) hl hq
  rw [hfind] at hs'
  obtain ⟨t, a1, b1⟩ := kk (T.setVm vm') hT (X.noted hW')
  refine ⟨t, ?_, b1⟩
  obtain ⟨hgo, hw⟩ := X.here.throwing (g := g) x
  refine Steps.head hgo hw ?_
  have hfinds : zz_Finds e ((T.setTop g).pushFrame (.throwing x)) g x (.found pc') (((T.setTop g).pushFrame (.throwing x)).setVm vm') := by
    intro Q Ep d acts
    rw [W.findHandler_eq (meth := meth) (code := c) (by rw [Stand.throwing_vm]; exact X.method') X.code, htab]
    exact hs' Q Ep d acts
  rw [stepThread_throwing (frames_entered X.here.top _), (zz_catch_step hfinds).1]
  obtain ⟨g₀, hg⟩ := Option.isSome_iff_exists.mp X.here.top
  obtain ⟨r, hr⟩ := State.topJava?_eq_some.mp hg
  have hr2 : (T.setVm vm').frames = .java g₀ :: r := hr
  rw [State.setTop_of_frames _ hr2] at a1
  have e0 : (((T.setTop g).pushFrame (.throwing x)).setVm vm').setFrames (.java { g with pc := pc', stack := [.ref x] } :: T.frames.tail) = (T.setVm vm').setFrames (.java { g with pc := pc', stack := [.ref x] } :: r) := by
    rw [State.pushFrame, State.setTop_of_frames _ hr, State.setFrames_setFrames, hr]
    show ((T.setVm vm').setFrames _).setFrames _ = _
    rw [State.setFrames_setFrames]
    rfl
  rw [e0]
  exact a1
end ZK
