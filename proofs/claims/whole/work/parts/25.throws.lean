section ZT
variable {p : Program} {l : Launch} {e : Env} {R : Room} {s : State} {m : MethodId} {args : Array Value} {below : List Frame} {meth : Method} {c : Code} {H : Heap} {locs : List Loc} {cells slots : Nat} {Q : State → Prop}
variable {cc : ByteArray} {pc : Nat} {ls : Array Slot} {rest : List Value}
theorem zz_r_throw (hexec : p.tables.exec = Jvm.exec) (hb : c.code = cc) (hml : c.maxLocals = ls.size) (htr : l.stackTraces = false) {own cls : String} {names : List String} {ic inew b0 : Nat} {Qc : Array Value → State → Outcome → State → Prop} (hown : s.vm.findClass own = some m.cls) (hcls : Bundle.fit cls = true) (hnames : ∀ n ∈ names, Bundle.fit n = true)
    (hat : ∀ w ∈ Bundle.ownAtoms0 own ic cls names, w.before args s = true) (hclink : (Cond.classLink own inew cls).before args s = true) (hini : (Cond.initialized cls).before args s = true)
    (d1 : decode cc pc = .ok (.new inew, 3)) (d2 : decode cc (pc + 3) = .ok (.dup, 1)) (d3 : decode cc (pc + 3 + 1) = .ok (.invokespecial ic, 3)) (d4 : decode cc (pc + 3 + 1 + 3) = .ok (.athrow, 1)) (hout : ∀ x ∈ c.exceptionTable.toList, covers x (pc + 3 + 1 + 3) = false)
    (hcells : 1 ≤ R.cells) (hslots : 6 ≤ R.slots) (hfr : names.length + 3 < R.frames) (hlo : (rest.map fun v => v.category).sum + 1 + (13 * (names.length + 1) + 41) ≤ R.locals) (hlocks : meth.locks = false)
    (hq : ∀ t : State, s.WarmedH t.vm → t.heap.size = s.heap.size + 1 → (∀ q, q < s.heap.size → t.heap[q]? = s.heap[q]?) → (∃ ce : Cell, t.heap[s.heap.size]? = some ce ∧ s.vm.findClass cls = some ce.cls ∧ ce.vm = .none) → Qc args s (.threw s.heap.size) t) :
    W p l e R s m args below meth c s.heap [] 0 0 (zz_MQ below Qc args s 1 6 b0 false) (F0 m pc ls rest) := by
  have hins : (Cond.instantiable cls 6).before args s = true := hat _ (by simp [Bundle.ownAtoms0])
  refine W.newc hexec hb hown hclink hins hini rfl d1 (by omega) (by omega) fun cC kC h1 h2 h3 h4 => ?_
  refine lv_dup hexec hb d2 rfl ?_
  intro T hT X
  have htr' : e.platform.stackTraces = false := by
    have h0 : e.platform.stackTraces = l.stackTraces := by rw [X.admits.platform]
    rw [h0]; exact htr
  have hcell : T.heap[s.heap.size]? = some (freshCell cC kC) := by rw [hT]; simp
  obtain ⟨U, st, h5, h6, h7, h8, ce, h9, h10⟩ := X.ctorThrow0 hexec htr' hown hcls hnames hat (fun x hx => by cases hx) h1 h2 hcell (Nat.le_refl _) (g := F0 m (pc + 3 + 1) ls (.ref s.heap.size :: .ref s.heap.size :: rest)) rfl (by rw [hml]) rfl rfl (rest := rest) rfl
    (by rw [hb]; exact d3) (by rw [hb]; exact d4) hout hfr (by
      show 2 * 0 + ((Value.ref s.heap.size :: rest).map fun v => v.category).sum + _ ≤ _
      have hcat : (Value.ref s.heap.size).category = 1 := rfl
      rw [List.map_cons, List.sum_cons, hcat]
      omega)
  refine ⟨U, st, .threw s.heap.size, h5, h6, hq U h7 ?_ ?_ ⟨ce, h9, h10.cls, h10.vm⟩, [], ⟨h7, by simpa using h8⟩, fun q hq' => (by cases hq'), fun _ => rfl⟩
  · have h11 : U.heap.size ≤ s.heap.size + (0 + 1) := h8.2.2.1
    have h12 : s.heap.size < U.heap.size := (Array.getElem?_eq_some_iff.mp h9).1
    omega
  · intro q hq'
    have hc0 : s.heap[q]? = some s.heap[q] := Array.getElem?_eq_getElem hq'
    obtain ⟨c', e1, e2, e3, e4⟩ := h8.2.2.2.2.2 q _ hc0
    have e1' : U.heap[q]? = some c' := e1
    rw [e1', hc0, e2]
    congr 1
    have hsl : c'.slots = s.heap[q].slots := by
      apply Array.ext_getElem?
      intro j
      exact e4 j (by simp)
    rw [hsl]
end ZT
section ZF
variable {E : CtlPost} {e : Env} {d : Bool} {acts : List Action} {s : State} {f : JFrame} {a : Addr} {Q : Handler → Pre}
theorem zz_go_cold {x : ExceptionTableEntry} {t : List ExceptionTableEntry} {cx : ClassId} {cell : Cell} {vm' : Vm} (hx : covers x f.pc = true) (h0 : x.catchType ≠ 0) (hg : (Jvm.resolveClass f.method.cls x.catchType).Gives e.toSetting s.vm (.ok cx) vm') (hsz : vm'.classes.size ≤ s.vm.classes.size)
    (hcell : s.heap[a]? = some cell) (hobj : ∀ k, cell.vm ≠ .statics k) (hk : ∃ k, vm'.classes[cell.cls]? = some k) (hc : ∃ k, vm'.classes[cx]? = some k) :
    wp (findHandler.go f a (x :: t)) Q E e d acts s ↔ if vm'.assignable cell.cls cx = true then Q (.found x.handlerPc) d acts (s.setVm vm') else wp (findHandler.go f a t) Q E e d acts (s.setVm vm') := by
  obtain ⟨ha, ht⟩ := hg.op (op := VmOp.resolveClass f.method.cls x.catchType) rfl
  simp only [covers] at hx
  cases hfit : vm'.assignable cell.cls cx <;>
    simp [findHandler.go, hx, h0, ha, ht, hsz, hcell, hobj, hk, hc, hfit, VmOp.dirties, VmOp.acts]
def zz_Finds (e : Env) (s : State) (f : JFrame) (a : Addr) (h : Handler) (s' : State) : Prop := ∀ (Q : Handler → Pre) (E : CtlPost) (d : Bool) (acts : List Action), wp (findHandler f a) Q E e d acts s ↔ Q h d acts s'
theorem zz_catch_step {r : List Frame} {pc : Nat} {s' : State} (hfind : zz_Finds e s f a (.found pc) s') : (stepThrowing e s a (.java f :: r)).Is (s'.setFrames (.java { f with pc := pc, stack := [.ref a] } :: r)) [] := by
  simp only [stepThrowing, searchFrame, vmDo]
  generalize hr : Sem.go _ e false [] s = res
  obtain ⟨as, rfl, ha⟩ := Sem.eq_ok_of hr (a := Handler.found pc) (s' := s') (acts' := []) (by simp [hfind _ _ _ _])
  exact ⟨rfl, ha⟩
end ZF
