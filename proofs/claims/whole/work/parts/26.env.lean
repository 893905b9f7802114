def zz_xw : List Cond := [.castable "java/lang/IllegalStateException" "java/lang/IllegalStateException", .castable "java/lang/IllegalArgumentException" "java/lang/IllegalArgumentException", .castable "java/lang/UnsupportedOperationException" "java/lang/UnsupportedOperationException", .castable "java/lang/IndexOutOfBoundsException" "java/lang/IndexOutOfBoundsException",
  .isRef (.static Bundle.tN "UNASSIGNED_STACK" Bundle.steD), .isRef (.static Bundle.tN "SUPPRESSED_SENTINEL" Bundle.listD), .laysStatic Bundle.tN "UNASSIGNED_STACK" Bundle.steD, .laysStatic Bundle.tN "SUPPRESSED_SENTINEL" Bundle.listD,
  .declares ⟨"java/lang/RuntimeException", "<init>", "()V"⟩, .declares ⟨"java/lang/Exception", "<init>", "()V"⟩, .declares ⟨"java/lang/Throwable", "<init>", "()V"⟩]
def zz_ex4 : List String := ["java/lang/IllegalStateException", "java/lang/IllegalArgumentException", "java/lang/UnsupportedOperationException", "java/lang/IndexOutOfBoundsException"]
def zz_env (s : State) : Prop := (∀ w ∈ zz_xw, w.before #[] s = true) ∧ (∀ E ∈ zz_ex4, ∀ nm ∈ zz_ex4, ¬ E = nm → va_Nc E nm s) ∧ (Cond.initialized Bundle.tN).before #[] s = true
theorem zz_cast_moved {u U : State} {A B : String} {args : Array Value} (hvm : u.vm.Alike U.vm) (h : (Cond.castable A B).before #[] u = true) : (Cond.castable A B).before args U = true := by
  rw [← Cond.castable_setVm (args := #[]) hvm] at h
  exact va_tabs rfl (rfl : (u.setVm U.vm).vm = U.vm) h
theorem zz_decl_moved {u U : State} {y : MethodName} {args : Array Value} (hvm : u.vm.Alike U.vm) (h : (Cond.declares y).before #[] u = true) : (Cond.declares y).before args U = true := by
  rw [← Cond.declares_setVm (args := #[]) hvm] at h
  exact va_tabs rfl (rfl : (u.setVm U.vm).vm = U.vm) h
theorem zz_isRef_of {C n d : String} {A : Nat → Prop} {U : State} {args : Array Value} (h : va_Zq C n d A U U.heap) : (Cond.isRef (.static C n d)).before args U = true := by
  have key : ∀ v : Value, v.isRef = true → va_Z C n d v A U U.heap → (Cond.isRef (.static C n d)).before args U = true := by
    intro v hv hz
    obtain ⟨cf, kf, fi, f, a, cell, h1, h2, h3, h4, h5, h6, h7, -⟩ := hz
    have he : (Term.static C n d).eval args U none [] U = some v := by simp [Term.eval, State.fieldNamed?, h1, h2, h4, h5, h6, h7]
    simp only [Cond.before, Cond.holds, Cond.value, he]
    cases v <;> simp_all [Value.isRef]
  rcases h with h | ⟨t, h⟩
  · exact key _ rfl h
  · exact key _ rfl h
theorem zz_lays_moved {u U : State} {C n d : String} {args : Array Value} (hvm : u.vm.Alike U.vm) (hh : ∀ q, q < u.heap.size → U.heap[q]? = u.heap[q]?) (h : (Cond.laysStatic C n d).before #[] u = true) : (Cond.laysStatic C n d).before args U = true := by
  obtain ⟨c, k, i, f, a, cell, h1, h2, h3, h4, h5, h6, h7, h8, h9⟩ := Cond.laysStatic_spec h
  obtain ⟨k', hi', he⟩ := State.fieldFound?_setVm hvm h2
  show (Cond.laysStatic C n d).holds args U none U [] = true
  exact Cond.laysStatic_of (by rw [hvm.findClass]; exact h1) hi' h3 (by rw [he]; exact h4) (by rw [hh a (Array.getElem?_eq_some_iff.mp h5).1]; exact h5) h6 h7 h8 (by rw [he]; exact h9)
theorem zz_ref_moved {u U : State} {C n d : String} {args : Array Value} (hvm : u.vm.Alike U.vm) (hh : ∀ q, q < u.heap.size → U.heap[q]? = u.heap[q]?) (hl : (Cond.laysStatic C n d).before #[] u = true) (hini : (Cond.initialized C).before #[] u = true) (h : (Cond.isRef (.static C n d)).before #[] u = true) : (Cond.isRef (.static C n d)).before args U = true := by
  have h1 : va_Zq C n d (fun q => u.heap.size ≤ q) u u.heap := va_Zqof hl hini h (fun a ha hz => absurd ha (Nat.not_lt.mpr hz))
  exact zz_isRef_of ((h1.moved hvm).kept (fun a ha _ => hh a ha))
theorem zz_env_words {u U : State} {args : Array Value} (hvm : u.vm.Alike U.vm) (hh : ∀ q, q < u.heap.size → U.heap[q]? = u.heap[q]?) (h : zz_env u) : ∀ w ∈ zz_xw, w.before args U = true := by
  have hm : ∀ (k : Nat) (w : Cond), zz_xw[k]? = some w → w.before #[] u = true := fun k w hk => h.1 w (List.mem_of_getElem? hk)
  have g0 := zz_cast_moved (args := args) hvm (hm 0 _ rfl)
  have g1 := zz_cast_moved (args := args) hvm (hm 1 _ rfl)
  have g2 := zz_cast_moved (args := args) hvm (hm 2 _ rfl)
  have g3 := zz_cast_moved (args := args) hvm (hm 3 _ rfl)
  have g6 := zz_lays_moved (args := args) hvm hh (hm 6 _ rfl)
  have g7 := zz_lays_moved (args := args) hvm hh (hm 7 _ rfl)
  have g4 := zz_ref_moved (args := args) hvm hh (hm 6 _ rfl) h.2.2 (hm 4 _ rfl)
  have g5 := zz_ref_moved (args := args) hvm hh (hm 7 _ rfl) h.2.2 (hm 5 _ rfl)
  have g8 := zz_decl_moved (args := args) hvm (hm 8 _ rfl)
  have g9 := zz_decl_moved (args := args) hvm (hm 9 _ rfl)
  have g10 := zz_decl_moved (args := args) hvm (hm 10 _ rfl)
  intro w hw
  simp only [zz_xw, List.mem_cons, List.not_mem_nil, or_false] at hw
  rcases hw with rfl | rfl | rfl | rfl | rfl | rfl | rfl | rfl | rfl | rfl | rfl
  · exact g0
  · exact g1
  · exact g2
  · exact g3
  · exact g4
  · exact g5
  · exact g6
  · exact g7
  · exact g8
  · exact g9
  · exact g10
section ZC
variable {p : Program} {l : Launch} {e : Env} {R : Room} {s : State} {m : MethodId} {args : Array Value} {below : List Frame} {meth : Method} {c : Code} {T : State} {locs : List Loc} {cells slots : Nat}
def zz_hn (pc : Nat) (E : String) : List (Nat × Nat × Nat × Nat) → List String → Option Nat
  | (a, b, t, _) :: r, nm :: ns => if (a ≤ pc ∧ pc < b) ∧ nm = E then some t else zz_hn pc E r ns
  | _, _ => none
def zz_hres : Option Nat → Handler
  | some t => .found t
  | none => .none
theorem zz_search {own E : String} {f : JFrame} {a : Addr} {cell : Cell} (hown : s.vm.findClass own = some f.method.cls) (hpl : e.platform.magicAccessors = ({} : Platform).magicAccessors) (hobj : cell.vm.isStatics = false) (hE : s.vm.findClass E = some cell.cls) (hself : (Cond.castable E E).before args s = true) :
    ∀ (hs : List (Nat × Nat × Nat × Nat)) (ns : List String) (U : State), s.WarmedH U.vm → U.heap[a]? = some cell → hs.length = ns.length → (∀ (k : Nat) (q : Nat × Nat × Nat × Nat) (nm : String), hs[k]? = some q → ns[k]? = some nm → ¬ q.2.2.2 = 0 ∧ (Cond.classLink own q.2.2.2 nm).before args s = true ∧ (¬ nm = E → va_Nc E nm s)) →
      ∃ vm', s.WarmedH vm' ∧ ∀ (Q : Handler → Pre) (Ep : CtlPost) (d : Bool) (acts : List Action), wp (findHandler.go f a (tableOf hs)) Q Ep e d acts U ↔ Q (zz_hres (zz_hn f.pc E hs ns)) d acts (U.setVm vm')
  | [], ns, U, hW, hc, hl, _ => by
    refine ⟨U.vm, hW, fun Q Ep d acts => ?_⟩
    rw [State.setVm_self]
    exact W.findHandler_go_nil
  | q :: r, [], U, hW, hc, hl, _ => by cases hl
  | (x1, x2, x3, x4) :: r, nm :: ns, U, hW, hc, hl, hq => by
    have hrest : ∀ (k : Nat) (q : Nat × Nat × Nat × Nat) (nm : String), r[k]? = some q → ns[k]? = some nm → ¬ q.2.2.2 = 0 ∧ (Cond.classLink own q.2.2.2 nm).before args s = true ∧ (¬ nm = E → va_Nc E nm s) := fun k q nm h1 h2 => hq (k + 1) q nm h1 h2
    have hl' : r.length = ns.length := by simpa using hl
    by_cases hcov : x1 ≤ f.pc ∧ f.pc < x2
    · obtain ⟨h0, hlk, hno⟩ := hq 0 _ _ rfl rfl
      obtain ⟨cn, hcn, hcl⟩ := Cond.classLink_spec hown hlk e.platform hpl
      obtain ⟨hg, hW1, -⟩ := State.classEntry (e := e) hW hcl
      have hsz : (U.vm.noted f.method.cls x4 (.cls cn)).classes.size ≤ U.vm.classes.size := by no_record
      generalize U.vm.noted f.method.cls x4 (.cls cn) = vm1 at hg hW1 hsz
      have hkc : ∃ k, vm1.classes[cell.cls]? = some k := by
        obtain ⟨k, hk⟩ := Vm.classAt_of_findClass hE
        obtain ⟨k', hk', -⟩ := hW1.alike.2.2 _ _ hk
        exact ⟨k', hk'⟩
      have hkn : ∃ k, vm1.classes[cn]? = some k := by
        obtain ⟨k, hk⟩ := Vm.classAt_of_findClass hcn
        obtain ⟨k', hk', -⟩ := hW1.alike.2.2 _ _ hk
        exact ⟨k', hk'⟩
      have hgo := fun (Q : Handler → Pre) (Ep : CtlPost) (d : Bool) (acts : List Action) => zz_go_cold (E := Ep) (e := e) (d := d) (acts := acts) (s := U) (f := f) (a := a) (Q := Q) (x := ⟨x1, x2, x3, x4⟩) (t := tableOf r) (by simpa [covers] using hcov) h0 hg hsz hc (VmData.ne_statics_of hobj) hkc hkn
      by_cases hne : nm = E
      · subst hne
        cases Option.some.inj (hcn.symm.trans hE)
        have hasg : vm1.assignable cell.cls cell.cls = true := by
          obtain ⟨c1, c2, e1, e2, e3⟩ := Cond.castable_spec hself
          cases Option.some.inj (e1.symm.trans hE)
          cases Option.some.inj (e2.symm.trans hE)
          rw [hW1.alike.assignable]
          exact e3
        refine ⟨vm1, hW1, fun Q Ep d acts => ?_⟩
        have := hgo Q Ep d acts
        rw [if_pos hasg] at this
        simp only [zz_hn, hcov, and_self, if_true, zz_hres]
        exact this
      · have hasg : ¬ vm1.assignable cell.cls cn = true := by
          obtain ⟨c1, c2, e1, e2, e3⟩ := hno hne
          cases Option.some.inj (e1.symm.trans hE)
          cases Option.some.inj (e2.symm.trans hcn)
          rw [hW1.alike.assignable, e3]
          decide
        obtain ⟨vm2, hW2, h2⟩ := zz_search hown hpl hobj hE hself r ns (U.setVm vm1) hW1 hc hl' hrest
        refine ⟨vm2, hW2, fun Q Ep d acts => ?_⟩
        have := hgo Q Ep d acts
        rw [if_neg hasg, h2 Q Ep d acts] at this
        simp only [zz_hn, hne, and_false, if_false]
        rw [State.setVm_twice] at this
        exact this
    · obtain ⟨vm2, hW2, h2⟩ := zz_search hown hpl hobj hE hself r ns U hW hc hl' hrest
      refine ⟨vm2, hW2, fun Q Ep d acts => ?_⟩
      have hsk := W.findHandler_go_skip (E := Ep) (e := e) (d := d) (acts := acts) (s := U) (f := f) (a := a) (Q := Q) (x := ⟨x1, x2, x3, x4⟩) (t := tableOf r) (by
        simp only [covers]
        rcases Classical.not_and_iff_not_or_not.mp hcov with h | h
        · simp [h]
        · simp [h])
      simp only [zz_hn, hcov, false_and, if_false]
      exact hsk.trans (h2 Q Ep d acts)
end ZC
