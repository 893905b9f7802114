def zz_ty (c k : Nat) : FieldType := match zz_cl[c]? with
  | some q => (parseFieldDescriptor (q.2.1 k).2.2.1).getD .int
  | none => .int
def zz_kty (t : Nat) (ty : FieldType) : Bool := match t, ty with
  | 0, .int => true
  | 1, .boolean => true
  | 2, .long => true
  | 3, .array _ => true
  | 3, .object _ => true
  | _, _ => false
def zz_np (M : Nat) : Option Nat := (parseMethodDescriptor (zz_y M).desc).map (fun d => d.parameters.length)
def zz_find2 (pc : Nat) : List (Nat × List Nat) → List Nat
  | [] => []
  | (q, ps) :: r => match Nat.beq q pc with
    | true => ps
    | false => zz_find2 pc r
def zz_ps (M pc : Nat) : List Nat := zz_find2 pc (zz_ql.getD M [])
def zz_okF (M idx c f t a : Nat) : Bool := match zz_cl[c]? with
  | some (C, T, N) => decide (f < N) && decide ((zz_fk.getD c []).getD f 0 = t) && zz_hw a (.fieldLink (zz_y M).cls idx C (T f).2.1 (T f).2.2.1)
  | none => false
def zz_fin (M c f : Nat) : Bool := match zz_cl[c]? with
  | some (C, T, _) => !(T f).2.2.2 || (decide ((zz_y M).name = "<init>") && decide ((zz_y M).cls = C))
  | none => false
def zz_okT (M pc c : Nat) : Bool := decide (decode (zz_b M) (pc + 3) = .ok (.dup, 1)) && decide (decode (zz_b M) (pc + 3 + 1) = .ok (.invokespecial (zz_exi.getD c 0), 3)) && decide (decode (zz_b M) (pc + 3 + 1 + 3) = .ok (.athrow, 1))
def zz_okX (M pc : Nat) (i : Instr) (len : Nat) (x : List Nat) (sw : List (Int32 × Nat)) (ps : List Nat) : Bool := match i with
  | .ldc idx => (len == 2) && (match sw, ps with
    | [(v, _)], [a] => zz_hw a (.constant (zz_y M).cls idx v)
    | _, _ => false)
  | .ldc2_w idx => (len == 3) && (match x, ps with
    | [v], [a] => zz_hw a (.constantLong (zz_y M).cls idx (Int64.ofNat v))
    | _, _ => false)
  | .getfield idx => (len == 3) && (match x, ps with
    | [c, f, t], [a] => zz_okF M idx c f t a
    | _, _ => false)
  | .putfield idx => (len == 3) && (match x, ps with
    | [c, f, t], [a] => zz_okF M idx c f t a && zz_fin M c f
    | _, _ => false)
  | .getstatic idx => (len == 3) && (match x, ps with
    | [q], [a] => decide (q < 5) && (match zz_sf q with
      | some nm => zz_hw a (.fieldLink (zz_y M).cls idx "HexIsland" nm "[I")
      | none => false)
    | _, _ => false)
  | .iaload | .iastore | .laload | .lastore | .arraylength => len == 1
  | .newarray t => (len == 2) && (match x, t, ps with
    | [1], .int, [a] => zz_hw a (.arrayClass .int)
    | [3], .long, [a] => zz_hw a (.arrayClass .long)
    | _, _, _ => false)
  | .new idx => (len == 3) && (match x, ps with
    | [0, c], [a1, a2, a3] => (match zz_cl[c]? with
      | some (C, _, N) => zz_hw a1 (.classLink (zz_y M).cls idx C) && zz_hw a2 (.instantiable C N) && zz_hw a3 (.initialized C) && (zz_nslot.getD c 0 == N)
      | none => false)
    | [4, c], [a1, a3] => decide ((zz_y M).cls = "HexIsland") && zz_okT M pc c && zz_hw a1 (.classLink "HexIsland" idx (zz_en c)) && zz_hw a3 (.initialized (zz_en c)) && decide (zz_hf M = []) && decide (3 ≤ c) && decide (c < 7)
    | _, _ => false)
  | .ireturn => (len == 1) && (match x with
    | [0] => decide (zz_rtf M = some .int)
    | [1] => decide (zz_rtf M = some .boolean)
    | _ => false)
  | .lreturn => (len == 1) && decide (zz_rtf M = some .long)
  | .return_ => (len == 1) && decide (zz_rtf M = none)
  | .invokestatic idx => (len == 3) && (match x, ps with
    | [0, M', n], [a1, a2, a3] => zz_hw a1 (.methodLink (zz_y M).cls idx (zz_y M')) && zz_hw a2 (.static (zz_y M')) && zz_hw a3 (.initialized (zz_y M').cls) && decide (zz_np M' = some n) && decide (M' < 179)
    | [2], [a1, a2, a3, a4] => zz_hw a1 (.methodLink (zz_y M).cls idx arraycopyName) && zz_hw a2 (.native arraycopyName) && zz_hw a3 (.static arraycopyName) && zz_hw a4 (.initialized "java/lang/System")
    | [3], [a1, a2, a3, a4] => zz_hw a1 (.methodLink (zz_y M).cls idx Lib.Math.max.name) && zz_hw a2 (.static Lib.Math.max.name) && zz_hw a3 (.initialized "java/lang/Math")
    | [4], [a1, a2, a3, a4] => zz_hw a1 (.methodLink (zz_y M).cls idx Lib.Math.min.name) && zz_hw a2 (.static Lib.Math.min.name) && zz_hw a3 (.initialized "java/lang/Math")
    | [5], [a1, a2, a3, a4] => zz_hw a1 (.methodLink (zz_y M).cls idx Lib.Math.abs.name) && zz_hw a2 (.static Lib.Math.abs.name) && zz_hw a3 (.initialized "java/lang/Math")
    | [6], [a1, a2, a3, a4] => zz_hw a1 (.methodLink (zz_y M).cls idx Lib.MathLoose.min_long.x) && zz_hw a2 (.static Lib.MathLoose.min_long.x) && zz_hw a3 (.initialized "java/lang/Math")
    | _, _ => false)
  | .invokevirtual idx => (len == 3) && (match x, ps with
    | [0, M', n, c], [a1, a2, a3, a4] => zz_hw a1 (.methodLink (zz_y M).cls idx (zz_y M')) && zz_hw a2 (.instanceMethod (zz_y M')) && zz_hw a3 (.selects (zz_en c) (zz_y M') (zz_y M')) && zz_hw a4 (.initialized (zz_y M').cls) && decide ((zz_np M').map (fun k => k + 1) = some n) && decide (M' < 179)
    | _, _ => false)
  | .invokespecial idx => (len == 3) && (match x, ps with
    | [0, M', n, _], [a1, a2, a3] => zz_hw a1 (.methodLink (zz_y M).cls idx (zz_y M')) && zz_hw a2 (.instanceMethod (zz_y M')) && zz_hw a3 (.initialized (zz_y M').cls) && decide ((zz_np M').map (fun k => k + 1) = some n) && decide ((zz_y M').name = "<init>") && decide (zz_hf M' = []) && decide (zz_rtf M' = none) && decide (M' < 179)
    | [1], [a1, a2, a3] => zz_hw a1 (.methodLink (zz_y M).cls idx Lib.objectInit) && zz_hw a2 (.instanceMethod Lib.objectInit)
    | _, _ => false)
  | _ => true
def zz_okI (M pc : Nat) (ii : zz_I) : Bool := decide (decode (zz_b M) pc = .ok (ii.1, ii.2.1)) && zz_okN ii.1 ii.2.1 pc ii.2.2.1 ii.2.2.2 && zz_okX M pc ii.1 ii.2.1 ii.2.2.1 ii.2.2.2 (zz_ps M pc)
def zz_okH (own : String) : List (Nat × Nat × Nat × Nat) → List (Nat × Nat × Nat × Nat) → List Nat → Bool
  | [], [], _ => true
  | (a, b, t, ci) :: r, (a', b', t', c) :: r', i :: is => decide (a = a') && decide (b = b') && decide (t = t') && decide (¬ ci = 0) && decide (3 ≤ c) && decide (c < 7) && zz_hw i (.classLink own ci (zz_en c)) && zz_okH own r r' is
  | _, _, _ => false
def zz_okM (M : Nat) : Bool := plainName (zz_y M).cls && decide ((zz_y M).cls ≠ "java/lang/invoke/MethodHandle") && decide ((zz_y M).cls ≠ "java/lang/invoke/VarHandle") && decide (zz_ml M ≤ 12) && zz_okH (zz_y M).cls (zz_hf M) (zz_hh M) (zz_qh.getD M [])
def zz_okP (M : Nat) : Bool := match zz_prog M with
  | some mi => mi.2.2.all fun ch => ch.all fun q => zz_okI M q.1 q.2
  | none => true
theorem zz_find_in {pc : Nat} {ii : zz_I} : ∀ {l : List (Nat × zz_I)}, zz_find pc l = some ii → (pc, ii) ∈ l
  | [], h => by cases h
  | (q, i) :: r, h => by
    unfold zz_find at h
    split at h
    · rename_i hq
      cases h
      have : q = pc := Nat.eq_of_beq_eq_true hq
      subst this
      exact List.mem_cons_self
    · exact List.mem_cons_of_mem _ (zz_find_in h)
theorem zz_okP_at {M pc : Nat} {ii : zz_I} (hP : zz_okP M = true) (h : zz_fetch zz_prog M pc = some ii) : zz_okI M pc ii = true := by
  unfold zz_fetch at h
  unfold zz_okP at hP
  cases hm : zz_prog M with
  | none => rw [hm] at h; cases h
  | some mi =>
    rw [hm] at h hP
    dsimp only at h hP
    cases hc : mi.2.2[pc / 32]? with
    | none => rw [hc] at h; cases h
    | some ch =>
      rw [hc] at h
      exact List.all_eq_true.mp (List.all_eq_true.mp hP ch (List.mem_of_getElem? hc)) (pc, ii) (zz_find_in h)
def zz_okCh (M j : Nat) : Bool := match zz_prog M with
  | some mi => (match mi.2.2[j]? with
    | some ch => ch.all fun q => zz_okI M q.1 q.2
    | none => true)
  | none => true
theorem zz_okP_of {M n : Nat} (hn : ∀ mi, zz_prog M = some mi → mi.2.2.length ≤ n) (h : ∀ j, j < n → zz_okCh M j = true) : zz_okP M = true := by
  unfold zz_okP
  cases hm : zz_prog M with
  | none => rfl
  | some mi =>
    dsimp only
    apply List.all_eq_true.mpr
    intro ch hch
    obtain ⟨j, hj⟩ := List.getElem?_of_mem hch
    have h1 := h j (Nat.lt_of_lt_of_le (List.getElem?_eq_some_iff.mp hj).1 (hn mi hm))
    unfold zz_okCh at h1
    rw [hm] at h1
    dsimp only at h1
    rw [hj] at h1
    exact h1
