abbrev zz_H : Type := List (Nat × Nat) × (Nat → Nat → Int32) × (Nat → Nat → Int64) × (Nat → Nat → Value)
abbrev zz_C : Type := Nat × List (Option Value) × List Value × Bool × zz_H
abbrev zz_R : Type := (Option Value ⊕ Nat) × Bool × zz_H
abbrev zz_A : Type := zz_R ⊕ zz_C ⊕ (Nat × List Value × zz_C)
abbrev zz_I : Type := Instr × Nat × List Nat × List (Int32 × Nat)
abbrev zz_M : Type := Nat × List (Nat × Nat × Nat × Nat) × List (List (Nat × zz_I))
abbrev zz_P : Type := Nat → Option zz_M
def zz_up {α : Type} (f : Nat → Nat → α) (i j : Nat) (x : α) : Nat → Nat → α := fun a b => if a = i then (if b = j then x else f a b) else f a b
def zz_all {α : Type} (f : Nat → Nat → α) (i : Nat) (x : α) : Nat → Nat → α := fun a b => if a = i then x else f a b
def zz_cpy {α : Type} (f : Nat → Nat → α) (a b : Nat) : Nat → Nat → α := fun i j => if i = b then f a j else f i j
def zz_ld (L : List (Option Value)) (j : Nat) : Option Value := match L[j]? with
  | some (some v) => some v
  | _ => none
def zz_wide (L : List (Option Value)) : Nat → Bool
  | 0 => false
  | j + 1 => match L[j]? with
    | some (some v) => v.category == 2
    | _ => false
def zz_st (L : List (Option Value)) (j : Nat) (v : Value) : Option (List (Option Value)) :=
  if j < L.length then (match zz_wide L j with
    | true => none
    | false => some (L.set j (some v))) else none
def zz_br (c : ClassFile.Cond) (x y : Int32) (t f : Nat) : Nat := match c with
  | .eq => if x = y then t else f
  | .ne => if ¬ x = y then t else f
  | .lt => if x < y then t else f
  | .ge => if y ≤ x then t else f
  | .gt => if y < x then t else f
  | .le => if x ≤ y then t else f
def zz_sw (v : Int32) (d : Nat) : List (Int32 × Nat) → Nat
  | [] => d
  | (k, t) :: r => if v = k then t else zz_sw v d r
def zz_in (j : Int32) (n : Nat) : Bool := decide (0 ≤ j) && decide (j.toNatClampNeg < n)
def zz_fv (h : zz_H) (a f t : Nat) : Value := match t with
  | 2 => .long (h.2.2.1 a f)
  | 3 => h.2.2.2 a f
  | _ => .int (h.2.1 a f)
def zz_go (pc : Nat) (L : List (Option Value)) (st : List Value) (k : Bool) (h : zz_H) : Option zz_A := some (.inr (.inl (pc, L, st, k, h)))
def zz_bin (st : List Value) (f : Int32 → Int32 → Int32) : Option (List Value) := match st with
  | .int y :: .int x :: r => some (.int (f x y) :: r)
  | _ => none
def zz_binl (st : List Value) (f : Int64 → Int64 → Int64) : Option (List Value) := match st with
  | .long y :: .long x :: r => some (.long (f x y) :: r)
  | _ => none
def zz_shl (st : List Value) (f : Int64 → Int32 → Int64) : Option (List Value) := match st with
  | .int y :: .long x :: r => some (.long (f x y) :: r)
  | _ => none
def zz_nums (i : Instr) (x : List Nat) (sw : List (Int32 × Nat)) (pc : Nat) (L : List (Option Value)) (st : List Value) : Option (Nat × List (Option Value) × List Value) := match i with
  | .iconst n => some (pc + 1, L, .int (Int32.ofInt n) :: st)
  | .bipush n => some (pc + 2, L, .int (Int8.ofInt n).toInt32 :: st)
  | .sipush n => some (pc + 3, L, .int (Int16.ofInt n).toInt32 :: st)
  | .lconst n => some (pc + 1, L, .long (Int64.ofNat n) :: st)
  | .iload j => (match zz_ld L j with
    | some (.int v) => some (pc + 2, L, .int v :: st)
    | _ => none)
  | .iload_n j => (match zz_ld L j with
    | some (.int v) => some (pc + 1, L, .int v :: st)
    | _ => none)
  | .lload j => (match zz_ld L j with
    | some (.long v) => some (pc + 2, L, .long v :: st)
    | _ => none)
  | .lload_n j => (match zz_ld L j with
    | some (.long v) => some (pc + 1, L, .long v :: st)
    | _ => none)
  | .aload j => (match zz_ld L j with
    | some (.ref v) => some (pc + 2, L, .ref v :: st)
    | _ => none)
  | .aload_n j => (match zz_ld L j with
    | some (.ref v) => some (pc + 1, L, .ref v :: st)
    | _ => none)
  | .istore j => (match st with
    | .int v :: r => (zz_st L j (.int v)).map fun L' => (pc + 2, L', r)
    | _ => none)
  | .istore_n j => (match st with
    | .int v :: r => (zz_st L j (.int v)).map fun L' => (pc + 1, L', r)
    | _ => none)
  | .astore j => (match st with
    | .ref v :: r => (zz_st L j (.ref v)).map fun L' => (pc + 2, L', r)
    | _ => none)
  | .astore_n j => (match st with
    | .ref v :: r => (zz_st L j (.ref v)).map fun L' => (pc + 1, L', r)
    | _ => none)
  | .iinc j n => (match zz_ld L j with
    | some (.int v) => (zz_st L j (.int (v + Int32.ofInt n))).map fun L' => (pc + 3, L', st)
    | _ => none)
  | .iadd => (zz_bin st fun x y => x + y).map fun s => (pc + 1, L, s)
  | .isub => (zz_bin st fun x y => x - y).map fun s => (pc + 1, L, s)
  | .imul => (zz_bin st fun x y => x * y).map fun s => (pc + 1, L, s)
  | .iand => (zz_bin st fun x y => x &&& y).map fun s => (pc + 1, L, s)
  | .ior => (zz_bin st fun x y => x ||| y).map fun s => (pc + 1, L, s)
  | .ixor => (zz_bin st fun x y => x ^^^ y).map fun s => (pc + 1, L, s)
  | .ishl => (zz_bin st fun x y => x <<< (y &&& 31)).map fun s => (pc + 1, L, s)
  | .ishr => (zz_bin st fun x y => x >>> (y &&& 31)).map fun s => (pc + 1, L, s)
  | .idiv => (match st with
    | .int y :: .int x :: r => if y = 0 then none else some (pc + 1, L, .int (x / y) :: r)
    | _ => none)
  | .irem => (match st with
    | .int y :: .int x :: r => if y = 0 then none else some (pc + 1, L, .int (x - x / y * y) :: r)
    | _ => none)
  | .ineg => (match st with
    | .int x :: r => some (pc + 1, L, .int (-x) :: r)
    | _ => none)
  | .land => (zz_binl st fun x y => x &&& y).map fun s => (pc + 1, L, s)
  | .lor => (zz_binl st fun x y => x ||| y).map fun s => (pc + 1, L, s)
  | .lshl => (zz_shl st fun x y => x <<< (y.toInt64 &&& 63)).map fun s => (pc + 1, L, s)
  | .lshr => (zz_shl st fun x y => x >>> (y.toInt64 &&& 63)).map fun s => (pc + 1, L, s)
  | .lushr => (zz_shl st fun x y => (x.toUInt64 >>> (y.toInt64.toUInt64 &&& Int64.toUInt64 63)).toInt64).map fun s => (pc + 1, L, s)
  | .i2l => (match st with
    | .int v :: r => some (pc + 1, L, .long v.toInt64 :: r)
    | _ => none)
  | .l2i => (match st with
    | .long v :: r => some (pc + 1, L, .int v.toInt32 :: r)
    | _ => none)
  | .lcmp => (match st with
    | .long y :: .long x :: r => some (pc + 1, L, .int (lg_cmp x y) :: r)
    | _ => none)
  | .dup => (match st with
    | v :: r => if v.category = 1 then some (pc + 1, L, v :: v :: r) else none
    | _ => none)
  | .pop => (match st with
    | v :: r => if v.category = 1 then some (pc + 1, L, r) else none
    | _ => none)
  | .dup_x1 => (match st with
    | v :: w :: r => if v.category = 1 ∧ w.category = 1 then some (pc + 1, L, v :: w :: v :: r) else none
    | _ => none)
  | .dup_x2 => (match st with
    | v :: w :: u :: r => if v.category = 1 ∧ w.category = 1 ∧ u.category = 1 then some (pc + 1, L, v :: w :: u :: v :: r) else none
    | _ => none)
  | .dup2 => (match st with
    | v :: w :: r => if v.category = 1 ∧ w.category = 1 then some (pc + 1, L, v :: w :: v :: w :: r) else none
    | _ => none)
  | .goto _ => (match x with
    | [t] => some (t, L, st)
    | _ => none)
  | .ifCond c _ => (match x, st with
    | [t], .int v :: r => some (zz_br c v 0 t (pc + 3), L, r)
    | _, _ => none)
  | .if_icmp c _ => (match x, st with
    | [t], .int w :: .int v :: r => some (zz_br c v w t (pc + 3), L, r)
    | _, _ => none)
  | .tableswitch _ _ _ _ => (match x, st with
    | [t], .int v :: r => some (zz_sw v t sw, L, r)
    | _, _ => none)
  | .lookupswitch _ _ => (match x, st with
    | [t], .int v :: r => some (zz_sw v t sw, L, r)
    | _, _ => none)
  | _ => none
def zz_heap (i : Instr) (x : List Nat) (sw : List (Int32 × Nat)) (pc : Nat) (L : List (Option Value)) (st : List Value) (k : Bool) (h : zz_H) : Option zz_A := match i with
  | .ldc _ => (match sw with
    | [(v, _)] => zz_go (pc + 2) L (.int v :: st) k h
    | _ => none)
  | .ldc2_w _ => (match x with
    | [v] => zz_go (pc + 3) L (.long (Int64.ofNat v) :: st) k h
    | _ => none)
  | .getfield _ => (match x, st with
    | [c, f, t], .ref a :: r => (match h.1[a]? with
      | some (0, c') => if c' = c then zz_go (pc + 3) L (zz_fv h a f t :: r) k h else none
      | _ => none)
    | _, _ => none)
  | .putfield _ => (match x, st with
    | [c, f, 0], .int v :: .ref a :: r => (match h.1[a]? with
      | some (0, c') => if c' = c then zz_go (pc + 3) L r false (h.1, zz_up h.2.1 a f v, h.2.2.1, h.2.2.2) else none
      | _ => none)
    | [c, f, 1], .int v :: .ref a :: r => (match h.1[a]? with
      | some (0, c') => if c' = c ∧ (v = 0 ∨ v = 1) then zz_go (pc + 3) L r false (h.1, zz_up h.2.1 a f v, h.2.2.1, h.2.2.2) else none
      | _ => none)
    | [c, f, 2], .long v :: .ref a :: r => (match h.1[a]? with
      | some (0, c') => if c' = c then zz_go (pc + 3) L r false (h.1, h.2.1, zz_up h.2.2.1 a f v, h.2.2.2) else none
      | _ => none)
    | [c, f, 3], .ref v :: .ref a :: r => (match h.1[a]? with
      | some (0, c') => if c' = c then zz_go (pc + 3) L r false (h.1, h.2.1, h.2.2.1, zz_up h.2.2.2 a f (.ref v)) else none
      | _ => none)
    | _, _ => none)
  | .getstatic _ => (match x with
    | [q] => (match h.1[q]? with
      | some (2, _) => zz_go (pc + 3) L (.ref q :: st) k h
      | _ => none)
    | _ => none)
  | .iaload => (match st with
    | .int j :: .ref a :: r => (match h.1[a]? with
      | some (1, n) => if zz_in j n then zz_go (pc + 1) L (.int (h.2.1 a j.toNatClampNeg) :: r) k h else none
      | some (2, n) => if zz_in j n then zz_go (pc + 1) L (.int (h.2.1 a j.toNatClampNeg) :: r) k h else none
      | _ => none)
    | _ => none)
  | .iastore => (match st with
    | .int v :: .int j :: .ref a :: r => (match h.1[a]? with
      | some (1, n) => if zz_in j n then zz_go (pc + 1) L r false (h.1, zz_up h.2.1 a j.toNatClampNeg v, h.2.2.1, h.2.2.2) else none
      | _ => none)
    | _ => none)
  | .laload => (match st with
    | .int j :: .ref a :: r => (match h.1[a]? with
      | some (3, n) => if zz_in j n then zz_go (pc + 1) L (.long (h.2.2.1 a j.toNatClampNeg) :: r) k h else none
      | _ => none)
    | _ => none)
  | .lastore => (match st with
    | .long v :: .int j :: .ref a :: r => (match h.1[a]? with
      | some (3, n) => if zz_in j n then zz_go (pc + 1) L r false (h.1, h.2.1, zz_up h.2.2.1 a j.toNatClampNeg v, h.2.2.2) else none
      | _ => none)
    | _ => none)
  | .arraylength => (match st with
    | .ref a :: r => (match h.1[a]? with
      | some (1, n) => zz_go (pc + 1) L (.int (Int32.ofNat n) :: r) k h
      | some (2, n) => zz_go (pc + 1) L (.int (Int32.ofNat n) :: r) k h
      | some (3, n) => zz_go (pc + 1) L (.int (Int32.ofNat n) :: r) k h
      | _ => none)
    | _ => none)
  | .newarray _ => (match x, st with
    | [1], .int n :: r => if 0 ≤ n ∧ n.toNatClampNeg ≤ 4096 then zz_go (pc + 2) L (.ref h.1.length :: r) false (h.1 ++ [(1, n.toNatClampNeg)], zz_all h.2.1 h.1.length 0, h.2.2.1, h.2.2.2) else none
    | [3], .int n :: r => if 0 ≤ n ∧ n.toNatClampNeg ≤ 4096 then zz_go (pc + 2) L (.ref h.1.length :: r) false (h.1 ++ [(3, n.toNatClampNeg)], h.2.1, zz_all h.2.2.1 h.1.length 0, h.2.2.2) else none
    | _, _ => none)
  | .new _ => (match x with
    | [0, c] => zz_go (pc + 3) L (.ref h.1.length :: st) false (h.1 ++ [(0, c)], zz_all h.2.1 h.1.length 0, zz_all h.2.2.1 h.1.length 0, zz_all h.2.2.2 h.1.length .null)
    | [4, c] => if k = true ∧ st.length ≤ 8 then some (.inl (.inr h.1.length, false, (h.1 ++ [(4, c)], h.2.1, h.2.2.1, h.2.2.2))) else none
    | _ => none)
  | .ireturn => (match x, st with
    | [0], [.int v] => some (.inl (.inl (some (.int v)), k, h))
    | [1], [.int v] => if v = 0 ∨ v = 1 then some (.inl (.inl (some (.int v)), k, h)) else none
    | _, _ => none)
  | .lreturn => (match st with
    | [.long v] => some (.inl (.inl (some (.long v)), k, h))
    | _ => none)
  | .return_ => (match st with
    | [] => some (.inl (.inl none, k, h))
    | _ => none)
  | _ => none
def zz_bi (x : List Nat) (pc : Nat) (L : List (Option Value)) (st : List Value) (k : Bool) (h : zz_H) : Option zz_A := match x with
  | [1] => (match st with
    | .ref _ :: r => zz_go (pc + 3) L r k h
    | _ => none)
  | [2] => (match st with
    | .int len :: .int dp :: .ref b :: .int sp :: .ref a :: r => (match h.1[a]?, h.1[b]? with
      | some (1, n), some (1, n') => if sp = 0 ∧ dp = 0 ∧ n' = n ∧ n ≤ 4096 ∧ len = Int32.ofNat n then zz_go (pc + 3) L r false (h.1, zz_cpy h.2.1 a b, h.2.2.1, h.2.2.2) else none
      | _, _ => none)
    | _ => none)
  | [3] => (match st with
    | .int y :: .int v :: r => zz_go (pc + 3) L (.int (if v < y then y else v) :: r) k h
    | _ => none)
  | [4] => (match st with
    | .int y :: .int v :: r => zz_go (pc + 3) L (.int (if y < v then y else v) :: r) k h
    | _ => none)
  | [5] => (match st with
    | .int v :: r => zz_go (pc + 3) L (.int (if 0 ≤ v then v else 0 - v) :: r) k h
    | _ => none)
  | [6] => (match st with
    | .long y :: .long v :: r => zz_go (pc + 3) L (.long (if y < v then y else v) :: r) k h
    | _ => none)
  | _ => none
def zz_recv (c : Nat) (st : List Value) (h : zz_H) : Bool := match st with
  | .ref a :: _ => (match h.1[a]? with
    | some (0, c') => Nat.beq c' c
    | _ => false)
  | _ => false
def zz_call (x : List Nat) (pc : Nat) (L : List (Option Value)) (st : List Value) (k : Bool) (h : zz_H) : Option zz_A :=
  if st.length ≤ 12 then (match x with
    | [0, M, n] => if n ≤ st.length then some (.inr (.inr (M, (st.take n).reverse, (pc + 3, L, st.drop n, k, h)))) else none
    | [0, M, n, c] => if n ≤ st.length ∧ zz_recv c (st.take n).reverse h = true then some (.inr (.inr (M, (st.take n).reverse, (pc + 3, L, st.drop n, k, h)))) else none
    | _ => zz_bi x pc L st k h) else none
def zz_inv (i : Instr) : Bool := match i with
  | .invokestatic _ => true
  | .invokevirtual _ => true
  | .invokespecial _ => true
  | _ => false
def zz_ex (ii : zz_I) (pc : Nat) (L : List (Option Value)) (st : List Value) (k : Bool) (h : zz_H) : Option zz_A :=
  match zz_nums ii.1 ii.2.2.1 ii.2.2.2 pc L st with
  | some (pc', L', st') => zz_go pc' L' st' k h
  | none => match zz_inv ii.1 with
    | true => zz_call ii.2.2.1 pc L st k h
    | false => zz_heap ii.1 ii.2.2.1 ii.2.2.2 pc L st k h
def zz_find (pc : Nat) : List (Nat × zz_I) → Option zz_I
  | [] => none
  | (q, i) :: r => match Nat.beq q pc with
    | true => some i
    | false => zz_find pc r
def zz_fetch (P : zz_P) (M pc : Nat) : Option zz_I := match P M with
  | some mi => (match mi.2.2[pc / 32]? with
    | some ch => zz_find pc ch
    | none => none)
  | none => none
def zz_act (P : zz_P) (M : Nat) (c : zz_C) : Option zz_A := match zz_fetch P M c.1 with
  | some ii => zz_ex ii c.1 c.2.1 c.2.2.1 c.2.2.2.1 c.2.2.2.2
  | none => none
def zz_hand (pc e : Nat) : List (Nat × Nat × Nat × Nat) → Option Nat
  | [] => none
  | (a, b, t, c) :: r => if (a ≤ pc ∧ pc < b) ∧ c = e then some t else zz_hand pc e r
def zz_catch (P : zz_P) (M pc a : Nat) (h : zz_H) : Option Nat := match P M, h.1[a]? with
  | some mi, some (4, e) => zz_hand pc e mi.2.1
  | _, _ => none
def zz_out (P : zz_P) (M : Nat) : Bool := match P M with
  | some mi => mi.2.1.isEmpty
  | none => false
def zz_lay : List Value → List (Option Value)
  | [] => []
  | v :: r => if v.category = 2 then some v :: none :: zz_lay r else some v :: zz_lay r
def zz_enter (P : zz_P) (M : Nat) (as : List Value) (h : zz_H) : Option zz_C := match P M with
  | some mi => if (zz_lay as).length ≤ mi.1 then some (0, zz_lay as ++ List.replicate (mi.1 - (zz_lay as).length) none, [], true, h) else none
  | none => none
def zz_step (P : zz_P) (rec : zz_C → Option zz_R) (call : Nat → List Value → zz_H → Option zz_R) (M : Nat) (c : zz_C) : Option zz_R :=
  match zz_act P M c with
  | none => none
  | some (.inl r) => some r
  | some (.inr (.inl c')) => rec c'
  | some (.inr (.inr (M', as, c'))) => match call M' as c'.2.2.2.2 with
    | none => none
    | some (.inl v, k', h') => rec (c'.1, c'.2.1, v.toList ++ c'.2.2.1, c'.2.2.2.1 && k', h')
    | some (.inr a, k', h') => match zz_catch P M c.1 a h' with
      | some pc' => rec (pc', c'.2.1, [.ref a], c'.2.2.2.1 && k', h')
      | none => match zz_out P M with
        | true => some (.inr a, c'.2.2.2.1 && k', h')
        | false => none
def zz_run (P : zz_P) : Nat → Nat → Nat → zz_C → Option zz_R
  | 0, _, _, _ => none
  | n + 1, d, M, c => zz_step P (zz_run P n d M) (fun M' as h => match d with
    | 0 => none
    | d' + 1 => match zz_enter P M' as h with
      | none => none
      | some c' => zz_run P n d' M' c') M c
theorem zz_step_mono {P : zz_P} {rec rec' : zz_C → Option zz_R} {call call' : Nat → List Value → zz_H → Option zz_R} {M : Nat} {c : zz_C} {r : zz_R}
    (h1 : ∀ c r, rec c = some r → rec' c = some r) (h2 : ∀ M' as h r, call M' as h = some r → call' M' as h = some r) (h : zz_step P rec call M c = some r) : zz_step P rec' call' M c = some r := by
  unfold zz_step at h ⊢
  split at h
  · cases h
  · exact h
  · exact h1 _ _ h
  · rename_i M' as c' _
    cases hc : call M' as c'.2.2.2.2 with
    | none => rw [hc] at h; cases h
    | some q =>
      rw [hc] at h
      rw [h2 _ _ _ _ hc]
      obtain ⟨o, k', h'⟩ := q
      cases o with
      | inl v => exact h1 _ _ h
      | inr a =>
        dsimp only at h ⊢
        cases hz : zz_catch P M c.1 a h' with
        | none => rw [hz] at h; exact h
        | some pc' => rw [hz] at h; exact h1 _ _ h
def zz_runc (P : zz_P) (n d M : Nat) (as : List Value) (h : zz_H) : Option zz_R := match d with
  | 0 => none
  | d' + 1 => match zz_enter P M as h with
    | none => none
    | some c' => zz_run P n d' M c'
theorem zz_run_succ (P : zz_P) (n d M : Nat) (c : zz_C) : zz_run P (n + 1) d M c = zz_step P (zz_run P n d M) (zz_runc P n d) M c := rfl
theorem zz_run_mono (P : zz_P) : ∀ (n d M : Nat) (c : zz_C) (r : zz_R), zz_run P n d M c = some r → zz_run P (n + 1) d M c = some r
  | 0, _, _, _, _, h => by cases h
  | n + 1, d, M, c, r, h => by
    rw [zz_run_succ] at h ⊢
    refine zz_step_mono (fun c r => zz_run_mono P n d M c r) (fun M' as hh r hr => ?_) h
    unfold zz_runc at hr ⊢
    cases d with
    | zero => cases hr
    | succ d' =>
      dsimp only at hr ⊢
      cases he : zz_enter P M' as hh with
      | none => rw [he] at hr; cases hr
      | some c' => rw [he] at hr; exact zz_run_mono P n d' M' c' r hr
theorem zz_run_le {P : zz_P} {n m d M : Nat} {c : zz_C} {r : zz_R} (hl : n ≤ m) (h : zz_run P n d M c = some r) : zz_run P m d M c = some r := by
  induction hl with
  | refl => exact h
  | step _ ih => exact zz_run_mono P _ _ _ _ _ ih
theorem zz_runc_le {P : zz_P} {n m d M : Nat} {as : List Value} {h : zz_H} {r : zz_R} (hl : n ≤ m) (hr : zz_runc P n d M as h = some r) : zz_runc P m d M as h = some r := by
  unfold zz_runc at hr ⊢
  cases d with
  | zero => cases hr
  | succ d' =>
    dsimp only at hr ⊢
    cases he : zz_enter P M as h with
    | none => rw [he] at hr; cases hr
    | some c' => rw [he] at hr; exact zz_run_le hl hr
noncomputable def zz_Run (P : zz_P) (d M : Nat) (c : zz_C) : Option zz_R := @dite (Option zz_R) (∃ r n, zz_run P n d M c = some r) (Classical.propDecidable _) (fun h => some (Classical.choose h)) (fun _ => none)
theorem zz_Run_iff {P : zz_P} {d M : Nat} {c : zz_C} {r : zz_R} : zz_Run P d M c = some r ↔ ∃ n, zz_run P n d M c = some r := by
  unfold zz_Run
  constructor
  · intro h
    split at h
    · rename_i hex
      cases h
      exact Classical.choose_spec hex
    · cases h
  · rintro ⟨n, hn⟩
    have hex : ∃ r n, zz_run P n d M c = some r := ⟨r, n, hn⟩
    rw [dif_pos hex]
    obtain ⟨m, hm⟩ := Classical.choose_spec hex
    have h1 := zz_run_le (Nat.le_max_left n m) hn
    have h2 := zz_run_le (Nat.le_max_right n m) hm
    exact congrArg some (Option.some.inj (h2.symm.trans h1))
noncomputable def zz_Call (P : zz_P) (d M : Nat) (as : List Value) (h : zz_H) : Option zz_R := match d with
  | 0 => none
  | d' + 1 => match zz_enter P M as h with
    | none => none
    | some c => zz_Run P d' M c
theorem zz_Call_iff {P : zz_P} {d M : Nat} {as : List Value} {h : zz_H} {r : zz_R} : zz_Call P d M as h = some r ↔ ∃ n, zz_runc P n d M as h = some r := by
  unfold zz_Call zz_runc
  cases d with
  | zero => simp
  | succ d' =>
    dsimp only
    cases he : zz_enter P M as h with
    | none => simp
    | some c' => exact zz_Run_iff
theorem zz_Run_eq (P : zz_P) (d M : Nat) (c : zz_C) : zz_Run P d M c = zz_step P (zz_Run P d M) (zz_Call P d) M c := by
  apply Option.ext
  intro r
  rw [zz_Run_iff]
  constructor
  · rintro ⟨n, hn⟩
    cases n with
    | zero => cases hn
    | succ n =>
      rw [zz_run_succ] at hn
      exact zz_step_mono (fun c r h => zz_Run_iff.mpr ⟨n, h⟩) (fun M' as hh r hr => zz_Call_iff.mpr ⟨n, hr⟩) hn
  · intro h
    unfold zz_step at h
    cases ha : zz_act P M c with
    | none => rw [ha] at h; cases h
    | some a =>
      rw [ha] at h
      obtain q | c' | ⟨M', as, c'⟩ := a
      · exact ⟨1, by rw [zz_run_succ, zz_step, ha]; exact h⟩
      · obtain ⟨n, hn⟩ := zz_Run_iff.mp h
        exact ⟨n + 1, by rw [zz_run_succ, zz_step, ha]; exact hn⟩
      · dsimp only at h
        cases hc : zz_Call P d M' as c'.2.2.2.2 with
        | none => rw [hc] at h; cases h
        | some q =>
          rw [hc] at h
          obtain ⟨n1, hn1⟩ := zz_Call_iff.mp hc
          obtain ⟨o, k', h'⟩ := q
          cases o with
          | inl v =>
            obtain ⟨n2, hn2⟩ := zz_Run_iff.mp h
            refine ⟨max n1 n2 + 1, ?_⟩
            rw [zz_run_succ, zz_step, ha]
            dsimp only
            rw [zz_runc_le (Nat.le_max_left n1 n2) hn1]
            exact zz_run_le (Nat.le_max_right n1 n2) hn2
          | inr a =>
            dsimp only at h
            cases hz : zz_catch P M c.1 a h' with
            | none =>
              rw [hz] at h
              refine ⟨n1 + 1, ?_⟩
              rw [zz_run_succ, zz_step, ha]
              dsimp only
              rw [hn1]
              dsimp only
              rw [hz]
              exact h
            | some pc' =>
              rw [hz] at h
              obtain ⟨n2, hn2⟩ := zz_Run_iff.mp h
              refine ⟨max n1 n2 + 1, ?_⟩
              rw [zz_run_succ, zz_step, ha]
              dsimp only
              rw [zz_runc_le (Nat.le_max_left n1 n2) hn1]
              dsimp only
              rw [hz]
              exact zz_run_le (Nat.le_max_right n1 n2) hn2
theorem zz_Run_go {P : zz_P} {d M : Nat} {c c' : zz_C} (h : zz_act P M c = some (.inr (.inl c'))) : zz_Run P d M c = zz_Run P d M c' := by
  rw [zz_Run_eq, zz_step, h]
theorem zz_Run_stop {P : zz_P} {d M : Nat} {c : zz_C} {r : zz_R} (h : zz_act P M c = some (.inl r)) : zz_Run P d M c = some r := by
  rw [zz_Run_eq, zz_step, h]
theorem zz_Run_call {P : zz_P} {d M : Nat} {c : zz_C} {M' : Nat} {as : List Value} {c' : zz_C} (h : zz_act P M c = some (.inr (.inr (M', as, c')))) {v : Option Value} {k' : Bool} {h' : zz_H} (hc : zz_Call P d M' as c'.2.2.2.2 = some (.inl v, k', h')) :
    zz_Run P d M c = zz_Run P d M (c'.1, c'.2.1, v.toList ++ c'.2.2.1, c'.2.2.2.1 && k', h') := by
  rw [zz_Run_eq, zz_step, h]
  dsimp only
  rw [hc]
theorem zz_Run_thrown {P : zz_P} {d M : Nat} {c : zz_C} {M' : Nat} {as : List Value} {c' : zz_C} (h : zz_act P M c = some (.inr (.inr (M', as, c')))) {a : Nat} {k' : Bool} {h' : zz_H} (hc : zz_Call P d M' as c'.2.2.2.2 = some (.inr a, k', h')) (hz : zz_catch P M c.1 a h' = none) (ho : zz_out P M = true) :
    zz_Run P d M c = some (.inr a, c'.2.2.2.1 && k', h') := by
  rw [zz_Run_eq, zz_step, h]
  dsimp only
  rw [hc]
  dsimp only
  rw [hz, ho]
theorem zz_Run_caught {P : zz_P} {d M : Nat} {c : zz_C} {M' : Nat} {as : List Value} {c' : zz_C} (h : zz_act P M c = some (.inr (.inr (M', as, c')))) {a pc' : Nat} {k' : Bool} {h' : zz_H} (hc : zz_Call P d M' as c'.2.2.2.2 = some (.inr a, k', h')) (hz : zz_catch P M c.1 a h' = some pc') :
    zz_Run P d M c = zz_Run P d M (pc', c'.2.1, [.ref a], c'.2.2.2.1 && k', h') := by
  rw [zz_Run_eq, zz_step, h]
  dsimp only
  rw [hc]
  dsimp only
  rw [hz]
