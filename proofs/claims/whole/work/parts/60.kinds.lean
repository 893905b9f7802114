def zz_S0 (L : Nat) : List (Nat × Nat) := [(2, L), (2, 20), (2, 114), (2, 144), (2, 162), (0, 1), (1, 19), (1, 19), (1, 54), (0, 0), (1, 72), (1, 54), (1, 25), (1, 20), (1, 5), (1, 4), (0, 0), (1, 72), (1, 54), (1, 25), (1, 20), (1, 5), (1, 4), (0, 2), (1, 193), (1, 193), (1, 54), (1, 54), (1, 72), (1, 72), (1, 114), (1, 19), (1, 19), (1, 9), (1, 9), (1, 16), (1, 20), (1, 12), (1, 12), (1, 15), (1, 17), (1, 17), (1, 17), (1, 20), (3, 1)]
def zz_P0 : Nat → Nat → Value := fun a f => match a, f with
  | 5, 0 => .ref 6
  | 5, 1 => .ref 7
  | 5, 2 => .ref 8
  | 5, 7 => .ref 9
  | 5, 8 => .ref 16
  | 9, 12 => .ref 10
  | 9, 13 => .ref 11
  | 9, 14 => .ref 12
  | 9, 15 => .ref 13
  | 9, 16 => .ref 14
  | 9, 17 => .ref 15
  | 16, 12 => .ref 17
  | 16, 13 => .ref 18
  | 16, 14 => .ref 19
  | 16, 15 => .ref 20
  | 16, 16 => .ref 21
  | 16, 17 => .ref 22
  | 23, 1 => .ref 24
  | 23, 2 => .ref 25
  | 23, 4 => .ref 26
  | 23, 5 => .ref 27
  | 23, 6 => .ref 28
  | 23, 7 => .ref 29
  | 23, 8 => .ref 30
  | 23, 9 => .ref 31
  | 23, 10 => .ref 32
  | 23, 12 => .ref 33
  | 23, 13 => .ref 34
  | 23, 14 => .ref 35
  | 23, 17 => .ref 36
  | 23, 18 => .ref 37
  | 23, 19 => .ref 38
  | 23, 20 => .ref 39
  | 23, 21 => .ref 40
  | 23, 22 => .ref 41
  | 23, 23 => .ref 42
  | 23, 24 => .ref 43
  | _, _ => .null
def zz_hp (L : Nat) (I : Nat → Nat → Int32) (J : Nat → Nat → Int64) (ex : List (Nat × Nat)) : zz_H := (zz_S0 L ++ ex, I, J, zz_P0)
def zz_ck (b : Bool) (r : Option zz_R) : Option zz_R := match b with
  | true => r
  | false => none
def zz_w1 (o : Option Value) : Bool := match o with
  | some v => v.category == 2
  | none => false
def zz_sl (o : Option Value) (r : Option zz_R) : Option zz_R := match zz_w1 o with
  | true => none
  | false => r
theorem zz_ck_t (r : Option zz_R) : zz_ck true r = r := rfl
theorem zz_sl_n (r : Option zz_R) : zz_sl none r = r := rfl
theorem zz_sl_i (v : Int32) (r : Option zz_R) : zz_sl (some (.int v)) r = r := rfl
theorem zz_sl_r (v : Nat) (r : Option zz_R) : zz_sl (some (.ref v)) r = r := rfl
def zz_isar (a : Nat) : Bool := match (zz_S0 0)[a]? with
  | some (1, _) => true
  | _ => false
def zz_ary (L a : Nat) : Nat := match (zz_S0 L)[a]? with
  | some (1, n) => n
  | some (2, n) => n
  | _ => 0
def zz_isrd (a : Nat) : Bool := match (zz_S0 0)[a]? with
  | some (1, _) => true
  | some (2, _) => true
  | _ => false
def zz_ret (o : Option zz_R) (f : Option Value → Bool → zz_H → Option zz_R) (g : Nat → Bool → zz_H → Option zz_R) : Option zz_R := match o with
  | none => none
  | some (.inl v, k, h) => f v k h
  | some (.inr a, k, h) => g a k h
theorem zz_ret_l (v : Option Value) (k : Bool) (h : zz_H) (f : Option Value → Bool → zz_H → Option zz_R) (g : Nat → Bool → zz_H → Option zz_R) : zz_ret (some (.inl v, k, h)) f g = f v k h := rfl
theorem zz_ret_r (a : Nat) (k : Bool) (h : zz_H) (f : Option Value → Bool → zz_H → Option zz_R) (g : Nat → Bool → zz_H → Option zz_R) : zz_ret (some (.inr a, k, h)) f g = g a k h := rfl
theorem zz_ret_if (c : Prop) [Decidable c] (x y : Option zz_R) (f : Option Value → Bool → zz_H → Option zz_R) (g : Nat → Bool → zz_H → Option zz_R) : zz_ret (if c then x else y) f g = if c then zz_ret x f g else zz_ret y f g := by split <;> rfl
noncomputable def zz_th (d M pc a : Nat) (L : List (Option Value)) (k : Bool) (h : zz_H) : Option zz_R := match zz_catch zz_prog M pc a h with
  | some pc' => zz_Run zz_prog d M (pc', L, [.ref a], k, h)
  | none => match zz_out zz_prog M with
    | true => some (.inr a, k, h)
    | false => none
section ZK2
variable {d M pc len j : Nat} {x : List Nat} {sw : List (Int32 × Nat)} {L L' : List (Option Value)} {st st' : List Value} {k : Bool} {h : zz_H} {i : Instr} {o : Option Value} {v w : Int32} {r : List Value} {n : Nat} {I : Nat → Nat → Int32} {J : Nat → Nat → Int64} {ex : List (Nat × Nat)} {mi : zz_M} {ch : List (Nat × zz_I)} {ii : zz_I}
theorem zz_fetch_of (h1 : zz_prog M = some mi) (h2 : mi.2.2[pc / 32]? = some ch) (h3 : zz_find pc ch = some ii) : zz_fetch zz_prog M pc = some ii := by
  unfold zz_fetch
  rw [h1]
  dsimp only
  rw [h2]
  exact h3
theorem zz_k_num {pc' : Nat} (hf : zz_fetch zz_prog M pc = some (i, len, x, sw)) (hn : zz_nums i x sw pc L st = some (pc', L', st')) : zz_Run zz_prog d M (pc, L, st, k, h) = zz_Run zz_prog d M (pc', L', st', k, h) := by
  refine zz_Run_go ?_
  unfold zz_act
  dsimp only
  rw [hf]
  dsimp only
  unfold zz_ex
  dsimp only
  rw [hn]
  rfl
theorem zz_k_br {c : ClassFile.Cond} {t f : Nat} (p : Prop) [Decidable p] (hp : zz_br c v w t f = if p then t else f) (h1 : zz_Run zz_prog d M (pc, L, st, k, h) = zz_Run zz_prog d M (zz_br c v w t f, L', st', k, h)) : zz_Run zz_prog d M (pc, L, st, k, h) = if p then zz_Run zz_prog d M (t, L', st', k, h) else zz_Run zz_prog d M (f, L', st', k, h) := by
  rw [h1, hp]
  split <;> rfl
theorem zz_k_st {u : Value} {pc' : Nat} (hf : zz_fetch zz_prog M pc = some (i, len, x, sw)) (hn : zz_nums i x sw pc L st = (zz_st L j u).map fun L' => (pc', L', st')) (hnn : ∀ q, zz_heap i x sw pc L st k h = some q → False) (hi : zz_inv i = false) (hl : j < L.length) (hw : zz_wide L j = zz_w1 o) (hs : L.set j (some u) = L') :
    zz_Run zz_prog d M (pc, L, st, k, h) = zz_sl o (zz_Run zz_prog d M (pc', L', st', k, h)) := by
  unfold zz_st at hn
  rw [if_pos hl, hw] at hn
  unfold zz_sl
  cases ho : zz_w1 o with
  | false =>
    rw [ho] at hn
    dsimp only at hn
    rw [hs] at hn
    exact zz_k_num hf hn
  | true =>
    rw [ho] at hn
    dsimp only at hn
    rw [zz_Run_eq, zz_step]
    have : zz_act zz_prog M (pc, L, st, k, h) = none := by
      unfold zz_act
      dsimp only
      rw [hf]
      dsimp only
      unfold zz_ex
      dsimp only
      rw [hn]
      dsimp only [Option.map_none]
      rw [hi]
      dsimp only
      cases hq : zz_heap i x sw pc L st k h with
      | none => rfl
      | some q => exact absurd hq (fun z => hnn q z)
    rw [this]
theorem zz_k_act {a : zz_A} (hf : zz_fetch zz_prog M pc = some (i, len, x, sw)) (hn : zz_nums i x sw pc L st = none) (hi : zz_inv i = false) (hh : zz_heap i x sw pc L st k h = some a) : zz_act zz_prog M (pc, L, st, k, h) = some a := by
  unfold zz_act
  dsimp only
  rw [hf]
  dsimp only
  unfold zz_ex
  dsimp only
  rw [hn]
  dsimp only
  rw [hi]
  exact hh
theorem zz_k_go {c' : zz_C} (hf : zz_fetch zz_prog M pc = some (i, len, x, sw)) (hn : zz_nums i x sw pc L st = none) (hi : zz_inv i = false) (hh : zz_heap i x sw pc L st k h = some (.inr (.inl c'))) : zz_Run zz_prog d M (pc, L, st, k, h) = zz_Run zz_prog d M c' := zz_Run_go (zz_k_act hf hn hi hh)
theorem zz_k_stop {q : zz_R} (hf : zz_fetch zz_prog M pc = some (i, len, x, sw)) (hn : zz_nums i x sw pc L st = none) (hi : zz_inv i = false) (hh : zz_heap i x sw pc L st k h = some (.inl q)) : zz_Run zz_prog d M (pc, L, st, k, h) = some q := zz_Run_stop (zz_k_act hf hn hi hh)
theorem zz_k_none (hf : zz_fetch zz_prog M pc = some (i, len, x, sw)) (hn : zz_nums i x sw pc L st = none) (hi : zz_inv i = false) (hh : zz_heap i x sw pc L st k h = none) : zz_Run zz_prog d M (pc, L, st, k, h) = none := by
  rw [zz_Run_eq, zz_step]
  have : zz_act zz_prog M (pc, L, st, k, h) = none := by
    unfold zz_act
    dsimp only
    rw [hf]
    dsimp only
    unfold zz_ex
    dsimp only
    rw [hn]
    dsimp only
    rw [hi]
    exact hh
  rw [this]
theorem zz_ar1 {a : Nat} (ha : zz_isar a = true) : (zz_S0 n ++ ex)[a]? = some (1, zz_ary n a) := by
  unfold zz_isar at ha
  unfold zz_ary
  have hlt : a < 45 := by
    rcases Nat.lt_or_ge a 45 with z | z
    · exact z
    · rw [List.getElem?_eq_none (by exact z)] at ha
      cases ha
  rw [List.getElem?_append_left (by exact hlt)]
  match a, hlt with
  | 0, _ => cases ha
  | a + 1, hlt =>
    have e : (zz_S0 n)[a + 1]? = (zz_S0 0)[a + 1]? := rfl
    rw [e]
    split at ha
    · rename_i m hm
      rw [hm]
      rfl
    · cases ha
theorem zz_ar2 {a : Nat} (ha : zz_isrd a = true) : (zz_S0 n ++ ex)[a]? = some (1, zz_ary n a) ∨ (zz_S0 n ++ ex)[a]? = some (2, zz_ary n a) := by
  unfold zz_isrd at ha
  unfold zz_ary
  have hlt : a < 45 := by
    rcases Nat.lt_or_ge a 45 with z | z
    · exact z
    · rw [List.getElem?_eq_none (by exact z)] at ha
      cases ha
  rw [List.getElem?_append_left (by exact hlt)]
  match a, hlt with
  | 0, _ => exact Or.inr rfl
  | a + 1, hlt =>
    have e : (zz_S0 n)[a + 1]? = (zz_S0 0)[a + 1]? := rfl
    rw [e]
    split at ha
    · rename_i m hm
      rw [hm]
      exact Or.inl rfl
    · rename_i m hm
      rw [hm]
      exact Or.inr rfl
    · cases ha
theorem zz_k_iald {a : Nat} {q : Int32} (hf : zz_fetch zz_prog M pc = some (.iaload, len, x, sw)) (ha : zz_isrd a = true) : zz_Run zz_prog d M (pc, L, .int q :: .ref a :: r, k, zz_hp n I J ex) = zz_ck (zz_in q (zz_ary n a)) (zz_Run zz_prog d M (pc + 1, L, .int (I a q.toNatClampNeg) :: r, k, zz_hp n I J ex)) := by
  cases hq : zz_in q (zz_ary n a) with
  | true =>
    refine zz_k_go hf rfl rfl ?_
    rcases zz_ar2 (n := n) (ex := ex) ha with e | e <;> (simp only [zz_heap, zz_hp, e, hq, if_true]; rfl)
  | false =>
    refine zz_k_none hf rfl rfl ?_
    rcases zz_ar2 (n := n) (ex := ex) ha with e | e <;> simp [zz_heap, zz_hp, e, hq]
theorem zz_k_iast {a : Nat} {q : Int32} (hf : zz_fetch zz_prog M pc = some (.iastore, len, x, sw)) (ha : zz_isar a = true) : zz_Run zz_prog d M (pc, L, .int v :: .int q :: .ref a :: r, k, zz_hp n I J ex) = zz_ck (zz_in q (zz_ary n a)) (zz_Run zz_prog d M (pc + 1, L, r, false, zz_hp n (zz_up I a q.toNatClampNeg v) J ex)) := by
  have e := zz_ar1 (n := n) (ex := ex) ha
  cases hq : zz_in q (zz_ary n a) with
  | true =>
    refine zz_k_go hf rfl rfl ?_
    simp only [zz_heap, zz_hp, e, hq, if_true]
    rfl
  | false =>
    refine zz_k_none hf rfl rfl ?_
    simp [zz_heap, zz_hp, e, hq]
theorem zz_k_alen {a : Nat} (hf : zz_fetch zz_prog M pc = some (.arraylength, len, x, sw)) (ha : zz_isrd a = true) : zz_Run zz_prog d M (pc, L, .ref a :: r, k, zz_hp n I J ex) = zz_Run zz_prog d M (pc + 1, L, .int (Int32.ofNat (zz_ary n a)) :: r, k, zz_hp n I J ex) := by
  refine zz_k_go hf rfl rfl ?_
  rcases zz_ar2 (n := n) (ex := ex) ha with e | e <;> (simp only [zz_heap, zz_hp, e]; rfl)
theorem zz_k_putz {a f c : Nat} {idx : Nat} (hf : zz_fetch zz_prog M pc = some (.putfield idx, len, [c, f, 1], sw)) (ha : (zz_S0 n ++ ex)[a]? = some (0, c)) : zz_Run zz_prog d M (pc, L, .int v :: .ref a :: r, k, zz_hp n I J ex) = zz_ck (decide (v = 0 ∨ v = 1)) (zz_Run zz_prog d M (pc + 3, L, r, false, zz_hp n (zz_up I a f v) J ex)) := by
  by_cases hv : v = 0 ∨ v = 1
  · rw [decide_eq_true hv]
    refine zz_k_go hf rfl rfl ?_
    simp only [zz_heap, zz_hp, ha]
    rw [if_pos ⟨trivial, hv⟩]
    rfl
  · rw [decide_eq_false hv]
    refine zz_k_none hf rfl rfl ?_
    simp only [zz_heap, zz_hp, ha]
    rw [if_neg (fun z => hv z.2)]
theorem zz_k_retz {h : zz_H} (hf : zz_fetch zz_prog M pc = some (.ireturn, len, [1], sw)) : zz_Run zz_prog d M (pc, L, [.int v], k, h) = zz_ck (decide (v = 0 ∨ v = 1)) (some (.inl (some (.int v)), k, h)) := by
  by_cases hv : v = 0 ∨ v = 1
  · rw [decide_eq_true hv]
    refine zz_k_stop hf rfl rfl ?_
    simp only [zz_heap]
    rw [if_pos hv]
  · rw [decide_eq_false hv]
    refine zz_k_none hf rfl rfl ?_
    simp only [zz_heap]
    rw [if_neg hv]
theorem zz_k_idiv (hf : zz_fetch zz_prog M pc = some (.idiv, len, x, sw)) (hw : ¬ w = 0) : zz_Run zz_prog d M (pc, L, .int w :: .int v :: r, k, h) = zz_Run zz_prog d M (pc + 1, L, .int (v / w) :: r, k, h) := by
  refine zz_k_num hf ?_
  simp only [zz_nums]
  rw [if_neg hw]
theorem zz_k_irem (hf : zz_fetch zz_prog M pc = some (.irem, len, x, sw)) (hw : ¬ w = 0) : zz_Run zz_prog d M (pc, L, .int w :: .int v :: r, k, h) = zz_Run zz_prog d M (pc + 1, L, .int (v - v / w * w) :: r, k, h) := by
  refine zz_k_num hf ?_
  simp only [zz_nums]
  rw [if_neg hw]
theorem zz_k_call {M' : Nat} {as : List Value} (hf : zz_fetch zz_prog M pc = some (i, len, x, sw)) (hn : zz_nums i x sw pc L st = none) (hi : zz_inv i = true) (hc : zz_call x pc L st k h = some (.inr (.inr (M', as, (pc + 3, L, st', k, h))))) :
    zz_Run zz_prog d M (pc, L, st, k, h) = zz_ret (zz_Call zz_prog d M' as h) (fun v k' h' => zz_Run zz_prog d M (pc + 3, L, v.toList ++ st', k && k', h')) (fun a k' h' => zz_th d M pc a L (k && k') h') := by
  have ha : zz_act zz_prog M (pc, L, st, k, h) = some (.inr (.inr (M', as, (pc + 3, L, st', k, h)))) := by
    unfold zz_act
    dsimp only
    rw [hf]
    dsimp only
    unfold zz_ex
    dsimp only
    rw [hn]
    dsimp only
    rw [hi]
    exact hc
  rw [zz_Run_eq, zz_step, ha]
  rfl
theorem zz_k_bi {c' : zz_C} (hf : zz_fetch zz_prog M pc = some (i, len, x, sw)) (hn : zz_nums i x sw pc L st = none) (hi : zz_inv i = true) (hc : zz_call x pc L st k h = some (.inr (.inl c'))) : zz_Run zz_prog d M (pc, L, st, k, h) = zz_Run zz_prog d M c' := by
  refine zz_Run_go ?_
  unfold zz_act
  dsimp only
  rw [hf]
  dsimp only
  unfold zz_ex
  dsimp only
  rw [hn]
  dsimp only
  rw [hi]
  exact hc
theorem zz_sw_nil {t : Nat} : zz_Run zz_prog d M (zz_sw v t [], L, st, k, h) = zz_Run zz_prog d M (t, L, st, k, h) := rfl
theorem zz_sw_cons {t u : Nat} {q : Int32} {sw : List (Int32 × Nat)} : zz_Run zz_prog d M (zz_sw v t ((q, u) :: sw), L, st, k, h) = if v = q then zz_Run zz_prog d M (u, L, st, k, h) else zz_Run zz_prog d M (zz_sw v t sw, L, st, k, h) := by
  show zz_Run zz_prog d M (if v = q then u else zz_sw v t sw, L, st, k, h) = _
  split <;> rfl
def zz_exa (ex : List (Nat × Nat)) : Nat := 45 + ex.length
theorem zz_k_throw {idx c : Nat} (hf : zz_fetch zz_prog M pc = some (.new idx, len, [4, c], sw)) (hl : st.length ≤ 8) : zz_Run zz_prog d M (pc, L, st, true, zz_hp n I J ex) = some (.inr (zz_exa ex), false, zz_hp n I J (ex ++ [(4, c)])) := by
  have e1 : (zz_S0 n ++ ex).length = zz_exa ex := by
    rw [List.length_append]
    rfl
  refine zz_k_stop hf rfl rfl ?_
  simp only [zz_heap, zz_hp]
  rw [if_pos ⟨trivial, hl⟩, e1, List.append_assoc]
theorem zz_catch_out {a : Nat} (h1 : zz_prog M = some mi) (h2 : mi.2.1 = []) : zz_catch zz_prog M pc a h = none := by
  unfold zz_catch
  rw [h1]
  split
  · rename_i heq1 heq2
    cases heq1
    rw [h2]
    rfl
  · rfl
theorem zz_out_out (h1 : zz_prog M = some mi) (h2 : mi.2.1 = []) : zz_out zz_prog M = true := by
  unfold zz_out
  rw [h1]
  dsimp only
  rw [h2]
  rfl
theorem zz_th_out {a : Nat} (h1 : zz_prog M = some mi) (h2 : mi.2.1 = []) : zz_th d M pc a L k h = some (.inr a, k, h) := by
  unfold zz_th
  rw [zz_catch_out h1 h2, zz_out_out h1 h2]
end ZK2
