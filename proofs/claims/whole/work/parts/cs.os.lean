def zz_nr (b : Bool) (i : Instr) : Bool := match i with
  | .lreturn => false
  | .return_ => !b
  | .ireturn => b
  | _ => true
def zz_rq (b : Bool) (mi : zz_M) : Bool := mi.2.2.all (fun ch => ch.all (fun e => zz_nr b e.2.1))
def zz_rv (b : Bool) (v : Option Value) : Prop := match b with
  | true => ∃ u, v = some (.int u)
  | false => v = none
def zz_okr (b : Bool) (o : Option Value ⊕ Nat) : Prop := match o with
  | .inl v => zz_rv b v
  | .inr _ => True
def zz_oka (b : Bool) (a : zz_A) : Prop := match a with
  | .inl r => zz_okr b r.1
  | .inr _ => True
theorem zz_find_mem {pc : Nat} {ii : zz_I} : ∀ (ch : List (Nat × zz_I)), zz_find pc ch = some ii → ∃ q, (q, ii) ∈ ch
  | [], h => by cases h
  | (q, i) :: r, h => by
    unfold zz_find at h
    split at h
    · cases h
      exact ⟨q, List.mem_cons_self ..⟩
    · obtain ⟨q', hq⟩ := zz_find_mem r h
      exact ⟨q', List.mem_cons_of_mem _ hq⟩
theorem zz_fetch_nr {P : zz_P} {M pc : Nat} {ii : zz_I} {mi : zz_M} {b : Bool} (hp : P M = some mi) (h : zz_rq b mi = true) (hf : zz_fetch P M pc = some ii) : zz_nr b ii.1 = true := by
  unfold zz_fetch at hf
  rw [hp] at hf
  dsimp only at hf
  split at hf
  · rename_i ch hc
    obtain ⟨q, hq⟩ := zz_find_mem ch hf
    unfold zz_rq at h
    have h1 := List.all_eq_true.mp h ch (List.mem_of_getElem? hc)
    exact List.all_eq_true.mp h1 _ hq
  · cases hf
theorem zz_heap_rt {b : Bool} {i : Instr} {x : List Nat} {sw : List (Int32 × Nat)} {pc : Nat} {L : List (Option Value)} {st : List Value} {k : Bool} {h : zz_H} {a : zz_A} (hb : zz_nr b i = true) (ha : zz_heap i x sw pc L st k h = some a) : zz_oka b a := by
  unfold zz_heap at ha
  simp only [zz_go] at ha
  repeat' split at ha
  all_goals first
    | (cases ha; exact trivial)
    | (cases ha; cases b <;> first | exact absurd hb (by decide) | exact ⟨_, rfl⟩ | exact rfl)
    | cases ha
theorem zz_bi_rt {b : Bool} {x : List Nat} {pc : Nat} {L : List (Option Value)} {st : List Value} {k : Bool} {h : zz_H} {a : zz_A} (ha : zz_bi x pc L st k h = some a) : zz_oka b a := by
  unfold zz_bi at ha
  simp only [zz_go] at ha
  repeat' split at ha
  all_goals first
    | (cases ha; exact trivial)
    | cases ha
theorem zz_call_rt {b : Bool} {x : List Nat} {pc : Nat} {L : List (Option Value)} {st : List Value} {k : Bool} {h : zz_H} {a : zz_A} (ha : zz_call x pc L st k h = some a) : zz_oka b a := by
  unfold zz_call at ha
  split at ha
  · split at ha
    · split at ha
      · cases ha; exact trivial
      · cases ha
    · split at ha
      · cases ha; exact trivial
      · cases ha
    · exact zz_bi_rt ha
  · cases ha
theorem zz_act_rt {P : zz_P} {M : Nat} {c : zz_C} {a : zz_A} {mi : zz_M} {b : Bool} (hp : P M = some mi) (hb : zz_rq b mi = true) (ha : zz_act P M c = some a) : zz_oka b a := by
  unfold zz_act at ha
  split at ha
  · rename_i ii hf
    have hn := zz_fetch_nr hp hb hf
    unfold zz_ex at ha
    split at ha
    · cases ha
      exact trivial
    · split at ha
      · exact zz_call_rt ha
      · exact zz_heap_rt hn ha
  · cases ha
theorem zz_run_rt {P : zz_P} {mi : zz_M} {b : Bool} {M : Nat} (hp : P M = some mi) (hb : zz_rq b mi = true) : ∀ (n d : Nat) (c : zz_C) (r : zz_R), zz_run P n d M c = some r → zz_okr b r.1
  | 0, _, _, _, h => by cases h
  | n + 1, d, c, r, h => by
    rw [zz_run_succ] at h
    unfold zz_step at h
    cases ha : zz_act P M c with
    | none => rw [ha] at h; cases h
    | some a =>
      have he := zz_act_rt hp hb ha
      rw [ha] at h
      obtain q | c' | ⟨M', as, c'⟩ := a
      · dsimp only at h
        cases h
        exact he
      · exact zz_run_rt hp hb n d c' r h
      · dsimp only at h
        cases hc : zz_runc P n d M' as c'.2.2.2.2 with
        | none => rw [hc] at h; cases h
        | some q =>
          rw [hc] at h
          obtain ⟨o, k', h'⟩ := q
          cases o with
          | inl v => exact zz_run_rt hp hb n d _ r h
          | inr x =>
            dsimp only at h
            cases hz : zz_catch P M c.1 x h' with
            | some pc' =>
              rw [hz] at h
              exact zz_run_rt hp hb n d _ r h
            | none =>
              rw [hz] at h
              dsimp only at h
              split at h
              · cases h
                exact trivial
              · cases h
theorem zz_Call_rt {P : zz_P} {mi : zz_M} {b : Bool} {M d : Nat} {as : List Value} {h : zz_H} {v : Option Value} {f : Bool} {h' : zz_H} (hp : P M = some mi) (hb : zz_rq b mi = true) (hc : zz_Call P d M as h = some (.inl v, f, h')) : zz_rv b v := by
  obtain ⟨n, hn⟩ := zz_Call_iff.mp hc
  unfold zz_runc at hn
  cases d with
  | zero => cases hn
  | succ d' =>
    dsimp only at hn
    cases he : zz_enter P M as h with
    | none => rw [he] at hn; cases hn
    | some c2 =>
      rw [he] at hn
      exact zz_run_rt hp hb n d' c2 _ hn
section OS
variable {d n t pc s : Nat} {I X I1 W : Nat → Nat → Int32} {J : Nat → Nat → Int64} {ex : List (Nat × Nat)} {y : Int64}
theorem dk_at (z : Int64) (W : Nat → Nat → Int32) : ∀ k, (∀ j, j < k → zz_fold (fun k X => zz_up X 35 k (if (z >>> ((nI (3 * k)).toInt64 &&& 63) &&& Int64.ofNat 7).toInt32 ≤ 4 then (z >>> ((nI (3 * k)).toInt64 &&& 63) &&& Int64.ofNat 7).toInt32 else 4)) k 0 W 35 j = nI (dkN z j)) ∧ ∀ b j, ¬ b = 35 → zz_fold (fun k X => zz_up X 35 k (if (z >>> ((nI (3 * k)).toInt64 &&& 63) &&& Int64.ofNat 7).toInt32 ≤ 4 then (z >>> ((nI (3 * k)).toInt64 &&& 63) &&& Int64.ofNat 7).toInt32 else 4)) k 0 W b j = W b j := fun k => by
  induction k with
  | zero => exact ⟨fun j hj => by omega, fun _ _ _ => rfl⟩
  | succ k ih =>
    obtain ⟨i1, i2⟩ := ih
    rw [zz_fold_succ, Nat.zero_add]
    generalize zz_fold (fun k X => zz_up X 35 k (if (z >>> ((nI (3 * k)).toInt64 &&& 63) &&& Int64.ofNat 7).toInt32 ≤ 4 then (z >>> ((nI (3 * k)).toInt64 &&& 63) &&& Int64.ofNat 7).toInt32 else 4)) k 0 W = Z at *
    rw [dk_m]
    refine ⟨fun j hj => ?_, fun b j hb => ?_⟩
    · by_cases hz : j = k
      · subst hz
        exact up_eq
      · rw [up_nf hz]
        exact i1 j (by omega)
    · rw [up_ne hb, i2 b j hb]
theorem Rel.dk (h : Rel I y) {z : Int64} (h1 : ∀ b j, ¬ b = 35 → X b j = I b j) (h2 : ∀ j, j < 16 → X 35 j = nI (dkN z j)) : Rel X z := by
  obtain ⟨g1, g2, ⟨gd, nm, g3⟩, ⟨P, pe, pk, g4⟩, g5, g6, g7, g8, pc, g9, g10, g11, g12, g13⟩ := h
  have e24 : X 24 = I 24 := funext fun j => h1 24 j (by omega)
  have e25 : X 25 = I 25 := funext fun j => h1 25 j (by omega)
  refine ⟨g1.cong (fun b j hb => h1 b j (by omega)), g2.cong2 (fun b j hb => h1 b j (by omega)), ⟨gd, nm, g3.cong (fun b j hb => h1 b j (by omega))⟩, ⟨P, pe, pk, g4.cong (fun b j hb => h1 b j (by omega)) (h1 _ _ (by omega)) (h1 _ _ (by omega))⟩, h2, by rw [h1 _ _ (by omega)]; exact g6, by rw [h1 _ _ (by omega), h1 _ _ (by omega)]; exact g7, by rw [h1 _ _ (by omega), h1 _ _ (by omega)]; exact g8, pc, by rw [h1 _ _ (by omega)]; exact g9, by rw [h1 _ _ (by omega)]; exact g10, g11, by rw [e24]; exact g12.cong (fun b j hb hb2 => h1 b j (by omega)) (fun _ => rfl), ?_⟩
  rw [h1 5 9 (by omega), h1 5 6 (by omega), h1 9 2 (by omega), e24, e25]
  rcases g13 with z | ⟨z1, z2, z3⟩
  · exact Or.inl z
  · exact Or.inr ⟨z1, z2, fun w => ⟨(z3 w).1.cong (fun b j hb hb2 => h1 b j (by omega)) (fun _ => rfl), (z3 w).2⟩⟩
theorem op_deck (z : Int64) (hR : Rel I y) : (I 9 0 = 0 ∧ OkM 99 [.long z] I z none 0) ∨ (¬ I 9 0 = 0 ∧ OkM 99 [.long z] I y none 1) := by
  obtain ⟨pc, h5, h15, hpc, hC⟩ := hR.plc
  by_cases h0 : I 24 180 = 0
  · refine Or.inl ⟨hC.ph.trans h0, fun d n J ex => ⟨_, false, c99a (d := d + 5) h0 z, ?_, ?_⟩⟩
    · rw [(dk_at z _ 16).2 23 0 (by decide), up_eq]
    · exact (hR.thr 0).dk (dk_at z _ 16).2 (dk_at z _ 16).1
  · exact Or.inr ⟨fun w => h0 (hC.ph.symm.trans w), OkM.ref' hR (fun d n J ex => ⟨false, c99n (d := d + 5) h0 z⟩)⟩
theorem lg_cc (x : Int64) : lg_cmp x x = 0 := by
  unfold lg_cmp
  rw [if_neg (show ¬ x > x from fun h => by
    rw [gt_iff_lt, Int64.lt_iff_toInt_lt] at h
    omega), if_pos rfl]
end OS
