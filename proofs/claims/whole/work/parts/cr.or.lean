def zz_rk (h h' : zz_H) : Prop := (∃ t, h'.1 = h.1 ++ t) ∧ ∀ a n, h.1[a]? = some (2, n) → ∀ j, h'.2.1 a j = h.2.1 a j
theorem ro_same {h h' : zz_H} (e1 : h'.1 = h.1) (e2 : h'.2.1 = h.2.1) : zz_rk h h' := ⟨⟨[], by rw [e1, List.append_nil]⟩, fun a n _ j => by rw [e2]⟩
theorem ro_up {h : zz_H} {q f kd n : Nat} {v : Int32} {J : Nat → Nat → Int64} {P : Nat → Nat → Value} (hk : h.1[q]? = some (kd, n)) (hne : ¬ kd = 2) : zz_rk h (h.1, zz_up h.2.1 q f v, J, P) := ⟨⟨[], by rw [List.append_nil]⟩, fun a m ha j => by
  have : ¬ a = q := fun z => by
    subst z
    rw [hk] at ha
    cases ha
    exact hne rfl
  show zz_up h.2.1 q f v a j = h.2.1 a j
  unfold zz_up
  rw [if_neg this]⟩
theorem ro_cpy {h : zz_H} {q f kd n : Nat} {J : Nat → Nat → Int64} {P : Nat → Nat → Value} (hk : h.1[q]? = some (kd, n)) (hne : ¬ kd = 2) : zz_rk h (h.1, zz_cpy h.2.1 f q, J, P) := ⟨⟨[], by rw [List.append_nil]⟩, fun a m ha j => by
  have : ¬ a = q := fun z => by
    subst z
    rw [hk] at ha
    cases ha
    exact hne rfl
  show zz_cpy h.2.1 f q a j = h.2.1 a j
  unfold zz_cpy
  rw [if_neg this]⟩
theorem ro_new {h : zz_H} {x : Nat × Nat} {v : Int32} {J : Nat → Nat → Int64} {P : Nat → Nat → Value} : zz_rk h (h.1 ++ [x], zz_all h.2.1 h.1.length v, J, P) := ⟨⟨[x], rfl⟩, fun a m ha j => by
  have : ¬ a = h.1.length := fun z => by
    subst z
    rw [List.getElem?_eq_none (Nat.le_refl _)] at ha
    cases ha
  show zz_all h.2.1 h.1.length v a j = h.2.1 a j
  unfold zz_all
  rw [if_neg this]⟩
theorem ro_app {h : zz_H} {x : Nat × Nat} {J : Nat → Nat → Int64} {P : Nat → Nat → Value} : zz_rk h (h.1 ++ [x], h.2.1, J, P) := ⟨⟨[x], rfl⟩, fun a m ha j => rfl⟩
theorem ro_tr {h h1 h2 : zz_H} (a : zz_rk h h1) (b : zz_rk h1 h2) : zz_rk h h2 := by
  obtain ⟨⟨t, ht⟩, a2⟩ := a
  obtain ⟨⟨u, hu⟩, b2⟩ := b
  refine ⟨⟨t ++ u, by rw [hu, ht, List.append_assoc]⟩, fun q n hq j => ?_⟩
  have hlt : q < h.1.length := by
    rcases Nat.lt_or_ge q h.1.length with z | z
    · exact z
    · rw [List.getElem?_eq_none z] at hq
      cases hq
  rw [b2 q n (by rw [ht, List.getElem?_append_left hlt]; exact hq) j, a2 q n hq j]
def zz_aro (h : zz_H) (a : zz_A) : Prop := match a with
  | .inl r => zz_rk h r.2.2
  | .inr (.inl c) => zz_rk h c.2.2.2.2
  | .inr (.inr q) => q.2.2.2.2.2.2 = h
theorem zz_heap_ro {i : Instr} {x : List Nat} {sw : List (Int32 × Nat)} {pc : Nat} {L : List (Option Value)} {st : List Value} {k : Bool} {h : zz_H} {a : zz_A} (ha : zz_heap i x sw pc L st k h = some a) : zz_aro h a := by
  unfold zz_heap at ha
  simp only [zz_go] at ha
  repeat' split at ha
  all_goals first
    | (cases ha; exact ro_same rfl rfl)
    | (cases ha; exact ro_up (by assumption) (by decide))
    | (cases ha; exact ro_new)
    | (cases ha; exact ro_app)
    | cases ha
theorem zz_bi_ro {x : List Nat} {pc : Nat} {L : List (Option Value)} {st : List Value} {k : Bool} {h : zz_H} {a : zz_A} (ha : zz_bi x pc L st k h = some a) : zz_aro h a := by
  unfold zz_bi at ha
  simp only [zz_go] at ha
  repeat' split at ha
  all_goals first
    | (cases ha; exact ro_same rfl rfl)
    | (cases ha; exact ro_cpy (by assumption) (by decide))
    | (cases ha; exact ro_up (by assumption) (by decide))
    | cases ha
theorem zz_call_ro {x : List Nat} {pc : Nat} {L : List (Option Value)} {st : List Value} {k : Bool} {h : zz_H} {a : zz_A} (ha : zz_call x pc L st k h = some a) : zz_aro h a := by
  unfold zz_call at ha
  split at ha
  · split at ha
    · split at ha
      · cases ha; rfl
      · cases ha
    · split at ha
      · cases ha; rfl
      · cases ha
    · exact zz_bi_ro ha
  · cases ha
theorem zz_act_ro {P : zz_P} {M : Nat} {c : zz_C} {a : zz_A} (ha : zz_act P M c = some a) : zz_aro c.2.2.2.2 a := by
  unfold zz_act at ha
  split at ha
  · unfold zz_ex at ha
    split at ha
    · cases ha
      exact ro_same rfl rfl
    · split at ha
      · exact zz_call_ro ha
      · exact zz_heap_ro ha
  · cases ha
theorem zz_run_ro (P : zz_P) : ∀ (n d M : Nat) (c : zz_C) (r : zz_R), zz_run P n d M c = some r → zz_rk c.2.2.2.2 r.2.2
  | 0, _, _, _, _, h => by cases h
  | n + 1, d, M, c, r, h => by
    rw [zz_run_succ] at h
    unfold zz_step at h
    cases ha : zz_act P M c with
    | none => rw [ha] at h; cases h
    | some a =>
      have he := zz_act_ro ha
      rw [ha] at h
      obtain q | c' | ⟨M', as, c'⟩ := a
      · dsimp only at h
        cases h
        exact he
      · exact ro_tr he (zz_run_ro P n d M c' r h)
      · dsimp only at h
        have he' : c'.2.2.2.2 = c.2.2.2.2 := he
        cases hc : zz_runc P n d M' as c'.2.2.2.2 with
        | none => rw [hc] at h; cases h
        | some q =>
          have hq : zz_rk c.2.2.2.2 q.2.2 := by
            rw [← he']
            unfold zz_runc at hc
            cases d with
            | zero => cases hc
            | succ d' =>
              dsimp only at hc
              cases hn : zz_enter P M' as c'.2.2.2.2 with
              | none => rw [hn] at hc; cases hc
              | some c2 =>
                rw [hn] at hc
                have h2 := zz_run_ro P n d' M' c2 q hc
                have h3 : c2.2.2.2.2 = c'.2.2.2.2 := by
                  unfold zz_enter at hn
                  split at hn
                  · split at hn
                    · cases hn; rfl
                    · cases hn
                  · cases hn
                rw [h3] at h2
                exact h2
          rw [hc] at h
          obtain ⟨o, k', h'⟩ := q
          cases o with
          | inl v => exact ro_tr hq (zz_run_ro P n d M _ r h)
          | inr x =>
            dsimp only at h
            cases hz : zz_catch P M c.1 x h' with
            | some pc' =>
              rw [hz] at h
              exact ro_tr hq (zz_run_ro P n d M _ r h)
            | none =>
              rw [hz] at h
              dsimp only at h
              split at h
              · cases h
                exact hq
              · cases h
theorem zz_Call_ro {P : zz_P} {d M : Nat} {as : List Value} {h : zz_H} {r : zz_R} (hc : zz_Call P d M as h = some r) : zz_rk h r.2.2 := by
  obtain ⟨n, hn⟩ := zz_Call_iff.mp hc
  unfold zz_runc at hn
  cases d with
  | zero => cases hn
  | succ d' =>
    dsimp only at hn
    cases he : zz_enter P M as h with
    | none => rw [he] at hn; cases hn
    | some c2 =>
      rw [he] at hn
      have h2 := zz_run_ro P n d' M c2 r hn
      have h3 : c2.2.2.2.2 = h := by
        unfold zz_enter at he
        split at he
        · split at he
          · cases he; rfl
          · cases he
        · cases he
      rw [h3] at h2
      exact h2
theorem call_0 {d n M : Nat} {as : List Value} {I I1 : Nat → Nat → Int32} {J J1 : Nat → Nat → Int64} {ex ex1 : List (Nat × Nat)} {o : Option Value ⊕ Nat} {f : Bool} (hc : zz_Call zz_prog d M as (zz_hp n I J ex) = some (o, f, zz_hp n I1 J1 ex1)) (j : Nat) : I1 0 j = I 0 j := (zz_Call_ro hc).2 0 n rfl j
