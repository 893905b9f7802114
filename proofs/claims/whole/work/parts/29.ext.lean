def zz_ext (h h' : zz_H) : Prop := ∃ t, h'.1 = h.1 ++ t
theorem zz_ext_rf {h h' : zz_H} (e : h'.1 = h.1) : zz_ext h h' := ⟨[], by rw [e, List.append_nil]⟩
theorem zz_ext_tr {h h1 h2 : zz_H} (a : zz_ext h h1) (b : zz_ext h1 h2) : zz_ext h h2 := by
  obtain ⟨t, ht⟩ := a
  obtain ⟨u, hu⟩ := b
  exact ⟨t ++ u, by rw [hu, ht, List.append_assoc]⟩
def zz_aext (h : zz_H) (a : zz_A) : Prop := match a with
  | .inl r => zz_ext h r.2.2
  | .inr (.inl c) => zz_ext h c.2.2.2.2
  | .inr (.inr q) => q.2.2.2.2.2.2 = h
theorem zz_heap_ext {i : Instr} {x : List Nat} {sw : List (Int32 × Nat)} {pc : Nat} {L : List (Option Value)} {st : List Value} {k : Bool} {h : zz_H} {a : zz_A} (ha : zz_heap i x sw pc L st k h = some a) : zz_aext h a := by
  unfold zz_heap at ha
  simp only [zz_go] at ha
  repeat' split at ha
  all_goals first
    | (cases ha; exact zz_ext_rf rfl)
    | (cases ha; exact ⟨[_], rfl⟩)
    | cases ha
theorem zz_bi_ext {x : List Nat} {pc : Nat} {L : List (Option Value)} {st : List Value} {k : Bool} {h : zz_H} {a : zz_A} (ha : zz_bi x pc L st k h = some a) : zz_aext h a := by
  unfold zz_bi at ha
  simp only [zz_go] at ha
  repeat' split at ha
  all_goals first
    | (cases ha; exact zz_ext_rf rfl)
    | cases ha
theorem zz_call_ext {x : List Nat} {pc : Nat} {L : List (Option Value)} {st : List Value} {k : Bool} {h : zz_H} {a : zz_A} (ha : zz_call x pc L st k h = some a) : zz_aext h a := by
  unfold zz_call at ha
  split at ha
  · split at ha
    · split at ha
      · cases ha; rfl
      · cases ha
    · split at ha
      · cases ha; rfl
      · cases ha
    · exact zz_bi_ext ha
  · cases ha
theorem zz_act_ext {P : zz_P} {M : Nat} {c : zz_C} {a : zz_A} (ha : zz_act P M c = some a) : zz_aext c.2.2.2.2 a := by
  unfold zz_act at ha
  split at ha
  · unfold zz_ex at ha
    split at ha
    · cases ha
      exact zz_ext_rf rfl
    · split at ha
      · exact zz_call_ext ha
      · exact zz_heap_ext ha
  · cases ha
theorem zz_run_ext (P : zz_P) : ∀ (n d M : Nat) (c : zz_C) (r : zz_R), zz_run P n d M c = some r → zz_ext c.2.2.2.2 r.2.2
  | 0, _, _, _, _, h => by cases h
  | n + 1, d, M, c, r, h => by
    rw [zz_run_succ] at h
    unfold zz_step at h
    cases ha : zz_act P M c with
    | none => rw [ha] at h; cases h
    | some a =>
      have he := zz_act_ext ha
      rw [ha] at h
      obtain q | c' | ⟨M', as, c'⟩ := a
      · dsimp only at h
        cases h
        exact he
      · exact zz_ext_tr he (zz_run_ext P n d M c' r h)
      · dsimp only at h
        have he' : c'.2.2.2.2 = c.2.2.2.2 := he
        cases hc : zz_runc P n d M' as c'.2.2.2.2 with
        | none => rw [hc] at h; cases h
        | some q =>
          have hq : zz_ext c.2.2.2.2 q.2.2 := by
            rw [← he']
            unfold zz_runc at hc
            cases d with
            | zero => cases hc
            | succ d' =>
              dsimp only at hc
              cases hn : zz_enter P M' as c'.2.2.2.2 with
              | none => rw [hn] at hc; cases hc
              | some c2 =>
                rw [hn] at hc
                have h2 := zz_run_ext P n d' M' c2 q hc
                have h3 : c2.2.2.2.2 = c'.2.2.2.2 := by
                  unfold zz_enter at hn
                  split at hn
                  · split at hn
                    · cases hn; rfl
                    · cases hn
                  · cases hn
                rw [h3] at h2
                exact h2
          rw [hc] at h
          obtain ⟨o, k', h'⟩ := q
          cases o with
          | inl v => exact zz_ext_tr hq (zz_run_ext P n d M _ r h)
          | inr x =>
            dsimp only at h
            cases hz : zz_catch P M c.1 x h' with
            | some pc' =>
              rw [hz] at h
              exact zz_ext_tr hq (zz_run_ext P n d M _ r h)
            | none =>
              rw [hz] at h
              dsimp only at h
              split at h
              · cases h
                exact hq
              · cases h
def zz_sz (q : Nat × Nat) : Nat := match q.1 with
  | 0 => zz_nslot.getD q.2 0
  | 1 => q.2
  | 3 => q.2
  | 4 => 6
  | _ => 0
def zz_size (h : zz_H) : Nat := (h.1.map zz_sz).sum
theorem zz_ext_le {h h' : zz_H} (e : zz_ext h h') : h.1.length ≤ h'.1.length ∧ zz_size h ≤ zz_size h' := by
  obtain ⟨t, ht⟩ := e
  unfold zz_size
  rw [ht]
  simp only [List.length_append, List.map_append, List.sum_append]
  omega
def zz_acl (k : Bool) (h : zz_H) (a : zz_A) : Prop := match a with
  | .inl r => r.2.1 = true → k = true ∧ r.2.2 = h
  | .inr (.inl c) => c.2.2.2.1 = true → k = true ∧ c.2.2.2.2 = h
  | .inr (.inr q) => q.2.2.2.2.2.1 = k ∧ q.2.2.2.2.2.2 = h
theorem zz_heap_cl {i : Instr} {x : List Nat} {sw : List (Int32 × Nat)} {pc : Nat} {L : List (Option Value)} {st : List Value} {k : Bool} {h : zz_H} {a : zz_A} (ha : zz_heap i x sw pc L st k h = some a) : zz_acl k h a := by
  unfold zz_heap at ha
  simp only [zz_go] at ha
  repeat' split at ha
  all_goals first
    | (cases ha; exact fun z => ⟨z, rfl⟩)
    | (cases ha; exact fun z => by cases z)
    | cases ha
theorem zz_bi_cl {x : List Nat} {pc : Nat} {L : List (Option Value)} {st : List Value} {k : Bool} {h : zz_H} {a : zz_A} (ha : zz_bi x pc L st k h = some a) : zz_acl k h a := by
  unfold zz_bi at ha
  simp only [zz_go] at ha
  repeat' split at ha
  all_goals first
    | (cases ha; exact fun z => ⟨z, rfl⟩)
    | (cases ha; exact fun z => by cases z)
    | cases ha
theorem zz_call_cl {x : List Nat} {pc : Nat} {L : List (Option Value)} {st : List Value} {k : Bool} {h : zz_H} {a : zz_A} (ha : zz_call x pc L st k h = some a) : zz_acl k h a := by
  unfold zz_call at ha
  split at ha
  · split at ha
    · split at ha
      · cases ha; exact ⟨rfl, rfl⟩
      · cases ha
    · split at ha
      · cases ha; exact ⟨rfl, rfl⟩
      · cases ha
    · exact zz_bi_cl ha
  · cases ha
theorem zz_act_cl {P : zz_P} {M : Nat} {c : zz_C} {a : zz_A} (ha : zz_act P M c = some a) : zz_acl c.2.2.2.1 c.2.2.2.2 a := by
  unfold zz_act at ha
  split at ha
  · unfold zz_ex at ha
    split at ha
    · cases ha
      exact fun z => ⟨z, rfl⟩
    · split at ha
      · exact zz_call_cl ha
      · exact zz_heap_cl ha
  · cases ha
theorem zz_run_cl (P : zz_P) : ∀ (n d M : Nat) (c : zz_C) (r : zz_R), zz_run P n d M c = some r → r.2.1 = true → c.2.2.2.1 = true ∧ r.2.2 = c.2.2.2.2
  | 0, _, _, _, _, h, _ => by cases h
  | n + 1, d, M, c, r, h, hr => by
    rw [zz_run_succ] at h
    unfold zz_step at h
    cases ha : zz_act P M c with
    | none => rw [ha] at h; cases h
    | some a =>
      have he := zz_act_cl ha
      rw [ha] at h
      obtain q | c' | ⟨M', as, c'⟩ := a
      · dsimp only at h
        cases h
        exact he hr
      · obtain ⟨g1, g2⟩ := zz_run_cl P n d M c' r h hr
        obtain ⟨g3, g4⟩ := he g1
        exact ⟨g3, g2.trans g4⟩
      · dsimp only at h
        obtain ⟨he1, he2⟩ := he
        cases hc : zz_runc P n d M' as c'.2.2.2.2 with
        | none => rw [hc] at h; cases h
        | some q =>
          have hq : q.2.1 = true → q.2.2 = c.2.2.2.2 := by
            intro hqt
            unfold zz_runc at hc
            cases d with
            | zero => cases hc
            | succ d' =>
              dsimp only at hc
              cases hn : zz_enter P M' as c'.2.2.2.2 with
              | none => rw [hn] at hc; cases hc
              | some c2 =>
                rw [hn] at hc
                have h2 := zz_run_cl P n d' M' c2 q hc hqt
                have h3 : c2.2.2.2.2 = c'.2.2.2.2 := by
                  unfold zz_enter at hn
                  split at hn
                  · split at hn
                    · cases hn; rfl
                    · cases hn
                  · cases hn
                rw [h2.2, h3]
                exact he2
          have hand : ∀ z : Bool, (c'.2.2.2.1 && z) = true → c.2.2.2.1 = true ∧ z = true := by
            intro z hz
            rw [Bool.and_eq_true] at hz
            exact ⟨he1 ▸ hz.1, hz.2⟩
          rw [hc] at h
          obtain ⟨o, k', h'⟩ := q
          cases o with
          | inl v =>
            obtain ⟨g1, g2⟩ := zz_run_cl P n d M _ r h hr
            obtain ⟨g3, g4⟩ := hand _ g1
            exact ⟨g3, g2.trans (hq g4)⟩
          | inr x =>
            dsimp only at h
            cases hz : zz_catch P M c.1 x h' with
            | some pc' =>
              rw [hz] at h
              obtain ⟨g1, g2⟩ := zz_run_cl P n d M _ r h hr
              obtain ⟨g3, g4⟩ := hand _ g1
              exact ⟨g3, g2.trans (hq g4)⟩
            | none =>
              rw [hz] at h
              dsimp only at h
              split at h
              · cases h
                obtain ⟨g3, g4⟩ := hand _ hr
                exact ⟨g3, hq g4⟩
              · cases h
