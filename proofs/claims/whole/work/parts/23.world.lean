def zz_tr (A : List Nat) (v : Value) : Value := match v with
  | .ref i => .ref (A.getD i 0)
  | u => u
def zz_fs (fk : List (List Nat)) (A : List Nat) (h : zz_H) (i c : Nat) : List Value := (List.range (fk.getD c []).length).map fun f => zz_tr A (zz_fv h i f ((fk.getD c []).getD f 0))
def zz_cell (fk : List (List Nat)) (cI cJ : ClassId) (A : List Nat) (h : zz_H) (i : Nat) (q : Nat × Nat) : va_E := match q.1 with
  | 0 => .inr (q.2, zz_fs fk A h i q.2)
  | 1 => .inl (cI, q.2, .inl (h.2.1 i))
  | 3 => .inl (cJ, q.2, .inr (.inl (h.2.2.1 i)))
  | _ => .inr (q.2, [])
def zz_w (fk : List (List Nat)) (cI cJ : ClassId) (A : List Nat) (h : zz_H) : va_W := (List.range (h.1.length - 5)).map fun k => (A.getD (k + 5) 0, zz_cell fk cI cJ A h (k + 5) (h.1.getD (k + 5) (9, 0)))
def zz_Ab (s0 : State) : Nat → Prop := fun q => s0.heap.size ≤ q
def zz_wf (h : zz_H) : Prop := ∀ i f j : Nat, h.2.2.2 i f = .ref j → j < h.1.length
def zz_ro (s0 : State) (A : List Nat) (h : zz_H) : Prop := ∀ i, i < 5 → ∃ n a, h.1[i]? = some (2, n) ∧ A[i]? = some a ∧ a < s0.heap.size ∧ va_X a n (h.2.1 i) s0 s0.heap ∧ ∀ nm, zz_sf i = some nm → va_Z "HexIsland" nm "[I" (.ref a) (fun q => s0.heap.size ≤ q) s0 s0.heap
def zz_rw (h : zz_H) : Prop := ∀ (i : Nat) (q : Nat × Nat), 5 ≤ i → h.1[i]? = some q → ¬ q.1 = 2
def zz_HR (s0 : State) (D : va_G) (cl : List vw_C) (fk : List (List Nat)) (cI cJ : ClassId) (A : List Nat) (h : zz_H) (H : Heap) (locs : List Loc) : Prop :=
  A.length = h.1.length ∧ 5 ≤ h.1.length ∧ zz_wf h ∧ va_P D cl (zz_w fk cI cJ A h) H ∧ va_D (zz_Ab s0) (zz_w fk cI cJ A h) ∧ va_S (zz_Ab s0) s0.heap H locs ∧ zz_ro s0 A h ∧ zz_rw h
theorem zz_getD {α : Type} {l : List α} {i : Nat} {x d : α} (h : l[i]? = some x) : l.getD i d = x := by
  rw [List.getD_eq_getElem?_getD, h]
  rfl
theorem zz_VR_tr {A : List Nat} {v w : Value} (h : zz_VR A v w) : zz_tr A v = w := by
  cases v with
  | ref i =>
    obtain ⟨a, ha, rfl⟩ := h
    simp only [zz_tr, zz_getD ha]
  | _ =>
    have h' : w = _ := h
    rw [h']
    rfl
theorem zz_tr_VR {A : List Nat} {v : Value} (h : ∀ i, v = .ref i → i < A.length) : zz_VR A v (zz_tr A v) := by
  cases v with
  | ref i =>
    have hi := h i rfl
    exact ⟨A[i], List.getElem?_eq_getElem hi, by simp only [zz_tr, zz_getD (List.getElem?_eq_getElem hi)]⟩
  | _ => rfl
theorem zz_w_len {fk : List (List Nat)} {cI cJ : ClassId} {A : List Nat} {h : zz_H} : (zz_w fk cI cJ A h).length = h.1.length - 5 := by simp [zz_w]
theorem zz_w_at {fk : List (List Nat)} {cI cJ : ClassId} {A : List Nat} {h : zz_H} {i a : Nat} {q : Nat × Nat} (h5 : 5 ≤ i) (hq : h.1[i]? = some q) (ha : A[i]? = some a) : (zz_w fk cI cJ A h)[i - 5]? = some (a, zz_cell fk cI cJ A h i q) := by
  have hl : i < h.1.length := (List.getElem?_eq_some_iff.mp hq).1
  unfold zz_w
  rw [List.getElem?_map, List.getElem?_range (by omega), Option.map_some, Nat.sub_add_cancel h5, zz_getD ha, zz_getD hq]
theorem zz_cell_congr {fk : List (List Nat)} {cI cJ : ClassId} {A A' : List Nat} {h h' : zz_H} {i : Nat} {q : Nat × Nat} (h1 : h'.2.1 i = h.2.1 i) (h2 : h'.2.2.1 i = h.2.2.1 i) (h3 : ∀ f, zz_tr A' (h'.2.2.2 i f) = zz_tr A (h.2.2.2 i f)) : zz_cell fk cI cJ A' h' i q = zz_cell fk cI cJ A h i q := by
  unfold zz_cell
  split
  · congr 2
    unfold zz_fs
    apply List.map_congr_left
    intro f _
    unfold zz_fv
    split
    · rw [h2]; rfl
    · exact h3 f
    · rw [h1]; rfl
  · rw [h1]
  · rw [h2]
  · rfl
theorem zz_w_set {fk : List (List Nat)} {cI cJ : ClassId} {A : List Nat} {h h' : zz_H} {i a : Nat} {q : Nat × Nat} (h5 : 5 ≤ i) (hq : h.1[i]? = some q) (ha : A[i]? = some a) (hs : h'.1 = h.1) (hc : ∀ k, ¬ k = i → ∀ z, zz_cell fk cI cJ A h' k z = zz_cell fk cI cJ A h k z) :
    (zz_w fk cI cJ A h).set (i - 5) (a, zz_cell fk cI cJ A h' i q) = zz_w fk cI cJ A h' := by
  have hl : i < h.1.length := (List.getElem?_eq_some_iff.mp hq).1
  apply List.ext_getElem?
  intro k
  by_cases hk : k = i - 5
  · subst hk
    rw [List.getElem?_set_self (by rw [zz_w_len]; omega)]
    exact (zz_w_at h5 (by rw [hs]; exact hq) ha).symm
  · rw [List.getElem?_set_ne (fun z => hk z.symm)]
    unfold zz_w
    rw [List.getElem?_map, List.getElem?_map, hs]
    cases hr : (List.range (h.1.length - 5))[k]? with
    | none => rfl
    | some z =>
      have hz : k = z := by
        have h1 := List.getElem?_range (i := k) (n := h.1.length - 5) (by
          have := (List.getElem?_eq_some_iff.mp hr).1
          simpa using this)
        rw [hr] at h1
        exact (Option.some.inj h1).symm
      subst hz
      simp only [Option.map_some]
      rw [hc (k + 5) (by omega)]
theorem zz_w_push {fk : List (List Nat)} {cI cJ : ClassId} {A : List Nat} {h h' : zz_H} {a : Nat} {q : Nat × Nat} (h5 : 5 ≤ h.1.length) (hA : A.length = h.1.length) (hs : h'.1 = h.1 ++ [q]) (hc : ∀ k, k < h.1.length → ∀ z, zz_cell fk cI cJ (A ++ [a]) h' k z = zz_cell fk cI cJ A h k z) :
    zz_w fk cI cJ (A ++ [a]) h' = zz_w fk cI cJ A h ++ [(a, zz_cell fk cI cJ (A ++ [a]) h' h.1.length q)] := by
  unfold zz_w
  rw [hs, List.length_append, List.length_singleton, show h.1.length + 1 - 5 = (h.1.length - 5) + 1 by omega, List.range_succ, List.map_append, List.map_singleton]
  congr 1
  · apply List.map_congr_left
    intro k hk
    have hk' : k < h.1.length - 5 := List.mem_range.mp hk
    rw [hc (k + 5) (by omega)]
    have e1 : (A ++ [a]).getD (k + 5) 0 = A.getD (k + 5) 0 := by
      rw [List.getD_eq_getElem?_getD, List.getD_eq_getElem?_getD, List.getElem?_append_left (by omega)]
    have e2 : (h.1 ++ [q]).getD (k + 5) (9, 0) = h.1.getD (k + 5) (9, 0) := by
      rw [List.getD_eq_getElem?_getD, List.getD_eq_getElem?_getD, List.getElem?_append_left (by omega)]
    rw [e1, e2]
  · have e1 : (A ++ [a]).getD (h.1.length - 5 + 5) 0 = a := by
      rw [Nat.sub_add_cancel h5, List.getD_eq_getElem?_getD, ← hA, List.getElem?_concat_length]
      rfl
    have e2 : (h.1 ++ [q]).getD (h.1.length - 5 + 5) (9, 0) = q := by
      rw [Nat.sub_add_cancel h5, List.getD_eq_getElem?_getD, List.getElem?_concat_length]
      rfl
    rw [e1, e2, Nat.sub_add_cancel h5]
theorem zz_tr_app {A : List Nat} {a : Nat} {v : Value} (h : ∀ j, v = .ref j → j < A.length) : zz_tr (A ++ [a]) v = zz_tr A v := by
  cases v with
  | ref j =>
    simp only [zz_tr, List.getD_eq_getElem?_getD]
    rw [List.getElem?_append_left (h j rfl)]
  | _ => rfl
theorem zz_VR_app {A B : List Nat} {v w : Value} (h : zz_VR A v w) : zz_VR (A ++ B) v w := by
  cases v with
  | ref i =>
    obtain ⟨a, ha, rfl⟩ := h
    exact ⟨a, by rw [List.getElem?_append_left (List.getElem?_eq_some_iff.mp ha).1]; exact ha, rfl⟩
  | _ => exact h
theorem zz_SR_app {A B : List Nat} : ∀ {st t : List Value}, zz_SR A st t → zz_SR (A ++ B) st t
  | [], _, h => h
  | _ :: _, _, h => by
    obtain ⟨w, r2, h1, h2, h3⟩ := h
    exact ⟨w, r2, h1, zz_VR_app h2, zz_SR_app h3⟩
theorem zz_LR_app {A B : List Nat} {nL : Nat} {L : List (Option Value)} {ls : Array Slot} (h : zz_LR A nL L ls) : zz_LR (A ++ B) nL L ls :=
  ⟨h.1, h.2.1, h.2.2.1, fun i v hv => by
    obtain ⟨w, h1, h2⟩ := h.2.2.2 i v hv
    exact ⟨w, h1, zz_VR_app h2⟩⟩
theorem zz_HR_at {s0 : State} {D : va_G} {cl : List vw_C} {fk : List (List Nat)} {cI cJ : ClassId} {A : List Nat} {h : zz_H} {H : Heap} {locs : List Loc} (hR : zz_HR s0 D cl fk cI cJ A h H locs) {i a : Nat} {q : Nat × Nat} (hq : h.1[i]? = some q) (h2 : ¬ q.1 = 2) (ha : A[i]? = some a) :
    5 ≤ i ∧ (zz_w fk cI cJ A h)[i - 5]? = some (a, zz_cell fk cI cJ A h i q) := by
  have h5 : 5 ≤ i := by
    rcases Nat.lt_or_ge i 5 with hl | hl
    · obtain ⟨n, a', e1, -⟩ := hR.2.2.2.2.2.2.1 i hl
      rw [hq] at e1
      cases e1
      exact absurd rfl h2
    · exact hl
  exact ⟨h5, zz_w_at h5 hq ha⟩
theorem zz_HR_set {s0 : State} {D : va_G} {cl : List vw_C} {fk : List (List Nat)} {cI cJ : ClassId} {A : List Nat} {h h' : zz_H} {H H1 : Heap} {locs locs1 : List Loc} (hR : zz_HR s0 D cl fk cI cJ A h H locs) {i a : Nat} {q : Nat × Nat} (h5 : 5 ≤ i) (hq : h.1[i]? = some q) (ha : A[i]? = some a)
    (hs : h'.1 = h.1) (hwf : zz_wf h') (hI : ∀ k, ¬ k = i → h'.2.1 k = h.2.1 k) (hc : ∀ k, ¬ k = i → ∀ z, zz_cell fk cI cJ A h' k z = zz_cell fk cI cJ A h k z)
    (hP : va_P D cl ((zz_w fk cI cJ A h).set (i - 5) (a, zz_cell fk cI cJ A h' i q)) H1) (hD : va_D (zz_Ab s0) ((zz_w fk cI cJ A h).set (i - 5) (a, zz_cell fk cI cJ A h' i q))) (hS : va_S (zz_Ab s0) s0.heap H1 locs1) : zz_HR s0 D cl fk cI cJ A h' H1 locs1 := by
  rw [zz_w_set h5 hq ha hs hc] at hP hD
  refine ⟨by rw [hs]; exact hR.1, by rw [hs]; exact hR.2.1, hwf, hP, hD, hS, fun k hk => ?_, fun k z hk hz => hR.2.2.2.2.2.2.2 k z hk (by rw [← hs]; exact hz)⟩
  obtain ⟨n, a', e1, e2, e3, e4⟩ := hR.2.2.2.2.2.2.1 k hk
  exact ⟨n, a', by rw [hs]; exact e1, e2, e3, by rw [hI k (by omega)]; exact e4.1, e4.2⟩
theorem zz_HR_push {s0 : State} {D : va_G} {cl : List vw_C} {fk : List (List Nat)} {cI cJ : ClassId} {A : List Nat} {h h' : zz_H} {H H1 : Heap} {locs locs1 : List Loc} (hR : zz_HR s0 D cl fk cI cJ A h H locs) {a : Nat} {q : Nat × Nat} (hq : ¬ q.1 = 2)
    (hs : h'.1 = h.1 ++ [q]) (hwf : zz_wf h') (hI : ∀ k, k < h.1.length → h'.2.1 k = h.2.1 k) (hJ : ∀ k, k < h.1.length → h'.2.2.1 k = h.2.2.1 k) (hPf : ∀ k, k < h.1.length → h'.2.2.2 k = h.2.2.2 k)
    (hP : va_P D cl (zz_w fk cI cJ A h ++ [(a, zz_cell fk cI cJ (A ++ [a]) h' h.1.length q)]) H1) (hD : va_D (zz_Ab s0) (zz_w fk cI cJ A h ++ [(a, zz_cell fk cI cJ (A ++ [a]) h' h.1.length q)])) (hS : va_S (zz_Ab s0) s0.heap H1 locs1) : zz_HR s0 D cl fk cI cJ (A ++ [a]) h' H1 locs1 := by
  have hA := hR.1
  have h5 := hR.2.1
  have hw := zz_w_push (fk := fk) (cI := cI) (cJ := cJ) (A := A) (h := h) (h' := h') (a := a) (q := q) h5 hA hs (fun k hk z => zz_cell_congr (hI k hk) (hJ k hk) (fun f => by
    rw [hPf k hk]
    exact zz_tr_app (fun j hj => by rw [hA]; exact hR.2.2.1 k f j hj)))
  refine ⟨by rw [hs]; simp [hA], by rw [hs]; simp; omega, hwf, by rw [hw]; exact hP, by rw [hw]; exact hD, hS, fun k hk => ?_, fun k z hk hz => ?_⟩
  · obtain ⟨n, a', e1, e2, e3, e4⟩ := hR.2.2.2.2.2.2.1 k hk
    exact ⟨n, a', by rw [hs, List.getElem?_append_left (by omega)]; exact e1, by rw [List.getElem?_append_left (by omega)]; exact e2, e3, by rw [hI k (by omega)]; exact e4.1, e4.2⟩
  · rw [hs] at hz
    by_cases hkl : k < h.1.length
    · rw [List.getElem?_append_left hkl] at hz
      exact hR.2.2.2.2.2.2.2 k z hk hz
    · have hkl' : k < (h.1 ++ [q]).length := (List.getElem?_eq_some_iff.mp hz).1
      simp at hkl'
      have : k = h.1.length := by omega
      subst this
      rw [List.getElem?_concat_length] at hz
      cases hz
      exact hq
