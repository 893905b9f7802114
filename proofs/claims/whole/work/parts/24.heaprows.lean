section ZH
variable {p : Program} {l : Launch} {e : Env} {R : Room} {s : State} {m : MethodId} {args : Array Value} {below : List Frame} {meth : Method} {c : Code} {H : Heap} {locs : List Loc} {cells slots : Nat} {Q : State → Prop}
variable {cc : ByteArray} {pc : Nat} {ls : Array Slot} {rest : List Value} {A : List Nat} {s0 : State} {D : va_G} {cl : List vw_C} {fk : List (List Nat)} {cI cJ : ClassId} {h : zz_H} {i a : Nat}
theorem zz_in_vp {j : Int32} {n : Nat} (h : zz_in j n = true) : vp_in j n := by
  simp only [zz_in, Bool.and_eq_true, decide_eq_true_eq] at h
  rintro (h1 | h1)
  · exact absurd h.1 (Int32.not_le.mpr h1)
  · omega
theorem zz_fs_at {ci f t N : Nat} (hfk : (fk.getD ci []).length = N) (hf : f < N) (ht : (fk.getD ci []).getD f 0 = t) : (zz_fs fk A h i ci)[f]? = some (zz_tr A (zz_fv h i f t)) := by
  unfold zz_fs
  rw [List.getElem?_map, List.getElem?_range (by omega), Option.map_some, ht]
theorem zz_fv_ref {f t j : Nat} (hw : zz_wf h) (hv : zz_fv h i f t = .ref j) : j < h.1.length := by
  unfold zz_fv at hv
  split at hv
  · cases hv
  · exact hw _ _ _ hv
  · cases hv
theorem zz_r_get (hexec : p.tables.exec = Jvm.exec) (hb : c.code = cc) {own C : String} {T : u_T} {N ci index f t : Nat} {Ts : List Cond} {tys : List (ClassId × FieldType)} (hts : ∀ w ∈ Ts, w.before args s = true) (hin : ∀ w ∈ u_ws C T N, w ∈ Ts) (hown : s.vm.findClass own = some m.cls) (hK : va_K D cl tys s)
    (hR : zz_HR s0 D cl fk cI cJ A h H locs) (hq : h.1[i]? = some (0, ci)) (ha : A[i]? = some a) (hc : cl[ci]? = some (C, T, N)) (hfk : (fk.getD ci []).length = N) (hf : f < N) (ht : (fk.getD ci []).getD f 0 = t) (hlink : (Cond.fieldLink own index C (T f).2.1 (T f).2.2.1).before args s = true) (hdecl : (T f).1 = C)
    (hdg : decode cc pc = .ok (.getfield index, 3)) (kk : ∀ w, zz_VR A (zz_fv h i f t) w → W p l e R s m args below meth c H locs cells slots Q (F0 m (pc + 3) ls (w :: rest))) : W p l e R s m args below meth c H locs cells slots Q (F0 m pc ls (.ref a :: rest)) := by
  obtain ⟨h5, hat⟩ := zz_HR_at hR hq (by simp) ha
  refine va_get hexec hb hts hin hown hK hR.2.2.2.1 (i - 5) hat hc f hf hlink (fun x hx => by rw [hdecl] at hx; exact hx) (zz_fs_at hfk hf ht) hdg (kk _ (zz_tr_VR (fun j hj => ?_)))
  rw [hR.1]
  exact zz_fv_ref hR.2.2.1 hj
theorem zz_r_ild1 (hexec : p.tables.exec = Jvm.exec) (hb : c.code = cc) {n : Nat} {j : Int32} {tys : List (ClassId × FieldType)} (hK : va_K D cl ((cI, .int) :: tys) s) (hR : zz_HR s0 D cl fk cI cJ A h H locs) (hq : h.1[i]? = some (1, n)) (ha : A[i]? = some a) (hj : zz_in j n = true)
    (hdg : decode cc pc = .ok (.iaload, 1)) (kk : W p l e R s m args below meth c H locs cells slots Q (F0 m (pc + 1) ls (.int (h.2.1 i j.toNatClampNeg) :: rest))) : W p l e R s m args below meth c H locs cells slots Q (F0 m pc ls (.int j :: .ref a :: rest)) := by
  obtain ⟨h5, hat⟩ := zz_HR_at hR hq (by simp) ha
  exact va_iald hexec hb hK hR.2.2.2.1 (i - 5) 0 hat rfl (zz_in_vp hj) hdg kk
theorem zz_r_ild2 (hexec : p.tables.exec = Jvm.exec) (hb : c.code = cc) {n : Nat} {j : Int32} (hal : s0.vm.Alike s.vm) (hR : zz_HR s0 D cl fk cI cJ A h H locs) (hq : h.1[i]? = some (2, n)) (ha : A[i]? = some a) (hj : zz_in j n = true)
    (hdg : decode cc pc = .ok (.iaload, 1)) (kk : W p l e R s m args below meth c H locs cells slots Q (F0 m (pc + 1) ls (.int (h.2.1 i j.toNatClampNeg) :: rest))) : W p l e R s m args below meth c H locs cells slots Q (F0 m pc ls (.int j :: .ref a :: rest)) := by
  have h5 : i < 5 := by
    rcases Nat.lt_or_ge i 5 with hl | hl
    · exact hl
    · exact absurd rfl (hR.2.2.2.2.2.2.2 i _ hl hq)
  obtain ⟨n', a', e1, e2, e3, e4⟩ := hR.2.2.2.2.2.2.1 i h5
  rw [hq] at e1
  cases e1
  rw [ha] at e2
  cases e2
  exact va_sld hexec hb (e4.1.moved hal) e3 (fun z => absurd z (Nat.not_le.mpr e3)) hR.2.2.2.2.2.1 (zz_in_vp hj) hdg kk
theorem zz_r_len2 (hexec : p.tables.exec = Jvm.exec) (hb : c.code = cc) {n : Nat} (hal : s0.vm.Alike s.vm) (hR : zz_HR s0 D cl fk cI cJ A h H locs) (hq : h.1[i]? = some (2, n)) (ha : A[i]? = some a)
    (hdg : decode cc pc = .ok (.arraylength, 1)) (kk : W p l e R s m args below meth c H locs cells slots Q (F0 m (pc + 1) ls (.int (Int32.ofNat n) :: rest))) : W p l e R s m args below meth c H locs cells slots Q (F0 m pc ls (.ref a :: rest)) := by
  have h5 : i < 5 := by
    rcases Nat.lt_or_ge i 5 with hl | hl
    · exact hl
    · exact absurd rfl (hR.2.2.2.2.2.2.2 i _ hl hq)
  obtain ⟨n', a', e1, e2, e3, e4⟩ := hR.2.2.2.2.2.2.1 i h5
  rw [hq] at e1
  cases e1
  rw [ha] at e2
  cases e2
  exact va_slen hexec hb (e4.1.moved hal) e3 (fun z => absurd z (Nat.not_le.mpr e3)) hR.2.2.2.2.2.1 hdg kk
theorem zz_r_len1 (hexec : p.tables.exec = Jvm.exec) (hb : c.code = cc) {n : Nat} {tys : List (ClassId × FieldType)} (hK : va_K D cl ((cI, .int) :: tys) s) (hR : zz_HR s0 D cl fk cI cJ A h H locs) (hq : h.1[i]? = some (1, n)) (ha : A[i]? = some a)
    (hdg : decode cc pc = .ok (.arraylength, 1)) (kk : W p l e R s m args below meth c H locs cells slots Q (F0 m (pc + 1) ls (.int (Int32.ofNat n) :: rest))) : W p l e R s m args below meth c H locs cells slots Q (F0 m pc ls (.ref a :: rest)) := by
  obtain ⟨h5, hat⟩ := zz_HR_at hR hq (by simp) ha
  exact va_alen hexec hb hK hR.2.2.2.1 (i - 5) 0 hat rfl rfl hdg kk
theorem zz_r_len3 (hexec : p.tables.exec = Jvm.exec) (hb : c.code = cc) {n : Nat} {x : ClassId × FieldType} {tys : List (ClassId × FieldType)} (hK : va_K D cl (x :: (cJ, .long) :: tys) s) (hR : zz_HR s0 D cl fk cI cJ A h H locs) (hq : h.1[i]? = some (3, n)) (ha : A[i]? = some a)
    (hdg : decode cc pc = .ok (.arraylength, 1)) (kk : W p l e R s m args below meth c H locs cells slots Q (F0 m (pc + 1) ls (.int (Int32.ofNat n) :: rest))) : W p l e R s m args below meth c H locs cells slots Q (F0 m pc ls (.ref a :: rest)) := by
  obtain ⟨h5, hat⟩ := zz_HR_at hR hq (by simp) ha
  exact va_alen hexec hb hK hR.2.2.2.1 (i - 5) 1 hat rfl rfl hdg kk
theorem zz_r_lld (hexec : p.tables.exec = Jvm.exec) (hb : c.code = cc) {n : Nat} {j : Int32} {x : ClassId × FieldType} {tys : List (ClassId × FieldType)} (hK : va_K D cl (x :: (cJ, .long) :: tys) s) (hR : zz_HR s0 D cl fk cI cJ A h H locs) (hq : h.1[i]? = some (3, n)) (ha : A[i]? = some a) (hj : zz_in j n = true)
    (hdg : decode cc pc = .ok (.laload, 1)) (kk : W p l e R s m args below meth c H locs cells slots Q (F0 m (pc + 1) ls (.long (h.2.2.1 i j.toNatClampNeg) :: rest))) : W p l e R s m args below meth c H locs cells slots Q (F0 m pc ls (.int j :: .ref a :: rest)) := by
  obtain ⟨h5, hat⟩ := zz_HR_at hR hq (by simp) ha
  exact va_lald hexec hb hK hR.2.2.2.1 (i - 5) 1 hat rfl (zz_in_vp hj) hdg kk
theorem zz_up_ne {α : Type} {f : Nat → Nat → α} {i j k : Nat} {x : α} (h : ¬ k = i) : zz_up f i j x k = f k := by
  funext b
  simp [zz_up, h]
theorem zz_r_ist (hexec : p.tables.exec = Jvm.exec) (hb : c.code = cc) {n : Nat} {j x : Int32} {tys : List (ClassId × FieldType)} (hK : va_K D cl ((cI, .int) :: tys) s) (hR : zz_HR s0 D cl fk cI cJ A h H locs) (hq : h.1[i]? = some (1, n)) (ha : A[i]? = some a) (hj : zz_in j n = true)
    (hdg : decode cc pc = .ok (.iastore, 1)) (kk : ∀ (H1 : Heap) (locs1 : List Loc), zz_HR s0 D cl fk cI cJ A (h.1, zz_up h.2.1 i j.toNatClampNeg x, h.2.2.1, h.2.2.2) H1 locs1 → W p l e R s m args below meth c H1 locs1 cells slots Q (F0 m (pc + 1) ls rest)) : W p l e R s m args below meth c H locs cells slots Q (F0 m pc ls (.int x :: .int j :: .ref a :: rest)) := by
  obtain ⟨h5, hat⟩ := zz_HR_at hR hq (by simp) ha
  refine va_iast hexec hb hK hR.2.2.2.1 hR.2.2.2.2.1 hR.2.2.2.2.2.1 (i - 5) 0 hat rfl (zz_in_vp hj) hdg fun H1 locs1 hP hD hS => kk H1 locs1 ?_
  have e1 : (Sum.inl (cI, n, Sum.inl (upd (h.2.1 i) j.toNatClampNeg x)) : va_E) = zz_cell fk cI cJ A (h.1, zz_up h.2.1 i j.toNatClampNeg x, h.2.2.1, h.2.2.2) i (1, n) := by
    show (Sum.inl (cI, n, Sum.inl (upd (h.2.1 i) j.toNatClampNeg x)) : va_E) = Sum.inl (cI, n, Sum.inl (zz_up h.2.1 i j.toNatClampNeg x i))
    congr 4
    funext b
    simp [zz_up, upd]
  exact zz_HR_set hR h5 hq ha rfl hR.2.2.1 (fun k hk => zz_up_ne hk) (fun k hk z => zz_cell_congr (zz_up_ne hk) rfl (fun _ => rfl)) (by rw [← e1]; exact hP) (by rw [← e1]; exact hD) hS
theorem zz_r_lst (hexec : p.tables.exec = Jvm.exec) (hb : c.code = cc) {n : Nat} {j : Int32} {x : Int64} {y : ClassId × FieldType} {tys : List (ClassId × FieldType)} (hK : va_K D cl (y :: (cJ, .long) :: tys) s) (hR : zz_HR s0 D cl fk cI cJ A h H locs) (hq : h.1[i]? = some (3, n)) (ha : A[i]? = some a) (hj : zz_in j n = true)
    (hdg : decode cc pc = .ok (.lastore, 1)) (kk : ∀ (H1 : Heap) (locs1 : List Loc), zz_HR s0 D cl fk cI cJ A (h.1, h.2.1, zz_up h.2.2.1 i j.toNatClampNeg x, h.2.2.2) H1 locs1 → W p l e R s m args below meth c H1 locs1 cells slots Q (F0 m (pc + 1) ls rest)) : W p l e R s m args below meth c H locs cells slots Q (F0 m pc ls (.long x :: .int j :: .ref a :: rest)) := by
  obtain ⟨h5, hat⟩ := zz_HR_at hR hq (by simp) ha
  refine va_last hexec hb hK hR.2.2.2.1 hR.2.2.2.2.1 hR.2.2.2.2.2.1 (i - 5) 1 hat rfl (zz_in_vp hj) hdg fun H1 locs1 hP hD hS => kk H1 locs1 ?_
  have e1 : (Sum.inl (cJ, n, Sum.inr (Sum.inl (vp_updL (h.2.2.1 i) j.toNatClampNeg x))) : va_E) = zz_cell fk cI cJ A (h.1, h.2.1, zz_up h.2.2.1 i j.toNatClampNeg x, h.2.2.2) i (3, n) := by
    show (Sum.inl (cJ, n, Sum.inr (Sum.inl (vp_updL (h.2.2.1 i) j.toNatClampNeg x))) : va_E) = Sum.inl (cJ, n, Sum.inr (Sum.inl (zz_up h.2.2.1 i j.toNatClampNeg x i)))
    congr 5
    funext b
    simp [zz_up, vp_updL]
  exact zz_HR_set hR h5 hq ha rfl hR.2.2.1 (fun k hk => rfl) (fun k hk z => zz_cell_congr rfl (zz_up_ne hk) (fun _ => rfl)) (by rw [← e1]; exact hP) (by rw [← e1]; exact hD) hS
theorem zz_fs_set {f ci N t : Nat} {v : Value} {h' : zz_H} (hfk : (fk.getD ci []).length = N) (hf : f < N) (ht : (fk.getD ci []).getD f 0 = t) (hv : zz_tr A (zz_fv h' i f t) = v) (ho : ∀ k, ¬ k = f → ∀ z, zz_fv h' i k z = zz_fv h i k z) : (zz_fs fk A h i ci).set f v = zz_fs fk A h' i ci := by
  apply List.ext_getElem?
  intro k
  have hl : (zz_fs fk A h i ci).length = N := by simp only [zz_fs, List.length_map, List.length_range, hfk]
  by_cases hk : k = f
  · subst hk
    rw [List.getElem?_set_self (by omega), zz_fs_at hfk hf ht, hv]
  · rw [List.getElem?_set_ne (fun z => hk z.symm)]
    by_cases hkl : k < N
    · rw [zz_fs_at hfk hkl rfl, zz_fs_at hfk hkl rfl, ho k hk]
    · rw [List.getElem?_eq_none (by omega), List.getElem?_eq_none (by simp only [zz_fs, List.length_map, List.length_range]; omega)]
theorem zz_r_put (hexec : p.tables.exec = Jvm.exec) (hb : c.code = cc) {own C : String} {T : u_T} {N ci index f t : Nat} {Ts : List Cond} {tys : List (ClassId × FieldType)} {h' : zz_H} {v w : Value} {ty : FieldType} (ty0 : Nat → FieldType) (hts : ∀ w ∈ Ts, w.before args s = true) (hin : ∀ w ∈ u_ws C T N, w ∈ Ts)
    (hty : ∀ k, k < N → parseFieldDescriptor (T k).2.2.1 = some (ty0 k)) (hnm : ∀ a, a < N → ∀ b, b < N → a ≠ b → (T a).2.1 ≠ (T b).2.1) (hown : s.vm.findClass own = some m.cls) (hK : va_K D cl tys s)
    (hR : zz_HR s0 D cl fk cI cJ A h H locs) (hq : h.1[i]? = some (0, ci)) (ha : A[i]? = some a) (hc : cl[ci]? = some (C, T, N)) (hfk : (fk.getD ci []).length = N) (hf : f < N) (ht : (fk.getD ci []).getD f 0 = t) (hlink : (Cond.fieldLink own index C (T f).2.1 (T f).2.2.1).before args s = true) (hdecl : (T f).1 = C)
    (hfin : (T f).2.2.2 = false ∨ ((T f).2.2.2 = true ∧ meth.name = "<init>" ∧ own = C)) (hd : parseFieldDescriptor (T f).2.2.1 = some ty) (hn : narrow ty w = w) (hfit : fits ty w = true)
    (hs : h'.1 = h.1) (hwf : zz_wf h') (hI : ∀ k, ¬ k = i → h'.2.1 k = h.2.1 k) (hJ : ∀ k, ¬ k = i → h'.2.2.1 k = h.2.2.1 k) (hPf : ∀ k, ¬ k = i → h'.2.2.2 k = h.2.2.2 k) (hv : zz_tr A (zz_fv h' i f t) = w) (ho : ∀ k, ¬ k = f → ∀ z, zz_fv h' i k z = zz_fv h i k z)
    (hdg : decode cc pc = .ok (.putfield index, 3)) (kk : ∀ (H1 : Heap) (locs1 : List Loc), zz_HR s0 D cl fk cI cJ A h' H1 locs1 → W p l e R s m args below meth c H1 locs1 cells slots Q (F0 m (pc + 3) ls rest)) : W p l e R s m args below meth c H locs cells slots Q (F0 m pc ls (w :: .ref a :: rest)) := by
  obtain ⟨h5, hat⟩ := zz_HR_at hR hq (by simp) ha
  have hl : f < (zz_fs fk A h i ci).length := by simp only [zz_fs, List.length_map, List.length_range]; omega
  have e1 : (Sum.inr (ci, (zz_fs fk A h i ci).set f w) : va_E) = zz_cell fk cI cJ A h' i (0, ci) := by
    show (Sum.inr (ci, (zz_fs fk A h i ci).set f w) : va_E) = Sum.inr (ci, zz_fs fk A h' i ci)
    rw [zz_fs_set hfk hf ht hv ho]
  have fin : ∀ (H1 : Heap) (locs1 : List Loc), va_P D cl ((zz_w fk cI cJ A h).set (i - 5) (a, .inr (ci, (zz_fs fk A h i ci).set f w))) H1 → va_D (zz_Ab s0) ((zz_w fk cI cJ A h).set (i - 5) (a, .inr (ci, (zz_fs fk A h i ci).set f w))) → va_S (zz_Ab s0) s0.heap H1 locs1 →
      W p l e R s m args below meth c H1 locs1 cells slots Q (F0 m (pc + 3) ls rest) := by
    intro H1 locs1 hP hD hS
    rw [e1] at hP hD
    exact kk H1 locs1 (zz_HR_set hR h5 hq ha hs hwf hI (fun k hk z => zz_cell_congr (hI k hk) (hJ k hk) (fun g => by rw [hPf k hk])) hP hD hS)
  rcases hfin with hfin | ⟨hfin, hname, hoc⟩
  · exact va_put hexec hb hts hin ty0 hty hnm hown hK hR.2.2.2.1 hR.2.2.2.2.1 hR.2.2.2.2.2.1 (i - 5) hat hc f hf hlink (fun x hx => by rw [hdecl] at hx; exact hx) hfin hd hn hfit hl hdg fin
  · exact va_putF hexec hb hts hin ty0 hty hnm hown hK hR.2.2.2.1 hR.2.2.2.2.1 hR.2.2.2.2.2.1 (i - 5) hat hc f hf hlink (fun x hx => by rw [hdecl] at hx; exact hx) hfin hname (by rw [hdecl, hoc]) hd hn hfit hl hdg fin
end ZH
