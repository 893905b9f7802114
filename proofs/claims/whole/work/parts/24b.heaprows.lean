section ZM
variable {p : Program} {l : Launch} {e : Env} {R : Room} {s : State} {m : MethodId} {args : Array Value} {below : List Frame} {meth : Method} {c : Code} {H : Heap} {locs : List Loc} {cells slots : Nat} {Q : State → Prop}
variable {cc : ByteArray} {pc : Nat} {ls : Array Slot} {rest : List Value} {A : List Nat} {s0 : State} {D : va_G} {cl : List vw_C} {fk : List (List Nat)} {cI cJ : ClassId} {h : zz_H} {i a : Nat}
theorem zz_all_self {α : Type} {f : Nat → Nat → α} {i : Nat} {x : α} : zz_all f i x i = fun _ => x := by
  funext b
  simp [zz_all]
theorem zz_all_ne {α : Type} {f : Nat → Nat → α} {i k : Nat} {x : α} (h : ¬ k = i) : zz_all f i x k = f k := by
  funext b
  simp [zz_all, h]
theorem zz_wf_app {h' : zz_H} {q : Nat × Nat} (hw : zz_wf h) (hs : h'.1 = h.1 ++ [q]) (hp : ∀ i f j : Nat, h'.2.2.2 i f = .ref j → h.2.2.2 i f = .ref j) : zz_wf h' := by
  intro i f j hj
  have := hw i f j (hp i f j hj)
  rw [hs, List.length_append, List.length_singleton]
  omega
theorem zz_r_newi (hexec : p.tables.exec = Jvm.exec) (hb : c.code = cc) (harr : (Cond.arrayClass .int).before args s = true) {tys : List (ClassId × FieldType)} (hK : va_K D cl ((cI, .int) :: tys) s) (hR : zz_HR s0 D cl fk cI cJ A h H locs) {n : Int32} (hn : 0 ≤ n) (hn4 : n.toNatClampNeg ≤ 4096) (hcells : cells + 1 ≤ R.cells) (hslots : slots + n.toNatClampNeg ≤ R.slots)
    (hdg : decode cc pc = .ok (.newarray .int, 2)) (kk : ∀ (a : Nat) (H1 : Heap), zz_HR s0 D cl fk cI cJ (A ++ [a]) (h.1 ++ [(1, n.toNatClampNeg)], zz_all h.2.1 h.1.length 0, h.2.2.1, h.2.2.2) H1 locs → W p l e R s m args below meth c H1 locs (cells + 1) (slots + n.toNatClampNeg) Q (F0 m (pc + 2) ls (.ref a :: rest))) :
    W p l e R s m args below meth c H locs cells slots Q (F0 m pc ls (.int n :: rest)) := by
  refine va_newa (ty := .int) (a0 := (n.toNatClampNeg, .inl (fun _ => 0))) hexec hb (atype := .int) harr rfl hK hR.2.2.2.1 hR.2.2.2.2.1 hR.2.2.2.2.2.1 (fun q hq => hq) (fun _ => rfl) (fun z => absurd hn (Int32.not_le.mpr z)) rfl (by show _ * 4 ≤ _; omega) hcells hslots hdg fun q cA H1 hK1 hP hD hS => kk q H1 ?_
  have e1 : cA = cI := by
    have h1 := (hK.2 0 (cI, .int) rfl).2
    have h2 := (hK1.2 ((cI, .int) :: tys : List (ClassId × FieldType)).length (cA, .int) (by rw [List.getElem?_concat_length])).2
    exact Option.some.inj (h2.symm.trans h1)
  subst e1
  refine zz_HR_push hR (by simp) rfl (zz_wf_app hR.2.2.1 rfl (fun _ _ _ z => z)) (fun k hk => zz_all_ne (by omega)) (fun _ _ => rfl) (fun _ _ => rfl) ?_ ?_ hS
  · show va_P D cl (zz_w fk cA cJ A h ++ [(q, .inl (cA, n.toNatClampNeg, .inl (zz_all h.2.1 h.1.length 0 h.1.length)))]) H1
    rw [zz_all_self]
    exact hP
  · show va_D (zz_Ab s0) (zz_w fk cA cJ A h ++ [(q, .inl (cA, n.toNatClampNeg, .inl (zz_all h.2.1 h.1.length 0 h.1.length)))])
    rw [zz_all_self]
    exact hD
theorem zz_r_newl (hexec : p.tables.exec = Jvm.exec) (hb : c.code = cc) (harr : (Cond.arrayClass .long).before args s = true) {y : ClassId × FieldType} {tys : List (ClassId × FieldType)} (hK : va_K D cl (y :: (cJ, .long) :: tys) s) (hR : zz_HR s0 D cl fk cI cJ A h H locs) {n : Int32} (hn : 0 ≤ n) (hn4 : n.toNatClampNeg ≤ 4096) (hcells : cells + 1 ≤ R.cells) (hslots : slots + n.toNatClampNeg ≤ R.slots)
    (hdg : decode cc pc = .ok (.newarray .long, 2)) (kk : ∀ (a : Nat) (H1 : Heap), zz_HR s0 D cl fk cI cJ (A ++ [a]) (h.1 ++ [(3, n.toNatClampNeg)], h.2.1, zz_all h.2.2.1 h.1.length 0, h.2.2.2) H1 locs → W p l e R s m args below meth c H1 locs (cells + 1) (slots + n.toNatClampNeg) Q (F0 m (pc + 2) ls (.ref a :: rest))) :
    W p l e R s m args below meth c H locs cells slots Q (F0 m pc ls (.int n :: rest)) := by
  refine va_newa (ty := .long) (a0 := (n.toNatClampNeg, .inr (.inl (fun _ => 0)))) hexec hb (atype := .long) harr rfl hK hR.2.2.2.1 hR.2.2.2.2.1 hR.2.2.2.2.2.1 (fun q hq => hq) (fun _ => rfl) (fun z => absurd hn (Int32.not_le.mpr z)) rfl (by show _ * 8 ≤ _; omega) hcells hslots hdg fun q cA H1 hK1 hP hD hS => kk q H1 ?_
  have e1 : cA = cJ := by
    have h1 := (hK.2 1 (cJ, .long) rfl).2
    have h2 := (hK1.2 (y :: (cJ, .long) :: tys : List (ClassId × FieldType)).length (cA, .long) (by rw [List.getElem?_concat_length])).2
    exact Option.some.inj (h2.symm.trans h1)
  subst e1
  refine zz_HR_push hR (by simp) rfl (zz_wf_app hR.2.2.1 rfl (fun _ _ _ z => z)) (fun _ _ => rfl) (fun k hk => zz_all_ne (by omega)) (fun _ _ => rfl) ?_ ?_ hS
  · show va_P D cl (zz_w fk cI cA A h ++ [(q, .inl (cA, n.toNatClampNeg, .inr (.inl (zz_all h.2.2.1 h.1.length 0 h.1.length))))]) H1
    rw [zz_all_self]
    exact hP
  · show va_D (zz_Ab s0) (zz_w fk cI cA A h ++ [(q, .inl (cA, n.toNatClampNeg, .inr (.inl (zz_all h.2.2.1 h.1.length 0 h.1.length))))])
    rw [zz_all_self]
    exact hD
def zz_dv (t : Nat) : Value := match t with
  | 2 => .long 0
  | 3 => .null
  | _ => .int 0
theorem zz_fv_o {f t : Nat} {h' : zz_H} (a : ¬ t = 2) (b : ¬ t = 3) : zz_fv h' i f t = .int (h'.2.1 i f) := by
  unfold zz_fv
  split
  · exact absurd rfl a
  · exact absurd rfl b
  · rfl
theorem zz_dv_o {t : Nat} (a : ¬ t = 2) (b : ¬ t = 3) : zz_dv t = .int 0 := by
  unfold zz_dv
  split
  · exact absurd rfl a
  · exact absurd rfl b
  · rfl
theorem zz_fv_new {f t : Nat} {h' : zz_H} (h1 : h'.2.1 i = fun _ => 0) (h2 : h'.2.2.1 i = fun _ => 0) (h3 : h'.2.2.2 i = fun _ => .null) : zz_fv h' i f t = zz_dv t := by
  by_cases a : t = 2
  · subst a
    show Value.long (h'.2.2.1 i f) = .long 0
    rw [h2]
  · by_cases b : t = 3
    · subst b
      show h'.2.2.2 i f = .null
      rw [h3]
    · rw [zz_fv_o a b, zz_dv_o a b, h1]
theorem zz_tr_dv {B : List Nat} {t : Nat} : zz_tr B (zz_dv t) = zz_dv t := by
  by_cases a : t = 2
  · subst a; rfl
  · by_cases b : t = 3
    · subst b; rfl
    · rw [zz_dv_o a b]; rfl
theorem zz_fs_new {ci : Nat} {B : List Nat} {h' : zz_H} (h1 : h'.2.1 i = fun _ => 0) (h2 : h'.2.2.1 i = fun _ => 0) (h3 : h'.2.2.2 i = fun _ => .null) : zz_fs fk B h' i ci = (fk.getD ci []).map zz_dv := by
  apply List.ext_getElem?
  intro k
  unfold zz_fs
  rw [List.getElem?_map, List.getElem?_map]
  by_cases hk : k < (fk.getD ci []).length
  · rw [List.getElem?_range hk, List.getElem?_eq_getElem hk, Option.map_some, Option.map_some, zz_fv_new h1 h2 h3, List.getD_eq_getElem?_getD (l := fk.getD ci []), List.getElem?_eq_getElem hk]
    exact congrArg some zz_tr_dv
  · rw [List.getElem?_eq_none (by simp only [List.length_range]; omega), List.getElem?_eq_none (by omega)]
    rfl
theorem zz_r_new (hexec : p.tables.exec = Jvm.exec) (hb : c.code = cc) {own C : String} {T : u_T} {N ci index : Nat} {Ts : List Cond} {tys : List (ClassId × FieldType)} (ty0 : Nat → FieldType) (hts : ∀ w ∈ Ts, w.before args s = true) (hin : ∀ w ∈ u_ws C T N, w ∈ Ts) (hty : ∀ k, k < N → parseFieldDescriptor (T k).2.2.1 = some (ty0 k))
    (hown : s.vm.findClass own = some m.cls) (hlk : (Cond.classLink own index C).before args s = true) (hins : (Cond.instantiable C N).before args s = true) (hini : (Cond.initialized C).before args s = true) (hK : va_K D cl tys s) (hR : zz_HR s0 D cl fk cI cJ A h H locs) (hc : cl[ci]? = some (C, T, N)) (hfk : (fk.getD ci []).length = N)
    (hdef : ∀ j, j < N → defaultValue (ty0 j) = zz_dv ((fk.getD ci []).getD j 0)) (hcells : cells + 1 ≤ R.cells) (hslots : slots + N ≤ R.slots) (hdg : decode cc pc = .ok (.new index, 3))
    (kk : ∀ (a : Nat) (H1 : Heap), zz_HR s0 D cl fk cI cJ (A ++ [a]) (h.1 ++ [(0, ci)], zz_all h.2.1 h.1.length 0, zz_all h.2.2.1 h.1.length 0, zz_all h.2.2.2 h.1.length .null) H1 locs → W p l e R s m args below meth c H1 locs (cells + 1) (slots + N) Q (F0 m (pc + 3) ls (.ref a :: rest))) :
    W p l e R s m args below meth c H locs cells slots Q (F0 m pc ls rest) := by
  refine va_new (ci := ci) (fs := (fk.getD ci []).map zz_dv) hexec hb hts hin ty0 hty hown hlk hins hini hK hR.2.2.2.1 hR.2.2.2.2.1 hR.2.2.2.2.2.1 (fun q hq => hq) hc (fun j hj => ?_) hcells hslots hdg fun q H1 hP hD hS => kk q H1 ?_
  · rw [hdef j hj]
    have hj' : j < (fk.getD ci []).length := by omega
    generalize fk.getD ci [] = ks at hj' ⊢
    unfold vp_V
    rw [List.getD_eq_getElem?_getD, List.getD_eq_getElem?_getD, List.getElem?_map, List.getElem?_eq_getElem hj']
    rfl
  · have e0 : zz_fs fk (A ++ [q]) (h.1 ++ [(0, ci)], zz_all h.2.1 h.1.length 0, zz_all h.2.2.1 h.1.length 0, zz_all h.2.2.2 h.1.length .null) h.1.length ci = (fk.getD ci []).map zz_dv := zz_fs_new zz_all_self zz_all_self zz_all_self
    refine zz_HR_push hR (by simp) rfl (zz_wf_app hR.2.2.1 rfl (fun x f j z => ?_)) (fun k hk => zz_all_ne (by omega)) (fun k hk => zz_all_ne (by omega)) (fun k hk => zz_all_ne (by omega)) ?_ ?_ hS
    · by_cases hx : x = h.1.length
      · subst hx
        have z' : (zz_all h.2.2.2 h.1.length Value.null h.1.length) f = Value.ref j := z
        rw [zz_all_self] at z'
        cases z'
      · have z' : (zz_all h.2.2.2 h.1.length Value.null x) f = Value.ref j := z
        rw [zz_all_ne hx] at z'
        exact z'
    · show va_P D cl (zz_w fk cI cJ A h ++ [(q, .inr (ci, zz_fs fk (A ++ [q]) (h.1 ++ [(0, ci)], zz_all h.2.1 h.1.length 0, zz_all h.2.2.1 h.1.length 0, zz_all h.2.2.2 h.1.length .null) h.1.length ci))]) H1
      rw [e0]
      exact hP
    · show va_D (zz_Ab s0) (zz_w fk cI cJ A h ++ [(q, .inr (ci, zz_fs fk (A ++ [q]) (h.1 ++ [(0, ci)], zz_all h.2.1 h.1.length 0, zz_all h.2.2.1 h.1.length 0, zz_all h.2.2.2 h.1.length .null) h.1.length ci))])
      rw [e0]
      exact hD
theorem zz_r_gets (hexec : p.tables.exec = Jvm.exec) (hb : c.code = cc) (hal : s0.vm.Alike s.vm) (hR : zz_HR s0 D cl fk cI cJ A h H locs) {nm own : String} {index : Nat} (h5 : i < 5) (hsf : zz_sf i = some nm) (hown : s.vm.findClass own = some m.cls) (hlink : (Cond.fieldLink own index "HexIsland" nm "[I").before args s = true) (ha : A[i]? = some a)
    (hdg : decode cc pc = .ok (.getstatic index, 3)) (kk : W p l e R s m args below meth c H locs cells slots Q (F0 m (pc + 3) ls (.ref a :: rest))) : W p l e R s m args below meth c H locs cells slots Q (F0 m pc ls rest) := by
  obtain ⟨n', a', e1, e2, e3, e4, e5⟩ := hR.2.2.2.2.2.2.1 i h5
  rw [ha] at e2
  cases e2
  obtain ⟨cf, kf, fi, f, aa, cell, g1, g2, g3, g4, g5, g6, g7, g8⟩ := (e5 nm hsf).moved hal
  exact W.gets hexec hb hown hlink g1 g2 g3 g4 (by rw [hR.2.2.2.2.2.1.2.1 aa (Array.getElem?_eq_some_iff.mp g5).1 g8]; exact g5) (fun z => by rw [z] at g6; cases g6) g7 rfl hdg kk
theorem zz_P_cell {ws : va_W} {k0 q : Nat} {cA : ClassId} {x y : vp_A} (hk : k0 < ws.length) (he : vp_cell cA x = vp_cell cA y) (hP : va_P D cl (ws.set k0 (q, .inl (cA, x))) H) : va_P D cl (ws.set k0 (q, .inl (cA, y))) H := by
  intro k z hz
  by_cases hkk : k = k0
  · subst hkk
    rw [List.getElem?_set_self hk] at hz
    cases hz
    have h1 := hP k (q, .inl (cA, x)) (List.getElem?_set_self hk)
    show H[q]? = some (vp_cell cA y)
    rw [← he]
    exact h1
  · rw [List.getElem?_set_ne (fun w => hkk w.symm)] at hz
    exact hP k z (by rw [List.getElem?_set_ne (fun w => hkk w.symm)]; exact hz)
theorem zz_cpy_cell {cA : ClassId} {n : Nat} {f g : Nat → Int32} : vp_cell cA (n, .inl (va_cpy f g 0 0 n)) = vp_cell cA (n, .inl f) := by
  rw [vp_cell_i, vp_cell_i]
  unfold arrV
  congr 2
  funext k
  have hk := k.isLt
  simp [va_cpy]
theorem zz_cpy_ne {f : Nat → Nat → Int32} {i j k : Nat} (h : ¬ k = j) : zz_cpy f i j k = f k := by
  funext b
  simp [zz_cpy, h]
theorem zz_cpy_self {f : Nat → Nat → Int32} {i j : Nat} : zz_cpy f i j j = f i := by
  funext b
  simp [zz_cpy]
theorem zz_r_copy (hexec : p.tables.exec = Jvm.exec) (hb : c.code = cc) (hml : c.maxLocals = ls.size) {own : String} {index : Nat} (hown : s.vm.findClass own = some m.cls) (hlink : (Cond.methodLink own index arraycopyName).before args s = true) (hnat : (Cond.native arraycopyName).before args s = true) (hstat : (Cond.static arraycopyName).before args s = true) (hini : (Cond.initialized "java/lang/System").before args s = true)
    {tys : List (ClassId × FieldType)} (hK : va_K D cl ((cI, .int) :: tys) s) (hR : zz_HR s0 D cl fk cI cJ A h H locs) {j b n : Nat} (hq : h.1[i]? = some (1, n)) (ha : A[i]? = some a) (hq2 : h.1[j]? = some (1, n)) (hb2 : A[j]? = some b) (hn4 : n ≤ 4096)
    (hframes : 1 ≤ R.frames) (hlocals : (rest.map fun v => v.category).sum + (nativeFrameWords "java/lang/System" "arraycopy" 5 + 11) ≤ R.locals) (hdg : decode cc pc = .ok (.invokestatic index, 3))
    (kk : ∀ (H1 : Heap) (locs1 : List Loc), zz_HR s0 D cl fk cI cJ A (h.1, zz_cpy h.2.1 i j, h.2.2.1, h.2.2.2) H1 locs1 → W p l e R s m args below meth c H1 locs1 cells slots Q (F0 m (pc + 3) ls rest)) :
    W p l e R s m args below meth c H locs cells slots Q (F0 m pc ls (.int (Int32.ofNat n) :: .int 0 :: .ref b :: .int 0 :: .ref a :: rest)) := by
  obtain ⟨h5, hat⟩ := zz_HR_at hR hq (by simp) ha
  obtain ⟨h6, hat2⟩ := zz_HR_at hR hq2 (by simp) hb2
  have hnn : (Int32.ofNat n).toNatClampNeg = n := by
    show (nI n).toInt.toNat = n
    rw [nI_toInt (by omega)]
    omega
  have hz : ((0 : Int32).toNatClampNeg) = 0 := by decide
  refine va_copyi hexec hb hml hown hlink hnat hstat hini hK hR.2.2.2.1 hR.2.2.2.2.1 hR.2.2.2.2.2.1 (i - 5) (j - 5) 0 0 hat hat2 rfl rfl rfl (by decide) (by decide) ?_ (by rw [hz, hnn]; show 0 + n ≤ n; omega) (by rw [hz, hnn]; show 0 + n ≤ n; omega) (fun _ _ => rfl) hframes hlocals hdg fun H1 locs1 hP hD hS => kk H1 locs1 ?_
  · intro q
    have := Int32.lt_iff_toInt_lt.mp q
    have h2 : (Int32.ofNat n).toInt = (n : Int) := nI_toInt (n := n) (by omega)
    rw [h2] at this
    simp at this
    omega
  · rw [hz, hnn] at hP hD
    have hlen : j - 5 < (zz_w fk cI cJ A h).length := (List.getElem?_eq_some_iff.mp hat2).1
    have e1 : (Sum.inl (cI, n, Sum.inl (h.2.1 i)) : va_E) = zz_cell fk cI cJ A (h.1, zz_cpy h.2.1 i j, h.2.2.1, h.2.2.2) j (1, n) := by
      show (Sum.inl (cI, n, Sum.inl (h.2.1 i)) : va_E) = Sum.inl (cI, n, Sum.inl (zz_cpy h.2.1 i j j))
      rw [zz_cpy_self]
    refine zz_HR_set hR h6 hq2 hb2 rfl hR.2.2.1 (fun k hk => zz_cpy_ne hk) (fun k hk z => zz_cell_congr (zz_cpy_ne hk) rfl (fun _ => rfl)) ?_ (hR.2.2.2.2.1.set hat2) hS
    rw [← e1]
    exact zz_P_cell hlen zz_cpy_cell hP
end ZM
