def zz_Ctx (s0 : State) (p : Program) (s : State) (m : MethodId) (args : Array Value) (meth : Method) (c : Code) (M : Nat) : Prop :=
  p.tables.exec = Jvm.exec ∧ c.code = zz_b M ∧ c.maxLocals = zz_ml M ∧ meth.sig.returnType = zz_rtf M ∧ meth.locks = false ∧ meth.name = (zz_y M).name ∧ s.vm.findClass (zz_y M).cls = some m.cls ∧ (∀ w ∈ zz_ws, w.before args s = true) ∧ s0.vm.Alike s.vm ∧ c.exceptionTable.toList = tableOf (zz_hf M) ∧ (∀ q, q < s0.heap.size → s.heap[q]? = s0.heap[q]?)
theorem zz_HR_nil {s0 : State} {D : va_G} {cl : List vw_C} {fk : List (List Nat)} {cI cJ : ClassId} {A : List Nat} {h : zz_H} {H : Heap} {locs : List Loc} (hR : zz_HR s0 D cl fk cI cJ A h H locs) : zz_HR s0 D cl fk cI cJ A h H [] := by
  obtain ⟨h1, h2, h3, h4, h5, h6, h7, h8⟩ := hR
  exact ⟨h1, h2, h3, h4, h5, ⟨h6.1, h6.2.1, fun q hq => by cases hq⟩, h7, h8⟩
theorem zz_HR_locs {s0 : State} {D : va_G} {cl : List vw_C} {fk : List (List Nat)} {cI cJ : ClassId} {A : List Nat} {h : zz_H} {H : Heap} {locs : List Loc} (hR : zz_HR s0 D cl fk cI cJ A h H []) (hl : ∀ q ∈ locs, s0.heap.size ≤ q.base) : zz_HR s0 D cl fk cI cJ A h H locs := by
  obtain ⟨h1, h2, h3, h4, h5, h6, h7, h8⟩ := hR
  exact ⟨h1, h2, h3, h4, h5, ⟨h6.1, h6.2.1, hl⟩, h7, h8⟩
theorem zz_size_app {h h' : zz_H} {q : Nat × Nat} (e : h'.1 = h.1 ++ [q]) : zz_size h' = zz_size h + zz_sz q := by
  unfold zz_size
  rw [e, List.map_append, List.sum_append]
  simp
theorem zz_up_wf {h : zz_H} {i f v : Nat} (hw : zz_wf h) (hv : v < h.1.length) : zz_wf (h.1, h.2.1, h.2.2.1, zz_up h.2.2.2 i f (.ref v)) := by
  intro a b j hj
  have hj' : zz_up h.2.2.2 i f (Value.ref v) a b = Value.ref j := hj
  unfold zz_up at hj'
  split at hj'
  · split at hj'
    · cases hj'
      exact hv
    · exact hw a b j hj'
  · exact hw a b j hj'
section ZG
variable {p : Program} {l : Launch} {e : Env} {R : Room} {s : State} {m : MethodId} {args : Array Value} {below : List Frame} {meth : Method} {c : Code} {H : Heap} {locs : List Loc} {cells slots : Nat} {Q : State → Prop}
variable {M pc len : Nat} {ls : Array Slot} {t : List Value} {A : List Nat} {s0 : State} {D : va_G} {cI cJ : ClassId} {h : zz_H} {x : List Nat} {sw : List (Int32 × Nat)} {L : List (Option Value)} {st : List Value} {k : Bool} {cf : zz_C} {i : Instr}
set_option maxHeartbeats 4000000 in
theorem zz_hgo (hK0 : va_K D zz_cl [(cI, .int), (cJ, .long)] s0) (X : zz_Ctx s0 p s m args meth c M) (hd : decode (zz_b M) pc = .ok (i, len)) (hok : zz_okX M pc i len x sw (zz_ps M pc) = true) (ha : zz_heap i x sw pc L st k h = some (.inr (.inl cf))) (hS : zz_SR A st t) (hR : zz_HR s0 D zz_cl zz_fk cI cJ A h H locs)
    (hce : cells + (cf.2.2.2.2.1.length - h.1.length) ≤ R.cells) (hsl : slots + (zz_size cf.2.2.2.2 - zz_size h) ≤ R.slots)
    (kk : ∀ (B : List Nat) (H1 : Heap) (locs1 : List Loc) (t' : List Value), cf.2.1 = L → zz_SR (A ++ B) cf.2.2.1 t' → zz_HR s0 D zz_cl zz_fk cI cJ (A ++ B) cf.2.2.2.2 H1 locs1 → (cf.2.2.2.1 = true → k = true ∧ locs1 = locs ∧ cf.2.2.2.2 = h) →
      W p l e R s m args below meth c H1 locs1 (cells + (cf.2.2.2.2.1.length - h.1.length)) (slots + (zz_size cf.2.2.2.2 - zz_size h)) Q (F0 m cf.1 ls t')) :
    W p l e R s m args below meth c H locs cells slots Q (F0 m pc ls t) := by
  obtain ⟨hexec, hb, hml, hr, hlocks, hname, hown, hts, hal, htab, hlow⟩ := X
  have hK : va_K D zz_cl [(cI, .int), (cJ, .long)] s := hK0.moved hal
  have same : ∀ (t' : List Value), cf.2.1 = L → zz_SR A cf.2.2.1 t' → cf.2.2.2.2 = h → (cf.2.2.2.1 = true → k = true) → W p l e R s m args below meth c H locs cells slots Q (F0 m cf.1 ls t') := by
    intro t' h0 h1 h2 h3
    have := kk [] H locs t' h0 (by rw [List.append_nil]; exact h1) (by rw [List.append_nil, h2]; exact hR) (fun z => ⟨h3 z, rfl, h2⟩)
    rw [h2] at this
    simpa using this
  have moved : ∀ (H1 : Heap) (locs1 : List Loc) (t' : List Value), cf.2.1 = L → zz_SR A cf.2.2.1 t' → cf.2.2.2.2.1 = h.1 → cf.2.2.2.1 = false → zz_HR s0 D zz_cl zz_fk cI cJ A cf.2.2.2.2 H1 locs1 → W p l e R s m args below meth c H1 locs1 cells slots Q (F0 m cf.1 ls t') := by
    intro H1 locs1 t' h0 h1 h2 h3 h4
    have := kk [] H1 locs1 t' h0 (by rw [List.append_nil]; exact h1) (by rw [List.append_nil]; exact h4) (fun z => by rw [h3] at z; cases z)
    have e1 : zz_size cf.2.2.2.2 = zz_size h := by unfold zz_size; rw [h2]
    rw [e1, h2] at this
    simpa using this
  cases i with
  | ldc idx =>
    obtain ⟨v, w, rfl, he⟩ := zz_i_ldc ha
    cases he
    simp only [zz_okX, Bool.and_eq_true, beq_iff_eq] at hok
    obtain ⟨rfl, hok⟩ := hok
    split at hok
    · rename_i v' w' a' e1 e2
      cases e1
      exact lv_ldc hexec hb hown (hts _ (zz_hw_in hok)) hd (same _ rfl (zz_SR_i hS) rfl (fun z => z))
    · cases hok
  | ldc2_w idx =>
    obtain ⟨v, rfl, he⟩ := zz_i_ldc2 ha
    cases he
    simp only [zz_okX, Bool.and_eq_true, beq_iff_eq] at hok
    obtain ⟨rfl, hok⟩ := hok
    split at hok
    · rename_i v' a' e1 e2
      cases e1
      exact lv_ldc2 hexec hb hown (hts _ (zz_hw_in hok)) hd (same _ rfl (zz_SR_l hS) rfl (fun z => z))
    · cases hok
  | getfield idx =>
    obtain ⟨cc, f, tt, q, r, rfl, rfl, hq, he⟩ := zz_i_get ha
    cases he
    simp only [zz_okX, Bool.and_eq_true, beq_iff_eq] at hok
    obtain ⟨rfl, hok⟩ := hok
    split at hok
    · rename_i c' f' t' a' e1 e2
      cases e1
      unfold zz_okF at hok
      split at hok
      · rename_i C T N hcl
        simp only [Bool.and_eq_true, decide_eq_true_eq] at hok
        obtain ⟨⟨hf, ht⟩, hw⟩ := hok
        obtain ⟨k1, k2, k3, k4, k5, k6⟩ := zz_cls hcl
        obtain ⟨a0, r2, rfl, ha0, hr2⟩ := zz_SR_ref hS
        exact zz_r_get hexec hb hts k1 hown hK hR hq ha0 hcl k2 hf ht (hts _ (zz_hw_in hw)) (k5 _ hf) hd (fun w hvr => same _ rfl ⟨w, r2, rfl, hvr, hr2⟩ rfl (fun z => z))
      · cases hok
    · cases hok
  | putfield idx =>
    obtain ⟨cc, f, q, r, hq, hcase⟩ := zz_i_put ha
    simp only [zz_okX, Bool.and_eq_true, beq_iff_eq] at hok
    obtain ⟨rfl, hok⟩ := hok
    split at hok
    · rename_i xx c' f' t' a' ep
      have hx : c' = cc ∧ f' = f := by
        rcases hcase with ⟨v, hx, -⟩ | ⟨v, hx, -⟩ | ⟨v, hx, -⟩ | ⟨v, hx, -⟩ <;> (cases hx; exact ⟨rfl, rfl⟩)
      obtain ⟨rfl, rfl⟩ := hx
      simp only [Bool.and_eq_true] at hok
      obtain ⟨hok, hfin⟩ := hok
      unfold zz_okF at hok
      split at hok
      · rename_i C T N hcl
        simp only [Bool.and_eq_true, decide_eq_true_eq] at hok
        obtain ⟨⟨hf, ht⟩, hw⟩ := hok
        obtain ⟨k1, k2, k3, k4, k5, k6⟩ := zz_cls hcl
        have hfin' : (T f').2.2.2 = false ∨ ((T f').2.2.2 = true ∧ meth.name = "<init>" ∧ (zz_y M).cls = C) := by
          unfold zz_fin at hfin
          rw [hcl] at hfin
          simp only [Bool.or_eq_true, Bool.not_eq_true', Bool.and_eq_true, decide_eq_true_eq] at hfin
          cases hTf : (T f').2.2.2 with
          | false => exact Or.inl rfl
          | true =>
            rw [hTf] at hfin
            rcases hfin with hfin | hfin
            · cases hfin
            · exact Or.inr ⟨rfl, hname.trans hfin.1, hfin.2⟩
        have hty := k3 f' hf
        have hkt := k4 f' hf
        rw [ht] at hkt
        rcases hcase with ⟨v, hx, rfl, he⟩ | ⟨v, hx, rfl, hv, he⟩ | ⟨v, hx, rfl, he⟩ | ⟨v, hx, rfl, he⟩
        · cases hx
          cases he
          obtain ⟨r1, rfl, hr1⟩ := zz_SR_int hS
          obtain ⟨a0, r2, rfl, ha0, hr2⟩ := zz_SR_ref hr1
          have hint : zz_ty c' f' = .int := by
            revert hkt
            cases zz_ty c' f' <;> intro hkt <;> first | rfl | cases hkt
          rw [hint] at hty
          refine zz_r_put (v := .null) (h' := (h.1, zz_up h.2.1 q f' v, h.2.2.1, h.2.2.2)) hexec hb (zz_ty c') hts k1 k3 k6 hown hK hR hq ha0 hcl k2 hf ht (hts _ (zz_hw_in hw)) (k5 _ hf) hfin' hty rfl rfl rfl hR.2.2.1 (fun z hz => zz_up_ne hz) (fun _ _ => rfl) (fun _ _ => rfl) ?_ (fun z hz y => ?_) hd (fun H1 locs1 h1 => moved H1 locs1 _ rfl hr2 rfl rfl h1)
          · show zz_tr A (Value.int (zz_up h.2.1 q f' v q f')) = Value.int v
            simp [zz_up, zz_tr]
          · unfold zz_fv
            split
            · rfl
            · rfl
            · show Value.int (zz_up h.2.1 q f' v q z) = Value.int (h.2.1 q z)
              simp [zz_up, hz]
        · cases hx
          cases he
          obtain ⟨r1, rfl, hr1⟩ := zz_SR_int hS
          obtain ⟨a0, r2, rfl, ha0, hr2⟩ := zz_SR_ref hr1
          have hint : zz_ty c' f' = .boolean := by
            revert hkt
            cases zz_ty c' f' <;> intro hkt <;> first | rfl | cases hkt
          rw [hint] at hty
          refine zz_r_put (v := .null) (h' := (h.1, zz_up h.2.1 q f' v, h.2.2.1, h.2.2.2)) hexec hb (zz_ty c') hts k1 k3 k6 hown hK hR hq ha0 hcl k2 hf ht (hts _ (zz_hw_in hw)) (k5 _ hf) hfin' hty (by rcases hv with rfl | rfl <;> rfl) (by rcases hv with rfl | rfl <;> rfl) rfl hR.2.2.1 (fun z hz => zz_up_ne hz) (fun _ _ => rfl) (fun _ _ => rfl) ?_ (fun z hz y => ?_) hd (fun H1 locs1 h1 => moved H1 locs1 _ rfl hr2 rfl rfl h1)
          · show zz_tr A (Value.int (zz_up h.2.1 q f' v q f')) = Value.int v
            simp [zz_up, zz_tr]
          · unfold zz_fv
            split
            · rfl
            · rfl
            · show Value.int (zz_up h.2.1 q f' v q z) = Value.int (h.2.1 q z)
              simp [zz_up, hz]
        · cases hx
          cases he
          obtain ⟨r1, rfl, hr1⟩ := zz_SR_long hS
          obtain ⟨a0, r2, rfl, ha0, hr2⟩ := zz_SR_ref hr1
          have hint : zz_ty c' f' = .long := by
            revert hkt
            cases zz_ty c' f' <;> intro hkt <;> first | rfl | cases hkt
          rw [hint] at hty
          refine zz_r_put (v := .null) (h' := (h.1, h.2.1, zz_up h.2.2.1 q f' v, h.2.2.2)) hexec hb (zz_ty c') hts k1 k3 k6 hown hK hR hq ha0 hcl k2 hf ht (hts _ (zz_hw_in hw)) (k5 _ hf) hfin' hty rfl rfl rfl hR.2.2.1 (fun _ _ => rfl) (fun z hz => zz_up_ne hz) (fun _ _ => rfl) ?_ (fun z hz y => ?_) hd (fun H1 locs1 h1 => moved H1 locs1 _ rfl hr2 rfl rfl h1)
          · show zz_tr A (Value.long (zz_up h.2.2.1 q f' v q f')) = Value.long v
            simp [zz_up, zz_tr]
          · unfold zz_fv
            split
            · show Value.long (zz_up h.2.2.1 q f' v q z) = Value.long (h.2.2.1 q z)
              simp [zz_up, hz]
            · rfl
            · rfl
        · cases hx
          cases he
          obtain ⟨av, r1, rfl, hav, hr1⟩ := zz_SR_ref hS
          obtain ⟨a0, r2, rfl, ha0, hr2⟩ := zz_SR_ref hr1
          have hvl : v < h.1.length := by rw [← hR.1]; exact (List.getElem?_eq_some_iff.mp hav).1
          have hnf : narrow (zz_ty c' f') (.ref av) = .ref av ∧ fits (zz_ty c' f') (.ref av) = true := by
            revert hkt
            cases zz_ty c' f' <;> intro hkt <;> first | exact ⟨rfl, rfl⟩ | cases hkt
          refine zz_r_put (v := .null) (h' := (h.1, h.2.1, h.2.2.1, zz_up h.2.2.2 q f' (.ref v))) hexec hb (zz_ty c') hts k1 k3 k6 hown hK hR hq ha0 hcl k2 hf ht (hts _ (zz_hw_in hw)) (k5 _ hf) hfin' hty hnf.1 hnf.2 rfl (zz_up_wf hR.2.2.1 hvl) (fun _ _ => rfl) (fun _ _ => rfl) (fun z hz => zz_up_ne hz) ?_ (fun z hz y => ?_) hd (fun H1 locs1 h1 => moved H1 locs1 _ rfl hr2 rfl rfl h1)
          · show zz_tr A (zz_up h.2.2.2 q f' (.ref v) q f') = Value.ref av
            have : zz_up h.2.2.2 q f' (Value.ref v) q f' = Value.ref v := by simp [zz_up]
            rw [this]
            show Value.ref (A.getD v 0) = Value.ref av
            rw [zz_getD hav]
          · unfold zz_fv
            split
            · rfl
            · show zz_up h.2.2.2 q f' (.ref v) q z = h.2.2.2 q z
              simp [zz_up, hz]
            · rfl
      · cases hok
    · cases hok
  | getstatic idx =>
    obtain ⟨q, n, rfl, hq, he⟩ := zz_i_gets ha
    cases he
    simp only [zz_okX, Bool.and_eq_true, beq_iff_eq] at hok
    obtain ⟨rfl, hok⟩ := hok
    split at hok
    · rename_i q' a' e1 e2
      cases e1
      simp only [Bool.and_eq_true, decide_eq_true_eq] at hok
      obtain ⟨h5, hok⟩ := hok
      split at hok
      · rename_i nm hsf
        have hlt : q < A.length := by rw [hR.1]; exact (List.getElem?_eq_some_iff.mp hq).1
        exact zz_r_gets hexec hb hal hR h5 hsf hown (hts _ (zz_hw_in hok)) (List.getElem?_eq_getElem hlt) hd (same _ rfl (zz_SR_r (List.getElem?_eq_getElem hlt) hS) rfl (fun z => z))
      · cases hok
    · cases hok
  | iaload =>
    obtain ⟨j, q, r, n, rfl, hq, hj, he⟩ := zz_i_ild ha
    cases he
    have hl : len = 1 := by simpa [zz_okX] using hok
    subst hl
    obtain ⟨r1, rfl, hr1⟩ := zz_SR_int hS
    obtain ⟨a0, r2, rfl, ha0, hr2⟩ := zz_SR_ref hr1
    rcases hq with hq | hq
    · exact zz_r_ild1 hexec hb hK hR hq ha0 hj hd (same _ rfl (zz_SR_i hr2) rfl (fun z => z))
    · exact zz_r_ild2 hexec hb hal hR hq ha0 hj hd (same _ rfl (zz_SR_i hr2) rfl (fun z => z))
  | iastore =>
    obtain ⟨v, j, q, r, n, rfl, hq, hj, he⟩ := zz_i_ist ha
    cases he
    have hl : len = 1 := by simpa [zz_okX] using hok
    subst hl
    obtain ⟨r0, rfl, hr0⟩ := zz_SR_int hS
    obtain ⟨r1, rfl, hr1⟩ := zz_SR_int hr0
    obtain ⟨a0, r2, rfl, ha0, hr2⟩ := zz_SR_ref hr1
    exact zz_r_ist hexec hb hK hR hq ha0 hj hd (fun H1 locs1 h1 => moved H1 locs1 _ rfl hr2 rfl rfl h1)
  | laload =>
    obtain ⟨j, q, r, n, rfl, hq, hj, he⟩ := zz_i_lld ha
    cases he
    have hl : len = 1 := by simpa [zz_okX] using hok
    subst hl
    obtain ⟨r1, rfl, hr1⟩ := zz_SR_int hS
    obtain ⟨a0, r2, rfl, ha0, hr2⟩ := zz_SR_ref hr1
    exact zz_r_lld hexec hb hK hR hq ha0 hj hd (same _ rfl (zz_SR_l hr2) rfl (fun z => z))
  | lastore =>
    obtain ⟨v, j, q, r, n, rfl, hq, hj, he⟩ := zz_i_lst ha
    cases he
    have hl : len = 1 := by simpa [zz_okX] using hok
    subst hl
    obtain ⟨r0, rfl, hr0⟩ := zz_SR_long hS
    obtain ⟨r1, rfl, hr1⟩ := zz_SR_int hr0
    obtain ⟨a0, r2, rfl, ha0, hr2⟩ := zz_SR_ref hr1
    exact zz_r_lst hexec hb hK hR hq ha0 hj hd (fun H1 locs1 h1 => moved H1 locs1 _ rfl hr2 rfl rfl h1)
  | arraylength =>
    obtain ⟨q, r, n, rfl, hq, he⟩ := zz_i_len ha
    cases he
    have hl : len = 1 := by simpa [zz_okX] using hok
    subst hl
    obtain ⟨a0, r2, rfl, ha0, hr2⟩ := zz_SR_ref hS
    rcases hq with hq | hq | hq
    · exact zz_r_len1 hexec hb hK hR hq ha0 hd (same _ rfl (zz_SR_i hr2) rfl (fun z => z))
    · exact zz_r_len2 hexec hb hal hR hq ha0 hd (same _ rfl (zz_SR_i hr2) rfl (fun z => z))
    · exact zz_r_len3 hexec hb hK hR hq ha0 hd (same _ rfl (zz_SR_i hr2) rfl (fun z => z))
  | newarray ty =>
    obtain ⟨n, r, rfl, hn, hn4, hcase⟩ := zz_i_newa ha
    simp only [zz_okX, Bool.and_eq_true, beq_iff_eq] at hok
    obtain ⟨rfl, hok⟩ := hok
    obtain ⟨r1, rfl, hr1⟩ := zz_SR_int hS
    have hlA : A.length = h.1.length := hR.1
    rcases hcase with ⟨rfl, he⟩ | ⟨rfl, he⟩
    · cases he
      split at hok
      · rename_i a' e1 e2
        have e3 : (h.1 ++ [(1, n.toNatClampNeg)]).length - h.1.length = 1 := by simp
        have e4 := zz_size_app (h := h) (h' := (h.1 ++ [(1, n.toNatClampNeg)], zz_all h.2.1 h.1.length 0, h.2.2.1, h.2.2.2)) (q := (1, n.toNatClampNeg)) rfl
        have e5 : zz_size (h.1 ++ [(1, n.toNatClampNeg)], zz_all h.2.1 h.1.length 0, h.2.2.1, h.2.2.2) - zz_size h = n.toNatClampNeg := by rw [e4]; show zz_size h + n.toNatClampNeg - zz_size h = _; omega
        dsimp only at hce hsl kk
        rw [e3] at hce kk
        rw [e5] at hsl kk
        exact zz_r_newi hexec hb (hts _ (zz_hw_in hok)) hK hR hn hn4 hce hsl hd (fun a0 H1 h1 => kk [a0] H1 locs _ rfl (zz_SR_r (by rw [← hlA, List.getElem?_concat_length]) (zz_SR_app hr1)) h1 (fun z => by cases z))
      · rename_i a' e1 e2
        cases e1
      · cases hok
    · cases he
      split at hok
      · rename_i a' e1 e2
        cases e1
      · rename_i a' e1 e2
        have e3 : (h.1 ++ [(3, n.toNatClampNeg)]).length - h.1.length = 1 := by simp
        have e4 := zz_size_app (h := h) (h' := (h.1 ++ [(3, n.toNatClampNeg)], h.2.1, zz_all h.2.2.1 h.1.length 0, h.2.2.2)) (q := (3, n.toNatClampNeg)) rfl
        have e5 : zz_size (h.1 ++ [(3, n.toNatClampNeg)], h.2.1, zz_all h.2.2.1 h.1.length 0, h.2.2.2) - zz_size h = n.toNatClampNeg := by rw [e4]; show zz_size h + n.toNatClampNeg - zz_size h = _; omega
        dsimp only at hce hsl kk
        rw [e3] at hce kk
        rw [e5] at hsl kk
        exact zz_r_newl hexec hb (hts _ (zz_hw_in hok)) hK hR hn hn4 hce hsl hd (fun a0 H1 h1 => kk [a0] H1 locs _ rfl (zz_SR_r (by rw [← hlA, List.getElem?_concat_length]) (zz_SR_app hr1)) h1 (fun z => by cases z))
      · cases hok
  | new idx =>
    obtain ⟨cc, hcase⟩ := zz_i_new ha
    rcases hcase with ⟨rfl, he⟩ | ⟨-, -, -, he⟩
    · cases he
      simp only [zz_okX, Bool.and_eq_true, beq_iff_eq] at hok
      obtain ⟨rfl, hok⟩ := hok
      have hlA : A.length = h.1.length := hR.1
      split at hok
      · rename_i c' a1 a2 a3 e1 e2
        cases e1
        split at hok
        · rename_i C T N hcl
          simp only [Bool.and_eq_true, beq_iff_eq] at hok
          obtain ⟨⟨⟨w1, w2⟩, w3⟩, hns⟩ := hok
          obtain ⟨k1, k2, k3, k4, k5, k6⟩ := zz_cls hcl
          have e3 : (h.1 ++ [(0, cc)]).length - h.1.length = 1 := by simp
          have e4 := zz_size_app (h := h) (h' := (h.1 ++ [(0, cc)], zz_all h.2.1 h.1.length 0, zz_all h.2.2.1 h.1.length 0, zz_all h.2.2.2 h.1.length .null)) (q := (0, cc)) rfl
          have e5 : zz_size (h.1 ++ [(0, cc)], zz_all h.2.1 h.1.length 0, zz_all h.2.2.1 h.1.length 0, zz_all h.2.2.2 h.1.length .null) - zz_size h = N := by rw [e4]; show zz_size h + zz_nslot.getD cc 0 - zz_size h = _; rw [hns]; omega
          dsimp only at hce hsl kk
          rw [e3] at hce kk
          rw [e5] at hsl kk
          exact zz_r_new hexec hb (zz_ty cc) hts k1 k3 hown (hts _ (zz_hw_in w1)) (hts _ (zz_hw_in w2)) (hts _ (zz_hw_in w3)) hK hR hcl k2 (fun j hj => zz_kty_dv (k4 j hj)) hce hsl hd (fun a0 H1 h1 => kk [a0] H1 locs _ rfl (zz_SR_r (by rw [← hlA, List.getElem?_concat_length]) (zz_SR_app hS)) h1 (fun z => by cases z))
        · cases hok
      · rename_i c' a1 a3 e1 e2
        cases e1
      · cases hok
    · cases he
  | ireturn =>
    obtain ⟨v, -, he, -⟩ := zz_i_iret ha
    cases he
  | lreturn =>
    obtain ⟨v, -, he⟩ := zz_i_lret ha
    cases he
  | return_ =>
    obtain ⟨-, he⟩ := zz_i_ret ha
    cases he
  | _ => simp [zz_heap] at ha
end ZG
