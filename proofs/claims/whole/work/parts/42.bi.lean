theorem zz_len_SR {A : List Nat} {st t : List Value} (h : zz_SR A st t) (hl : st.length ≤ 12) : (t.map fun v => v.category).sum ≤ 24 := by
  have h1 := zz_cats t
  have h2 := zz_SR_len h
  omega
theorem zz_cats_tl {v : Value} {r : List Value} {n : Nat} (h : ((v :: r).map fun v => v.category).sum ≤ n) : (r.map fun v => v.category).sum ≤ n := by
  rw [List.map_cons, List.sum_cons] at h
  omega
section ZB2
variable {p : Program} {l : Launch} {e : Env} {R : Room} {s : State} {m : MethodId} {args : Array Value} {below : List Frame} {meth : Method} {c : Code} {H : Heap} {locs : List Loc} {cells slots : Nat} {Q : State → Prop}
variable {M pc len : Nat} {ls : Array Slot} {t : List Value} {A : List Nat} {s0 : State} {D : va_G} {cI cJ : ClassId} {h : zz_H} {x : List Nat} {sw : List (Int32 × Nat)} {L : List (Option Value)} {st : List Value} {k : Bool} {cf : zz_C} {i : Instr}
set_option maxHeartbeats 4000000 in
theorem zz_bgo (hK0 : va_K D zz_cl [(cI, .int), (cJ, .long)] s0) (X : zz_Ctx s0 p s m args meth c M) (hd : decode (zz_b M) pc = .ok (i, len)) (hinv : zz_inv i = true) (hok : zz_okX M pc i len x sw (zz_ps M pc) = true) (ha : zz_bi x pc L st k h = some (.inr (.inl cf))) (h12 : st.length ≤ 12) (hlsz : ls.size = zz_ml M) (hS : zz_SR A st t) (hR : zz_HR s0 D zz_cl zz_fk cI cJ A h H locs)
    (hfr : 8 ≤ R.frames) (hlo : 120 ≤ R.locals) (hce : cells ≤ R.cells) (hsl : slots ≤ R.slots)
    (kk : ∀ (H1 : Heap) (locs1 : List Loc) (t' : List Value), cf.2.1 = L → zz_SR A cf.2.2.1 t' → zz_HR s0 D zz_cl zz_fk cI cJ A cf.2.2.2.2 H1 locs1 → (cf.2.2.2.1 = true → k = true ∧ locs1 = locs) → cf.2.2.2.2.1 = h.1 →
      W p l e R s m args below meth c H1 locs1 cells slots Q (F0 m cf.1 ls t')) :
    W p l e R s m args below meth c H locs cells slots Q (F0 m pc ls t) := by
  obtain ⟨hexec, hb, hml, hr, hlocks, hname, hown, hts, hal, htab, hlow⟩ := X
  have hK : va_K D zz_cl [(cI, .int), (cJ, .long)] s := hK0.moved hal
  have hml' : c.maxLocals = ls.size := hml.trans hlsz.symm
  have hcat := zz_len_SR hS h12
  rcases zz_i_bi ha with ⟨q, r, rfl, rfl, he⟩ | ⟨q, b, r, n, rfl, rfl, hq1, hq2, hn4, he⟩ | ⟨y, v, r, rfl, rfl, he⟩ | ⟨y, v, r, rfl, rfl, he⟩ | ⟨v, r, rfl, rfl, he⟩ | ⟨y, v, r, rfl, rfl, he⟩ <;> cases he <;> cases i with
  | invokespecial idx =>
    first
      | (have hbad : zz_okX M pc (.invokespecial idx) len [2] sw (zz_ps M pc) = ((len == 3) && false) := rfl
         rw [hbad] at hok; simp at hok; done)
      | (have hbad : zz_okX M pc (.invokespecial idx) len [3] sw (zz_ps M pc) = ((len == 3) && false) := rfl
         rw [hbad] at hok; simp at hok; done)
      | (have hbad : zz_okX M pc (.invokespecial idx) len [4] sw (zz_ps M pc) = ((len == 3) && false) := rfl
         rw [hbad] at hok; simp at hok; done)
      | (have hbad : zz_okX M pc (.invokespecial idx) len [5] sw (zz_ps M pc) = ((len == 3) && false) := rfl
         rw [hbad] at hok; simp at hok; done)
      | (have hbad : zz_okX M pc (.invokespecial idx) len [6] sw (zz_ps M pc) = ((len == 3) && false) := rfl
         rw [hbad] at hok; simp at hok; done)
      | (simp only [zz_okX, Bool.and_eq_true, beq_iff_eq] at hok
         obtain ⟨rfl, hok⟩ := hok
         split at hok
         · rename_i e1 e2
           cases e1
         · simp only [Bool.and_eq_true] at hok
           obtain ⟨w1, w2⟩ := hok
           obtain ⟨a0, r2, rfl, ha0, hr2⟩ := zz_SR_ref hS
           have hc2 := zz_cats_tl hcat
           exact W.objInit hexec hb hown (hts _ (zz_hw_in w1)) (hts _ (zz_hw_in w2)) (hts _ zz_k_obj) rfl hml'.symm rfl hd (by omega) (by show 2 * 0 + _ + 12 ≤ _; omega) (kk H locs _ rfl hr2 hR (fun z => ⟨z, rfl⟩) rfl)
         · cases hok)
  | invokestatic idx =>
    first
      | (have hbad : zz_okX M pc (.invokestatic idx) len [1] sw (zz_ps M pc) = ((len == 3) && false) := rfl
         rw [hbad] at hok; simp at hok; done)
      | (simp only [zz_okX, Bool.and_eq_true, beq_iff_eq] at hok
         obtain ⟨rfl, hok⟩ := hok
         split at hok
         all_goals first
           | (rename_i e1 e2; cases e1; done)
           | (cases hok; done)
           | skip
         simp only [Bool.and_eq_true] at hok
         first
           | (obtain ⟨⟨⟨w1, w2⟩, w3⟩, w4⟩ := hok
              obtain ⟨t1, rfl, g1⟩ := zz_SR_int hS
              obtain ⟨t2, rfl, g2⟩ := zz_SR_int g1
              obtain ⟨b0, t3, rfl, hb0, g3⟩ := zz_SR_ref g2
              obtain ⟨t4, rfl, g4⟩ := zz_SR_int g3
              obtain ⟨a0, t5, rfl, ha0, g5⟩ := zz_SR_ref g4
              have hc2 := zz_cats_tl (zz_cats_tl (zz_cats_tl (zz_cats_tl (zz_cats_tl hcat))))
              have hnw : nativeFrameWords "java/lang/System" "arraycopy" 5 = 7 := by decide +kernel
              exact zz_r_copy hexec hb hml' hown (hts _ (zz_hw_in w1)) (hts _ (zz_hw_in w2)) (hts _ (zz_hw_in w3)) (hts _ (zz_hw_in w4)) hK hR hq1 ha0 hq2 hb0 hn4 (by omega) (by rw [hnw]; omega) hd (fun H1 locs1 h1 => kk H1 locs1 _ rfl g5 h1 (fun z => by cases z) rfl))
           | (obtain ⟨⟨w1, w2⟩, w3⟩ := hok
              obtain ⟨t1, rfl, g1⟩ := zz_SR_int hS
              obtain ⟨t2, rfl, g2⟩ := zz_SR_int g1
              have hc2 := zz_cats_tl (zz_cats_tl hcat)
              first
                | exact va_mmax hexec hb hml' hown (hts _ (zz_hw_in w1)) (hts _ (zz_hw_in w2)) (hts _ (zz_hw_in w3)) (hts _ zz_k_max) (by omega) (by omega) hce hsl hd (kk H locs _ rfl (zz_SR_i g2) hR (fun z => ⟨z, rfl⟩) rfl)
                | exact va_mmin hexec hb hml' hown (hts _ (zz_hw_in w1)) (hts _ (zz_hw_in w2)) (hts _ (zz_hw_in w3)) (hts _ zz_k_min) (by omega) (by omega) hce hsl hd (kk H locs _ rfl (zz_SR_i g2) hR (fun z => ⟨z, rfl⟩) rfl))
           | (obtain ⟨⟨w1, w2⟩, w3⟩ := hok
              obtain ⟨t1, rfl, g1⟩ := zz_SR_int hS
              have hc2 := zz_cats_tl hcat
              exact va_mabs hexec hb hml' hown (hts _ (zz_hw_in w1)) (hts _ (zz_hw_in w2)) (hts _ (zz_hw_in w3)) (hts _ zz_k_abs) (by omega) (by omega) hce hsl hd (kk H locs _ rfl (zz_SR_i g1) hR (fun z => ⟨z, rfl⟩) rfl))
           | (obtain ⟨⟨w1, w2⟩, w3⟩ := hok
              obtain ⟨t1, rfl, g1⟩ := zz_SR_long hS
              obtain ⟨t2, rfl, g2⟩ := zz_SR_long g1
              have hc2 := zz_cats_tl (zz_cats_tl hcat)
              exact va_mmin_long hexec hb hml' hown (hts _ (zz_hw_in w1)) (hts _ (zz_hw_in w2)) (hts _ (zz_hw_in w3)) (hts _ zz_k_mil) (by omega) (by omega) hce hsl hd (kk H locs _ rfl (zz_SR_l g2) hR (fun z => ⟨z, rfl⟩) rfl)))
  | invokevirtual idx =>
    simp [zz_okX] at hok
  | _ => simp [zz_inv] at hinv
end ZB2
