section O3
variable {d n t pc s : Nat} {I X : Nat → Nat → Int32} {J : Nat → Nat → Int64} {ex : List (Nat × Nat)} {y : Int64}
theorem opq (hR : Rel I y) (hp : I 5 5 = nI pc) (hpc : pc ≤ 4) (hp2 : 2 ≤ pc) {I1 W : Nat → Nat → Int32}
    (c1 : ∀ b j, b < 9 → ¬ (b = 5 ∧ j = 9) → I1 b j = I b j) (c2 : I1 5 9 = 1) (c3 : ∀ i j, i ≤ 6 → (i = 0 → j < 12) → I1 (16 + i) j = I (9 + i) j) (c4 : ∀ b j, 23 ≤ b → I1 b j = I b j)
    (m1 : ∀ b j, b < 39 → ¬ b = 24 → W b j = rmM I1 b j) (k6 : Cst I1 9 (W 24)) (k7 : Vst pc (I 5 6) (W 24)) : ∀ d n J ex, ∃ X, zz_Call zz_prog (d + 6) 116 [.ref 23] (zz_hp n W J ex) = some (.inl none, false, zz_hp n X J ex) ∧ X 23 0 = 0 ∧ Rel X y ∧ Sm W X := fun d n J ex => by
  have k7' := k7
  obtain ⟨N, f, t, D, x, a1, a2, a3, a4, a5, a6⟩ := k7'
  obtain ⟨pc', g1, g2, g3, -⟩ := hR.plc
  have e : pc' = pc := (zz_nI_eq (by omega) (by omega)).mp (by rw [← g1, hp])
  subst e
  have hT : Tm W := hR.tm.cong (fun b j hb hb2 => by rw [m1 b j (by omega) (by omega), rmM_ne (by omega) (Or.inl (by omega)), c4 b j (by omega)])
  have hw15 : W 23 15 = nI pc' := by rw [m1 23 15 (by omega) (by omega), rmM_p, c4 23 15 (by omega), g2]
  have hw16 : W 23 16 = I 5 6 := by
    rw [m1 23 16 (by omega) (by omega), rmM_ne (by omega) (Or.inr ⟨by omega, by omega⟩), c4 23 16 (by omega)]
    exact hR.2.2.2.2.2.2.2.1
  obtain ⟨f1, f2, f3, f4, f5, f6, f7, f8, f9, f10, f11, f12, f13⟩ := a3
  obtain ⟨X, k1, k2⟩ := c116 (d := d) (n := n) (J := J) (ex := ex) hT hw15 hpc (V_roads a1 a2 hpc) f4 (by omega) (by
    rcases f10 with z | ⟨a, z1, z2⟩
    · exact Or.inl z
    · exact Or.inr ⟨a, by omega, z2⟩)
  have hid : lkA W pc' t = W := lkA_id (by
    have := fr_aw (X := fun _ => W 24) (I := W) rfl pc'
    rw [← this]
    exact a5) f1 f3 (fun z1 z2 => by
    rw [hw16]
    have := fr_ptm (X := fun _ => W 24) (I := W) rfl t
    rw [← this]
    exact a6 z1 z2)
  rw [hid] at k2
  obtain ⟨r1, r2⟩ := Rel.fin hR hp hpc hp2 c1 c2 c3 c4 m1 k2 k6 k7
  exact ⟨X, k1, r2, r1, k2⟩
theorem rmb_16 {i j : Nat} (hi : i ≤ 6) (hj : i = 0 → j < 12) : rmb I (16 + i) j = I (9 + i) j := by
  unfold rmb
  rw [up_ne (by omega)]
  unfold cpAr
  simp only [zz_fold, zz_cpy]
  have h7 : i = 0 ∨ i = 1 ∨ i = 2 ∨ i = 3 ∨ i = 4 ∨ i = 5 ∨ i = 6 := by omega
  rcases h7 with rfl | rfl | rfl | rfl | rfl | rfl | rfl
  · simp
    exact cpUp_eq (by decide) 12 (hj rfl)
  all_goals
    simp
    exact cpUp_ne (by decide) 12
theorem Cst.rmb (h : Cst I 9 (I 24)) : Cst (rmb I) 9 (I 24) := h.cong (fun b j h1 h2 => rmb_ne (by omega) (Or.inl (by omega))) (fun _ => rfl)
theorem mvS_fn {s s' : Nat → Int32} {f t g : Nat} {c : Int32} (hft : ¬ f = t) (hf : f < 5) (ht : t < 5) (hg : g < 5) : mvS s f t g c = sup (sup s (126 + (f * 5 + g)) (s (126 + (f * 5 + g)) - c)) (126 + (t * 5 + g)) (s (126 + (t * 5 + g)) + c) := by
  unfold mvS
  rw [sup_ne (by omega)]
theorem op_give (p g : Int32) : Opr 7 [.int p, .int g] 129 [.int p, .int g] (fun e => if e = 3 then 1 else if e = 4 then 2 else 0) := fun I y hR => by
  obtain ⟨pc, h5, h15, hpc, hC⟩ := hR.plc
  by_cases hph : I 24 180 = 4
  · have hph9 : I 9 0 = 4 := hC.ph.trans hph
    by_cases hn : isP I p = false ∨ isG g = false
    · refine Or.inr ⟨4, fun d n J ex => c7f (d := d + 16) hph9 p g hn, by decide, _, OkM.ref' hR (fun d n J ex => ⟨false, c129n2 (d := d) hph p g ?_⟩)⟩
      rw [← hR.eqP]
      exact hn
    · have hp2 : isP I p = true := by
        cases z : isP I p with
        | true => rfl
        | false => exact absurd (Or.inl z) hn
      have hg2 : isG g = true := by
        cases z : isG g with
        | true => rfl
        | false => exact absurd (Or.inr z) hn
      obtain ⟨q, hq, rfl⟩ := isP_nat h5 hpc hp2
      obtain ⟨k, hk, rfl⟩ := isG_nat hg2
      have e15 : I 15 q = I 24 (176 + q) := hC.mu (by omega)
      have e12 : I 12 (q * 5 + k) = I 24 (126 + (q * 5 + k)) := hC.hd (by omega)
      have eix : 126 + 5 * q + k = 126 + (q * 5 + k) := by omega
      by_cases hz : I 24 (176 + q) = 0 ∨ I 24 (126 + (q * 5 + k)) = 0
      · refine Or.inr ⟨4, fun d n J ex => c7g (d := d + 16) hph9 h5 hpc q k hq hk (by rw [e15, e12]; exact hz), by decide, _, OkM.ref' hR (fun d n J ex => ⟨false, c129n3 (d := d) hph h15 hpc q k hq hk (by rw [eix]; exact hz)⟩)⟩
      · have z1 : ¬ I 24 (176 + q) = 0 := fun z => hz (Or.inl z)
        have z2 : ¬ I 24 (126 + (q * 5 + k)) = 0 := fun z => hz (Or.inr z)
        obtain ⟨N, f, t, D, x, hp2, a1, a2, a3, a4, a5, a6⟩ := hR.dat h5 hpc (by omega)
        have hf4 : f = 4 := by
          have := a3.1
          rw [hph] at this
          exact ((zz_nI_eq (a := 4) (b := f) (by omega) (by have := a3.2.2.1; omega)).mp this).symm
        subst hf4
        have hzz : I 9 11 = 0 ∨ I 9 11 = 1 := by rw [hC.pl]; exact a3.2.2.2.2.2.2.2.1
        generalize hZ : zz_up (mv (rmb I) q 4 k 1) 15 q (I 15 q - 1) = Z
        have Zne : ∀ b j, ¬ b = 12 → ¬ b = 15 → Z b j = rmb I b j := fun b j h1 h2 => by rw [← hZ, up_ne h2, mv_ne h1]
        have hCZ : Cst Z 9 (sup (mvS (I 24) q 4 k 1) (176 + q) (I 24 (176 + q) - 1)) := by
          rw [← hZ]
          exact (hC.rmb.mv (by omega) (by omega) hk 1).u15 (by omega) (by rw [e15])
        have hCI := fun (v : Int32) (hv : v = 4 ∨ v = 5) => hCZ.v0p v (by rcases hv with rfl | rfl <;> decide) (by rcases hv with rfl | rfl <;> decide) (by rcases hv with rfl | rfl <;> decide)
        generalize hv : (if mAG Z pc = true then (4 : Int32) else 5) = v
        have hv45 : v = 4 ∨ v = 5 := by
          rw [← hv]
          split
          · exact Or.inl rfl
          · exact Or.inr rfl
        have I1ne : ∀ b j, ¬ b = 9 → ¬ b = 12 → ¬ b = 15 → zz_up Z 9 0 v b j = rmb I b j := fun b j h1 h2 h3 => by rw [up_ne h1, Zne b j h2 h3]
        have hI1 : (if mAG Z pc = true then Z else zz_up Z 9 0 5) = zz_up Z 9 0 v := by
          rw [← hv]
          split
          · rw [up_self (by rw [Zne 9 0 (by decide) (by decide), rm9, hph9])]
          · rfl
        have m24 : ∀ j, zz_up Z 9 0 v 24 j = I 24 j := fun j => by rw [I1ne 24 j (by decide) (by decide) (by decide), rmb_ne (by omega) (Or.inl (by decide))]
        have m23 : ∀ j, zz_up Z 9 0 v 23 j = I 23 j := fun j => by rw [I1ne 23 j (by decide) (by decide) (by decide), rmb_ne (by omega) (Or.inl (by decide))]
        have hgv : gvM (zz_up Z 9 0 v) q k 24 = sup (mvS (I 24) q 4 k 1) (176 + q) (I 24 (176 + q) - 1) := by
          unfold gvM
          rw [up_sup, up_sup, up_sup, show rmM (zz_up Z 9 0 v) 24 = I 24 from funext fun j => (rmM_24 j).trans (m24 j), m24, m24, m24, mvS_fn (s' := I 24) (by omega) (by omega) (by omega) hk, eix, show 146 + k = 126 + (4 * 5 + k) by omega]
        have hmm : mAm (gvM (zz_up Z 9 0 v) q k) pc = mAG Z pc := by
          unfold mAG mAm
          rw [fold_or_any, Bool.false_or]
          refine zz_any_congr pc 0 (fun p _ hp => ?_)
          rw [show gvM (zz_up Z 9 0 v) q k 24 (176 + p) = Z 15 p from by rw [hgv]; exact (hCZ.mu (by omega)).symm]
        have hW24 : zz_up (gvM (zz_up Z 9 0 v) q k) 24 180 (if mAm (gvM (zz_up Z 9 0 v) q k) pc = true then 4 else 5) 24 = sup (sup (mvS (I 24) q 4 k 1) (176 + q) (I 24 (176 + q) - 1)) 180 v := by
          rw [up_sup, hgv, hmm, hv]
        refine Or.inl ⟨zz_up Z 9 0 v, some (.int (I 24 (176 + q) - 1)), fun d n J ex _ => ⟨false, ?_⟩, fun d n J ex => ?_⟩
        · have := c7a (d := d + 16) (n := n) (J := J) (ex := ex) hzz hph9 h5 hpc q k hq hk (by rw [e15]; exact z1) (by rw [e12]; exact z2)
          rw [hZ, hI1, e15] at this
          exact this
        · obtain ⟨X, k1, k2, k3, -⟩ := opq (I1 := zz_up Z 9 0 v) hR h5 hpc hp2 (W := zz_up (gvM (zz_up Z 9 0 v) q k) 24 180 (if mAm (gvM (zz_up Z 9 0 v) q k) pc = true then 4 else 5)) (fun b j hb hb2 => by rw [I1ne b j (by omega) (by omega) (by omega), rmb_ne (by omega) (by omega)]) (by rw [I1ne 5 9 (by decide) (by decide) (by decide), rmb_59]) (fun i j hi hj => by rw [I1ne (16 + i) j (by omega) (by omega) (by omega), rmb_16 hi hj]) (fun b j hb => by rw [I1ne b j (by omega) (by omega) (by omega), rmb_ne (by omega) (Or.inl (by omega))]) (fun b j hb hb2 => by unfold gvM; rw [up_ne hb2, up_ne hb2, up_ne hb2, up_ne hb2]) (by rw [hW24]; exact hCI v hv45) (by
            rw [hW24]
            exact give_V hpc a1 a2 a3 a5 a6 hq hk z1 z2 hv45) d n J ex
          refine ⟨X, false, ?_, k2, k3⟩
          have := c129a (d := d) (n := n) (J := J) (ex := ex) (I := zz_up Z 9 0 v) (X := X) ((m24 180).trans hph) ((m23 15).trans h15) hpc q k hq hk (by rw [m24]; exact z1) (by rw [m24, eix]; exact z2) k1
          rw [m24] at this
          exact this
  · refine Or.inr ⟨3, fun d n J ex => c7e (d := d + 16) (fun z => hph (hC.ph.symm.trans z)) p g, by decide, _, OkM.ref' hR (fun d n J ex => ⟨false, c129n1 (d := d) hph p g⟩)⟩
end O3
