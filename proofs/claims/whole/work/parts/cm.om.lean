section OM
variable {d n t pc s : Nat} {I X I1 W A B : Nat → Nat → Int32} {J : Nat → Nat → Int64} {ex : List (Nat × Nat)} {y : Int64} {S : Nat → Int32}
theorem place1 (hR : Rel I y) (h1 : I 24 180 = 1) {t : Nat} (ht : I 24 181 = nI t) (ht4 : t < 4) {sp : Nat} (hs1 : sp < 54) (htf : tFm I t 1 = true) (hmb : mB1 I t sp = true) (hn : (decide (0 ≤ nI sp) && decide (nI sp < spF (nI 1))) = true) (hsm : isSm (nI 1) (nI sp) = true) : ∃ I1 v, OkC 5 [.int (nI 1), .int (nI sp)] I y I1 v ∧ OkM 121 [.int (nI 1), .int (nI sp)] I1 y v 0 := by
  obtain ⟨pc, N, t', D, x, h5, h15, hp2, hpc, hC, a1, a2, a3, a4, a5, a6⟩ := hR.ph_dat (k := 1) (by decide) (by decide) h1
  have htp : t' < pc := a3.2.2.2.2.1
  have htt : t' = t := (zz_nI_eq (by omega) (by omega)).mp (by rw [← ht]; exact a3.2.2.2.1.symm)
  subst htt
  have h19 : I 9 0 = 1 := hC.ph.trans h1
  have ht9 : I 9 1 = nI t' := hC.on.trans ht
  have hzz : I 9 11 = 0 ∨ I 9 11 = 1 := by rw [hC.pl]; exact a3.pl
  have hcor := V_corners a1 a2 hpc
  obtain ⟨x1, x2⟩ := a4.1 rfl
  obtain ⟨q1, q2⟩ := a4.2.2 (by decide)
  have hx : I 24 191 = nI x := a3.2.2.2.2.2.2.2.2.2.2.2.1
  have hx8 : x ≤ 8 := a3.2.2.2.2.2.2.2.2.2.2.2.2
  have h92 : I 9 2 = nI x := (hC.s1 h1).trans hx
  obtain ⟨gd, nm, hH⟩ := hR.2.2.1
  have hg5 : ∀ q, q < 19 → gd q ≤ 5 := fun q hq => (hH q hq).2.1
  have h0 : N (72 + sp) = 0 := by
    have := hmb
    unfold mB1 aln at this
    rw [fold_and_any, Bool.and_eq_true, Bool.and_eq_true, decide_eq_true_eq] at this
    have := this.1.1
    rw [a1 _ (by omega), nI_z (by have := (V_corners a1 a2 hpc sp hs1).2; omega)] at this
    exact this
  have hPe : ptI (rmb I) t' 1 sp = zz_up (rmb I) 11 sp (nI t') := by
    unfold ptI
    rw [rm9, h19, if_neg (by decide), if_neg (by decide), if_neg (by decide)]
  have hCP : Cst (ptI (rmb I) t' 1 sp) 9 (sup (I 24) (72 + sp) (nI (t' + 1))) := by
    rw [hPe]
    exact put_C (k := 1) hC.rmb (by decide) (by omega) (fun _ => hs1)
  have r1 : ∀ j, j < 180 → sup (I 24) (72 + sp) (nI (t' + 1)) j = nI (nup N (72 + sp) (t' + 1) j) := rep_sup a1 rfl
  have v1 : Vn pc D (nup N (72 + sp) (t' + 1)) := pcN_V (k := 1) a2 htp (by decide) (by omega) (fun _ => hs1) (fun z => absurd z (by decide)) (fun z => absurd z (by decide))
  have s1n : ∀ j, 126 ≤ j → sup (I 24) (72 + sp) (nI (t' + 1)) j = I 24 j := fun j hj => sup_ne (by omega)
  generalize hs1e : sup (I 24) (72 + sp) (nI (t' + 1)) = s1 at *
  obtain ⟨w1, w2⟩ := aw_C (pc := pc) hCP (V_corners r1 v1 hpc) hpc (by rw [s1n 189 (by omega)]; exact a3.2.2.2.2.2.2.2.2.2.1)
  have hPn : ∀ b j, ¬ (9 ≤ b ∧ b ≤ 15) → ptI (rmb I) t' 1 sp b j = rmb I b j := fun b j hb => ptI_ne (by omega)
  have hP9 : ∀ j, ptI (rmb I) t' 1 sp 9 j = I 9 j := fun j => by rw [ptI_ne (by omega), rm9]
  have hbq : cN (bq sp) 19 ≤ 3 := of_decide_eq_true (List.all_eq_true.mp bq_all sp (List.mem_range.mpr hs1))
  -- the state before the award
  have hu : ∀ j, 72 ≤ j → ¬ j = 192 → ¬ j = 191 → ¬ j = 180 → sup (sup (sup s1 192 (nI sp)) 191 (nI (x + 1))) 180 2 j = s1 j := fun j _ j1 j2 j3 => by rw [sup_ne j3, sup_ne j2, sup_ne j1]
  have hu126 : ∀ j, j < 180 → sup (sup (sup s1 192 (nI sp)) 191 (nI (x + 1))) 180 2 j = s1 j := fun j hj => by rw [sup_ne (by omega), sup_ne (by omega), sup_ne (by omega)]
  have u180 : sup (sup (sup s1 192 (nI sp)) 191 (nI (x + 1))) 180 2 180 = 2 := sup_eq
  have u191 : sup (sup (sup s1 192 (nI sp)) 191 (nI (x + 1))) 180 2 191 = nI (x + 1) := by rw [sup_ne (by omega), sup_eq]
  have u192 : sup (sup (sup s1 192 (nI sp)) 191 (nI (x + 1))) 180 2 192 = nI sp := by rw [sup_ne (by omega), sup_ne (by omega), sup_eq]
  have hCu : Cst (zz_up (zz_up (sAw (ptI (rmb I) t' 1 sp) pc) 9 3 (nI sp)) 9 0 2) 9 (sup (sup (sup (sup s1 192 (nI sp)) 191 (nI (x + 1))) 180 2) 189 (awM (fun _ => s1) pc)) := by
    have h := w1.hut (by rw [sup_ne (by omega), s1n _ (by omega), h1]) (nI sp)
    rw [sup_ne (j := 191) (by omega), s1n 191 (by omega), hx, zz_nI_succ] at h
    rw [sup_comm (i := 180) (j := 189) (by omega), sup_comm (i := 191) (j := 189) (by omega), sup_comm (i := 192) (j := 189) (by omega)]
    exact h
  generalize hue : sup (sup (sup s1 192 (nI sp)) 191 (nI (x + 1))) 180 2 = u at *
  have ru : ∀ j, j < 180 → u j = nI (nup N (72 + sp) (t' + 1) j) := fun j hj => by rw [hu126 j hj, r1 j hj]
  generalize hs3 : (if pc ≤ x then gF (bq sp) gd t' 19 u else u) = s3
  -- goods
  have hNN : ∃ N' : Nat → Nat, (∀ j, j < 180 → s3 j = nI (N' j)) ∧ Vn pc D N' ∧ (∀ j, ¬ (126 ≤ j ∧ j < 151) → N' j = nup N (72 + sp) (t' + 1) j ∧ s3 j = u j) ∧ (∀ g, g < 5 → 19 ≤ N' (146 + g) + 3 * (x + 1 - pc)) := by
    rw [← hs3]
    by_cases z : pc ≤ x
    · rw [if_pos z]
      obtain ⟨N', i1, i2, i3, i4⟩ := gF_V (t := t') ht4 hg5 ru v1 hbq (fun g hg => by
        rw [nup_ne (by omega), show 126 + (4 * 5 + g) = 146 + g by omega]
        have := q2 g hg
        omega) 19 (Nat.le_refl 19)
      refine ⟨N', i1, i2, i3, fun g hg => ?_⟩
      have e1 := i4 g hg
      have e2 := q2 g hg
      rw [nup_ne (by omega), show 126 + (4 * 5 + g) = 146 + g by omega] at e1
      omega
    · rw [if_neg z]
      refine ⟨nup N (72 + sp) (t' + 1), ru, v1, fun j _ => ⟨rfl, rfl⟩, fun g hg => ?_⟩
      rw [nup_ne (by omega)]
      have := q2 g hg
      omega
  obtain ⟨N', n1, n2, n3, n4⟩ := hNN
  have haw3 : awM (fun _ => s3) pc = awM (fun _ => s1) pc := aw_same (fun j hj => by rw [(n3 j (by omega)).2, hu126 j (by omega)]) (by rw [(n3 189 (by omega)).2, hu 189 (by omega) (by omega) (by omega) (by omega)])
  have s3m : ∀ j, 151 ≤ j → ¬ j = 192 → ¬ j = 191 → ¬ j = 180 → s3 j = I 24 j := fun j j0 j1 j2 j3 => by rw [(n3 j (by omega)).2, hu j (by omega) j1 j2 j3, s1n j (by omega)]
  -- the class
  have hTQ : ∀ b j, b ≤ 4 → sAw (ptI (rmb I) t' 1 sp) pc b j = I b j := fun b j hb => by rw [w2 b j (by omega), hPn b j (by omega), rmb_ne (by omega) (by omega)]
  have hbe : ∀ q, q < 19 → isBe (zz_up (sAw (ptI (rmb I) t' 1 sp) pc) 9 3 (nI sp)) (nI sp) q = bq sp q := fun q hq => by
    rw [← isBm_bq hR.tm hs1 hq, ← r_isBe hR.tb hR.tm (nI sp) hq]
    unfold isBe
    rw [show zz_up (sAw (ptI (rmb I) t' 1 sp) pc) 9 3 (nI sp) 2 = I 2 from funext fun j => by rw [up_ne (by decide), hTQ 2 j (by decide)]]
  have hbF : bFG (zz_up (sAw (ptI (rmb I) t' 1 sp) pc) 9 3 (nI sp)) t' sp gd = zz_fold (fun q (X : Bool × (Nat → Nat → Int32)) => if ¬ gd q = 5 ∧ bq sp q = true then (false, mv X.2 4 t' (gd q) 1) else X) 19 0 (true, zz_up (sAw (ptI (rmb I) t' 1 sp) pc) 9 3 (nI sp)) := by
    unfold bFG
    refine zz_fold_congr 19 0 _ (fun q a _ hq => ?_)
    rw [hbe q (by omega)]
  obtain ⟨b1, b2⟩ := bFG_C (be := bq sp) (gd := gd) (t := t') (b0 := true) ht4 hg5 hCu 19 (Nat.le_refl 19)
  rw [← hbF] at b1 b2
  rw [← gF_sup ht4 hg5 (by omega) 19 (Nat.le_refl 19)] at b1
  have hC3 : Cst (sH (sAw (ptI (rmb I) t' 1 sp) pc) t' x pc sp gd) 9 (sup s3 189 (awM (fun _ => s3) pc)) := by
    rw [haw3, ← hs3]
    unfold sH
    by_cases z : pc ≤ x
    · rw [if_pos z, if_pos z]
      exact b1
    · rw [if_neg z, if_neg z]
      exact hCu
  have hCn : ∀ b j, ¬ (9 ≤ b ∧ b ≤ 15) → sH (sAw (ptI (rmb I) t' 1 sp) pc) t' x pc sp gd b j = rmb I b j := fun b j hb => by
    unfold sH
    rw [up_ne (by omega)]
    split
    · rw [b2 b j (by omega), up_ne (by omega), w2 b j (by omega), hPn b j hb]
    · rw [up_ne (by omega), w2 b j (by omega), hPn b j hb]
  have hfl : Vfl pc 2 t' D (x + 1) s3 := by
    obtain ⟨f1, f2, f3', f4, f5, f6, f7, f8, f9, f10, f11, f12, f13⟩ := a3
    refine ⟨by rw [(n3 180 (by omega)).2, u180]; rfl, by decide, by decide, ?_, f5, ?_, f7, ?_, ?_, ?_, ?_, by rw [(n3 191 (by omega)).2, u191], by omega⟩
    · rw [s3m _ (by omega) (by omega) (by omega) (by omega), f4]
    · rw [s3m _ (by omega) (by omega) (by omega) (by omega), f6]
    · rw [s3m _ (by omega) (by omega) (by omega) (by omega)]; exact f8
    · rw [s3m _ (by omega) (by omega) (by omega) (by omega)]; exact f9
    · rw [s3m _ (by omega) (by omega) (by omega) (by omega)]; exact f10
    · rw [s3m _ (by omega) (by omega) (by omega) (by omega), f11, if_neg (by decide), if_neg (by decide)]
  have hsu : Vsu pc 2 t' (x + 1) N' s3 := by
    refine ⟨fun z => absurd z (by decide), fun _ => ⟨by omega, by omega, x2, sp, hs1, by rw [(n3 192 (by omega)).2, u192]⟩, fun _ => ⟨fun p hp => ⟨?_, ?_⟩, n4⟩⟩
    · rw [hutN_c (N := nup N (72 + sp) (t' + 1)) (fun j j1 j2 => (n3 j (by omega)).1), hut_up hs1 h0]
      have e1 := (q1 p hp).1
      have e2 := hct_s (pc := pc) (x := x) (p := p) x1 hp
      rw [← x2] at e2
      rw [e2]
      omega
    · rw [if_pos rfl, roadN_c (N := N) (fun j hj => by rw [(n3 j (by omega)).1, nup_ne (by omega)]), show x + 1 - 1 = x by omega]
      have := (q1 p hp).2
      rw [if_neg (by decide)] at this
      exact this
  have hcall := fun d n J ex => c61a (d := d) (n := n) (J := J) (ex := ex) (I := sAw (ptI (rmb I) t' 1 sp) pc) (s := x) (pc := pc) (t := t') (by rw [w2 9 0 (by omega), hP9, h19]) (by rw [w2 9 2 (by omega), hP9, h92]) (by rw [w2 5 5 (by omega), hPn 5 5 (by omega), rmb_ne (by omega) (Or.inr (by decide)), h5]) hpc (by omega) (by rw [w2 9 1 (by omega), hP9, ht9]) ht4 (hg := gd) (fun q hq => by rw [w2 6 q (by omega), hPn 6 q (by omega), rmb_ne (by omega) (Or.inl (by decide))]; exact (hH q hq).1) hg5 sp hs1
  refine place_go hR h5 hpc hp2 hzz ht9 ht4 (k := 1) (by decide) (by omega) (fun _ => hs1) hn (fun d n J ex => ?_) (fun d n J ex => ?_) (C := sH (sAw (ptI (rmb I) t' 1 sp) pc) t' x pc sp gd) (fl := false) (fun d n J ex => hcall d n J ex) hCn hC3 n1 n2 hfl hsu (fun I1 hI => ?_)
  · rw [c51 ht9 ht4 1 (by decide), r_tF hR hpc hC a1 a2 a3 a4 (by decide), htf]
    rfl
  · rw [c54 hR.tb ht9 1 sp (by decide) (by omega) (fun _ => hs1), r_ft hC hcor (by decide) (by omega) (fun _ => hs1) ht4, if_neg (by decide), if_pos rfl, hmb]
    rfl
  · have m := f_c4 hI
    have e24 : I1 24 = I 24 := funext fun j => m 24 j (by omega)
    have hT1 : Tm I1 := hR.tm.cong (fun b j h1 h2 => m b j (by omega))
    have ht1 : I1 24 181 = nI t' := (m 24 181 (by omega)).trans ht
    have hY24 : zz_up (rmM I1) 24 (72 + sp) (nI (t' + 1)) 24 = s1 := by rw [up_sup, f_r24 hI, hs1e]
    have hY0 : ∀ b j, ¬ b = 24 → zz_up (rmM I1) 24 (72 + sp) (nI (t' + 1)) b j = rmM I1 b j := fun b j hb => up_ne hb
    generalize hYe : zz_up (rmM I1) 24 (72 + sp) (nI (t' + 1)) = Y at *
    have hTY : Tm Y := hR.tm.cong (fun b j h1 h2 => by rw [hY0 b j (by omega), rmM_ne (by omega) (Or.inl (by omega)), m b j (by omega)])
    have y181 : Y 24 181 = nI t' := by rw [hY24, s1n _ (by omega), ht]
    have y191 : Y 24 191 = nI x := by rw [hY24, s1n _ (by omega), hx]
    have y15 : Y 23 15 = nI pc := by rw [hY0 23 15 (by decide), rmM_p, m 23 15 (by omega), h15]
    have y31 : ∀ q, q < 19 → Y 31 q = nI (gd q) ∧ gd q ≤ 5 := fun q hq => ⟨by rw [hY0 31 q (by decide), rmM_ne (by decide) (Or.inl (by decide)), m 31 q (by omega)]; exact (hH q hq).2.2.1, hg5 q hq⟩
    have hsHW : sHW Y sp 24 = sup (sup s1 192 (nI sp)) 191 (nI (x + 1)) ∧ ∀ b j, ¬ b = 24 → sHW Y sp b j = rmM I1 b j := by
      unfold sHW
      refine ⟨by rw [up_sup, up_sup, hY24, s1n 191 (by omega), hx, zz_nI_succ], fun b j hb => by rw [up_ne hb, up_ne hb, hY0 b j hb]⟩
    have e1 : tFm I1 t' 1 = true := by
      unfold tFm pcm cPm cnt at htf ⊢
      rw [e24, show I1 36 = I 36 from funext fun j => m 36 j (by omega)]
      exact htf
    have e2 : mB1 I1 t' sp = true := by
      unfold mB1 aln hRm at hmb ⊢
      rw [e24]
      exact hmb
    by_cases z : pc ≤ x
    · obtain ⟨g1, g2⟩ := sHS_24 (Y := Y) (X0 := sHW Y sp) (gd := gd) (c := sp) (t := t') hTY ht4 hs1 hg5 19 (Nat.le_refl 19)
      refine ⟨zz_up (zz_fold (sHS Y t' gd sp) 19 0 (sHW Y sp)) 24 180 2, fun b j hb => ?_, ?_, fun d n J ex X hX => ?_⟩
      · rw [up_ne hb, g2 b j hb, hsHW.2 b j hb]
      · rw [up_sup, g1, hsHW.1, gF_sup ht4 hg5 (by omega) 19 (Nat.le_refl 19), hue, ← hs3, if_pos z]
      · have w3 := c111 (d := d + 3) (n := n) (J := J) (ex := ex) (I := I1) ht1 ht4 1 (by decide)
        rw [e1] at w3
        have w4 := c107b (d := d + 3) (n := n) (J := J) (ex := ex) (I := I1) hT1 ht1 ht4 sp hs1
        rw [e2] at w4
        have w5 := c119b (d := d + 4) (n := n) (J := J) (ex := ex) (I := Y) y181 ht4 y191 hx8 y15 hpc z sp hs1 y31
        rw [← hYe] at w5 hX
        exact c121b (d := d) (X := X) hs1 hsm w3 w4 ht1 ht4 ((m 24 180 (by omega)).trans h1) w5 hX
    · refine ⟨zz_up (sHW Y sp) 24 180 2, fun b j hb => ?_, ?_, fun d n J ex X hX => ?_⟩
      · rw [up_ne hb, hsHW.2 b j hb]
      · rw [up_sup, hsHW.1, hue, ← hs3, if_neg z]
      · have w3 := c111 (d := d + 3) (n := n) (J := J) (ex := ex) (I := I1) ht1 ht4 1 (by decide)
        rw [e1] at w3
        have w4 := c107b (d := d + 3) (n := n) (J := J) (ex := ex) (I := I1) hT1 ht1 ht4 sp hs1
        rw [e2] at w4
        have w5 := c119a (d := d + 4) (n := n) (J := J) (ex := ex) (I := Y) y181 ht4 y191 y15 hpc (by omega) sp hs1
        rw [← hYe] at w5 hX
        exact c121b (d := d) (X := X) hs1 hsm w3 w4 ht1 ht4 ((m 24 180 (by omega)).trans h1) w5 hX
theorem sm_sp (k s : Int32) : isSm k s = (decide (0 ≤ s) && decide (s < spF k)) := by
  by_cases h : 0 ≤ k ∧ k ≤ 2
  · obtain ⟨q, hq, rfl⟩ := rng_nat (k := 2) rfl h.1 h.2 (by decide)
    have h3 : q = 0 ∨ q = 1 ∨ q = 2 := by omega
    unfold isSm spF
    rcases h3 with rfl | rfl | rfl
    · rw [show decide ((0 : Int32) ≤ nI 0) = true by decide, show decide (nI 0 ≤ (2 : Int32)) = true by decide, if_pos (by decide : nI 0 = 0), if_pos (by decide : nI 0 = 0)]
      simp
    · rw [show decide ((0 : Int32) ≤ nI 1) = true by decide, show decide (nI 1 ≤ (2 : Int32)) = true by decide, if_neg (by decide : ¬ nI 1 = 0), if_neg (by decide : ¬ nI 1 = 0), if_pos (by decide : nI 1 = 1)]
      simp
    · rw [show decide ((0 : Int32) ≤ nI 2) = true by decide, show decide (nI 2 ≤ (2 : Int32)) = true by decide, if_neg (by decide : ¬ nI 2 = 0), if_neg (by decide : ¬ nI 2 = 0), if_neg (by decide : ¬ nI 2 = 1), if_pos (by decide : nI 2 = 2)]
      simp
  · have i0 : ¬ k = 0 := fun z => h (by subst z; decide)
    have i1 : ¬ k = 1 := fun z => h (by subst z; decide)
    have i2 : ¬ k = 2 := fun z => h (by subst z; decide)
    have e1 : spF k = 0 := by
      unfold spF
      rw [if_neg i0, if_neg i1, if_neg i2]
    have e2 : isSm k s = false := by
      unfold isSm
      by_cases z : 0 ≤ k
      · have z2 : ¬ k ≤ 2 := fun w => h ⟨z, w⟩
        simp [z2]
      · simp [z]
    rw [e1, e2]
    by_cases z : 0 ≤ s
    · have : ¬ s < 0 := Int32.not_lt.mpr z
      simp [this]
    · simp [z]
theorem op_place (k s : Int32) : Opr 5 [.int k, .int s] 121 [.int k, .int s] (fun e => if e = 4 then 1 else if e = 3 then 2 else if e = 5 then 3 else 0) := fun I y hR => by
  obtain ⟨pc, h5, h15, hpc, hC⟩ := hR.plc
  have hss := sm_sp k s
  cases hsm : isSm k s with
  | false =>
    exact Or.inr ⟨4, fun d n J ex => c5e (d := d) k s (hss.symm.trans hsm), by decide, _, OkM.ref' hR (fun d n J ex => ⟨false, c121n1 (d := d) k s hsm⟩)⟩
  | true =>
    have hn : (decide (0 ≤ s) && decide (s < spF k)) = true := hss.symm.trans hsm
    have hsm' := hsm
    unfold isSm at hsm'
    simp only [Bool.and_eq_true, decide_eq_true_eq] at hsm'
    obtain ⟨m1, m2, m3, m4⟩ := hsm'
    obtain ⟨q, hq, rfl⟩ := rng_nat (k := 2) rfl m1 m2 (by decide)
    have hsn : ∃ sp, sp < 72 ∧ (¬ q = 0 → sp < 54) ∧ s = nI sp := by
      rw [Int32.le_iff_toInt_le, show (0 : Int32).toInt = 0 from rfl] at m3
      by_cases z : nI q = 0
      · rw [if_pos z, decide_eq_true_eq, Int32.lt_iff_toInt_lt, show (72 : Int32).toInt = 72 from rfl] at m4
        have q0 : q = 0 := (zz_nI_eq (b := 0) (by omega) (by decide)).mp z
        exact ⟨s.toInt.toNat, by omega, fun w => absurd q0 w, by apply Int32.toInt_inj.mp; rw [nI_toInt (by omega)]; omega⟩
      · rw [if_neg z, decide_eq_true_eq, Int32.lt_iff_toInt_lt, show (54 : Int32).toInt = 54 from rfl] at m4
        exact ⟨s.toInt.toNat, by omega, fun _ => by omega, by apply Int32.toInt_inj.mp; rw [nI_toInt (by omega)]; omega⟩
    obtain ⟨sp, hs1, hs2, rfl⟩ := hsn
    rcases Nat.lt_or_ge 0 pc with hp1 | hp0
    · obtain ⟨N, f, t, D, x, hp2, a1, a2, a3, a4, a5, a6⟩ := hR.dat h5 hpc hp1
      have ht : I 24 181 = nI t := a3.2.2.2.1
      have ht9 : I 9 1 = nI t := hC.on.trans ht
      have ht4 : t < 4 := by have := a3.2.2.2.2.1; omega
      have hcor := V_corners a1 a2 hpc
      have htF := r_tF hR hpc hC a1 a2 a3 a4 (k := q) (by omega)
      have hft := r_ft (I := I) (t := t) hC hcor (k := q) (s := sp) (by omega) hs1 hs2 ht4
      cases htf : tFm I t q with
      | false =>
        refine Or.inr ⟨3, fun d n J ex => c5f (d := d) _ _ hn ?_, by decide, _, OkM.ref' hR (fun d n J ex => ⟨false, c121n2 (d := d) _ _ hsm ?_⟩)⟩
        · rw [c51 (d := d + 16) ht9 ht4 q (by omega), htF, htf]
          rfl
        · rw [c111 (d := d + 3) ht ht4 q (by omega), htf]
          rfl
      | true =>
        have hs' : sp < (if q = 0 then 72 else 54) := by
          by_cases z : q = 0
          · rw [if_pos z]; exact hs1
          · rw [if_neg z]; exact hs2 z
        cases hmb : (if q = 0 then mB0 I t sp else if q = 1 then mB1 I t sp else decide (I 24 (72 + sp) = nI (t + 1))) with
        | false =>
          refine Or.inr ⟨5, fun d n J ex => c5g (d := d) _ _ hn ?_ ?_, by decide, _, OkM.ref' hR (fun d n J ex => ⟨false, c121n3 (d := d) _ _ hsm ?_ ?_⟩)⟩
          · rw [c51 (d := d + 16) ht9 ht4 q (by omega), htF, htf]
            rfl
          · rw [c54 (d := d + 15) hR.tb ht9 q sp (by omega) hs1 hs2, hft, hmb]
            rfl
          · rw [c111 (d := d + 3) ht ht4 q (by omega), htf]
            rfl
          · rw [mb_call (d := d + 3) hR.tm ht ht4 (by omega) hs', hmb]
            rfl
        | true =>
          have htf' := htf
          unfold tFm at htf'
          rw [Bool.and_eq_true, Bool.or_eq_true, Bool.or_eq_true] at htf'
          rcases htf'.1 with (z | z) | z
          · exact Or.inl (place6 hR (of_decide_eq_true z) ht ht4 (by omega) hs1 hs2 htf hmb hn hsm)
          · rw [Bool.and_eq_true, decide_eq_true_eq, Bool.or_eq_true, decide_eq_true_eq, decide_eq_true_eq] at z
            obtain ⟨zq, z⟩ := z
            subst zq
            rw [if_pos rfl] at hmb
            rcases z with z | z
            · exact Or.inl (place2 hR z ht ht4 hs1 htf hmb hn hsm)
            · exact Or.inl (place7 hR z ht ht4 hs1 htf hmb hn hsm)
          · rw [Bool.and_eq_true, decide_eq_true_eq, decide_eq_true_eq] at z
            obtain ⟨zq, z⟩ := z
            subst zq
            rw [if_neg (by decide), if_pos rfl] at hmb
            exact Or.inl (place1 hR z ht ht4 (hs2 (by decide)) htf hmb hn hsm)
    · have hL : I 24 180 = 0 := by
        obtain ⟨-, -, -, -, -, -, -, -, pc', g9, g10, g11, g12, g13⟩ := hR
        have : pc' = pc := (zz_nI_eq (by omega) (by omega)).mp (by rw [← g9, h5])
        subst this
        rcases g13 with ⟨-, -, z⟩ | ⟨z, -⟩
        · exact z.2.1
        · omega
      have n1 : ¬ I 24 180 = 1 := by rw [hL]; decide
      have n2 : ¬ I 24 180 = 2 := by rw [hL]; decide
      have n6 : ¬ I 24 180 = 6 := by rw [hL]; decide
      have n7 : ¬ I 24 180 = 7 := by rw [hL]; decide
      exact Or.inr ⟨3, fun d n J ex => c5f (d := d) _ _ hn (c51z (d := d + 16) (by rw [hC.ph]; exact n1) (by rw [hC.ph]; exact n2) (by rw [hC.ph]; exact n6) (by rw [hC.ph]; exact n7) _), by decide, _, OkM.ref' hR (fun d n J ex => ⟨false, c121n2 (d := d) _ _ hsm (c111z (d := d + 3) n1 n2 n6 n7 _)⟩)⟩
end OM
