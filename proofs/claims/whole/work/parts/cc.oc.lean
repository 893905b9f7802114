section OC
variable {d n t pc s : Nat} {I X I1 W A B : Nat → Nat → Int32} {J : Nat → Nat → Int64} {ex : List (Nat × Nat)} {y : Int64} {S : Nat → Int32}
theorem op_block (h v i : Int32) : Opr 8 [.int h, .int v, .int i] 132 [.int h, .int v, .int i] (fun e => if e = 3 then 1 else if e = 4 then 2 else 0) := fun I y hR => by
  obtain ⟨pc, h5, h15, hpc, hC⟩ := hR.plc
  by_cases hph : I 24 180 = 5
  · have hph9 : I 9 0 = 5 := hC.ph.trans hph
    obtain ⟨pc, N, t, D, x, h5, h15, hp2, hpc, hC, a1, a2, a3, a4, a5, a6⟩ := hR.ph_dat (k := 5) (by decide) (by decide) hph
    have ht : I 24 181 = nI t := a3.2.2.2.1
    have ht9 : I 9 1 = nI t := hC.on.trans ht
    have htp : t < pc := a3.2.2.2.2.1
    have ht4 : t < 4 := by omega
    have hzz : I 9 11 = 0 ∨ I 9 11 = 1 := by rw [hC.pl]; exact a3.pl
    have hHx : isHx h = (decide (0 ≤ h) && decide (h ≤ 18)) := by
      unfold isHx
      congr 2
      rw [Int32.lt_iff_toInt_lt, Int32.le_iff_toInt_le, show (19 : Int32).toInt = 19 from rfl, show (18 : Int32).toInt = 18 from rfl]
      exact propext (by omega)
    by_cases hbad : ¬ 0 ≤ h ∨ ¬ h ≤ 18 ∨ h = I 24 182 ∨ ¬ 0 ≤ i
    · refine Or.inr ⟨4, fun d n J ex => c8f (d := d + 15) hph9 h v i ?_, by decide, _, OkM.ref' hR (fun d n J ex => ⟨false, c132n2 (d := d) hph h v i hbad⟩)⟩
      rw [hHx, hC.bl]
      rcases hbad with z | z | z | z
      · left; simp [z]
      · left; simp [z]
      · exact Or.inr (Or.inl z)
      · exact Or.inr (Or.inr z)
    · have b1 : 0 ≤ h := Classical.byContradiction fun z => hbad (Or.inl z)
      have b2 : h ≤ 18 := Classical.byContradiction fun z => hbad (Or.inr (Or.inl z))
      have b3 : ¬ h = I 24 182 := fun z => hbad (Or.inr (Or.inr (Or.inl z)))
      have b4 : 0 ≤ i := Classical.byContradiction fun z => hbad (Or.inr (Or.inr (Or.inr z)))
      obtain ⟨q, hq, rfl⟩ := rng_nat (k := 18) rfl b1 b2 (by decide)
      have b39 : ¬ nI q = I 9 4 := by rw [hC.bl]; exact b3
      have hcor := V_corners a1 a2 hpc
      by_cases hv1 : v = -1
      · subst hv1
        have hve := r_hV (I := I) (t := t) hC hcor (q := q) hpc (by omega)
        cases hvm : hVm I t pc q with
        | true =>
          exact Or.inr ⟨4, fun d n J ex => c8g (d := d + 15) hR.tb hph9 ht9 ht4 h5 hpc q (by omega) i b39 b4 (hve.trans hvm), by decide, _, OkM.ref' hR (fun d n J ex => ⟨false, c132n3 (d := d) hR.tm hph ht ht4 h15 hpc q (by omega) i b3 b4 hvm⟩)⟩
        | false =>
          have hI : ∀ b' j, ¬ (9 ≤ b' ∧ b' ≤ 15) → zz_up (zz_up (rmb I) 9 4 (nI q)) 9 0 6 b' j = rmb I b' j := fun b' j hb => by rw [up_ne (by omega), up_ne (by omega)]
          have hCI := (hC.rmb.v4 (nI q)).v0p 6 (by decide) (by decide) (by decide)
          generalize hI1 : zz_up (zz_up (rmb I) 9 4 (nI q)) 9 0 6 = I1 at *
          have m := f_c4 hI
          have e24 : I1 24 = I 24 := funext fun j => m 24 j (by omega)
          have hW24 : zz_up (zz_up (rmM I1) 24 182 (nI q)) 24 180 6 24 = sup (sup (I 24) 182 (nI q)) 180 6 := by rw [up_sup, up_sup, f_r24 hI]
          have sn : ∀ j, ¬ j = 182 → ¬ j = 180 → sup (sup (I 24) 182 (nI q)) 180 6 j = I 24 j := fun j j1 j2 => by rw [sup_ne j2, sup_ne j1]
          refine Or.inl ⟨I1, some (.int (-1)), fun d n J ex _ => ⟨false, ?_⟩, fun d n J ex => ?_⟩
          · rw [← hI1]
            exact c8a (d := d + 15) hzz hR.tb hph9 ht9 ht4 h5 hpc q (by omega) i b39 b4 (hve.trans hvm)
          · obtain ⟨X, l1, l2, l3, l4⟩ := opq' (I1 := I1) hR h5 hpc hp2 hI (W := zz_up (zz_up (rmM I1) 24 182 (nI q)) 24 180 6) (fun b' j hb => by rw [up_ne hb, up_ne hb]) (by rw [hW24]; exact hCI) (by
              rw [hW24]
              exact Vst.qg (f' := 6) a3 a5 a6 (by decide) (by decide) (rep_sup2 (rep_sup2 a1 (by omega)) (by omega)) a2 (by rw [sup_eq]; rfl) (by decide) (by decide) (by rw [sn _ (by omega) (by omega)]; exact a3.2.2.2.2.2.1) a3.2.2.2.2.2.2.1 (by rw [sn _ (by omega) (by omega)]; exact a3.pl) (by rw [sn _ (by omega) (by omega)]; exact a3.2.2.2.2.2.2.2.2.1) (fun j hj => sn j (by omega) (by omega)) (sn _ (by omega) (by omega)) (sn _ (by omega) (by omega)) (sn _ (by omega) (by omega)) (sn _ (by omega) (by omega)) (sn _ (by omega) (by omega))) d n J ex
            refine ⟨X, false, ?_, l2, l3⟩
            have e0 : hVm I1 t pc q = false := by
              unfold hVm iVm clh hdm at hvm ⊢
              rw [e24]
              exact hvm
            exact c132a (d := d) (X := X) (hR.tm.cong (fun b' j h1 h2 => m b' j (by omega))) ((m 24 180 (by omega)).trans hph) ((m 24 181 (by omega)).trans ht) ht4 ((m 23 15 (by omega)).trans h15) hpc q (by omega) i (by rw [m 24 182 (by omega)]; exact b3) b4 e0 l1
      · cases hip : isP I v with
        | false =>
          exact Or.inr ⟨4, fun d n J ex => c8h (d := d + 15) hph9 q (by omega) v i hv1 b39 b4 (c73n (d := d + 16) v q hip), by decide, _, OkM.ref' hR (fun d n J ex => ⟨false, c132n4 (d := d) hph q (by omega) v i hv1 b3 b4 (c130n (d := d + 4) v q (by rw [← hR.eqP]; exact hip))⟩)⟩
        | true =>
          obtain ⟨u, hu, rfl⟩ := isP_nat h5 hpc hip
          have hiv := r_iV (I := I) (t := t) hC hcor (p := u) (q := q) (by omega) (by omega) clh_le
          have w73 := fun d n J ex => c73 (d := d) (n := n) (J := J) (ex := ex) hR.tb ht9 ht4 h5 hpc u q hu (by omega)
          have w73' : ∀ d n J ex, zz_Call zz_prog (d + 3) 73 [.ref 5, .int (nI u), .int (nI q)] (zz_hp n I J ex) = some (.inl (some (.int (bI (iVm I t u q)))), true, zz_hp n I J ex) := fun d n J ex => by
            rw [← hiv]
            exact w73 d n J ex
          cases hvm : iVm I t u q with
          | false =>
            rw [hvm] at w73'
            have w130 := fun d n J ex => c130 (d := d) (n := n) (J := J) (ex := ex) hR.tm ht ht4 h15 hpc u q hu (by omega)
            rw [hvm] at w130
            exact Or.inr ⟨4, fun d n J ex => c8h (d := d + 15) hph9 q (by omega) (nI u) i hv1 b39 b4 (w73' (d + 16) n J ex), by decide, _, OkM.ref' hR (fun d n J ex => ⟨false, c132n4 (d := d) hph q (by omega) (nI u) i hv1 b3 b4 (w130 (d + 4) n J ex)⟩)⟩
          | true =>
            rw [hvm] at w73'
            have hvm' := hvm
            unfold iVm at hvm'
            simp only [Bool.and_eq_true, Bool.not_eq_true', decide_eq_false_iff_not, decide_eq_true_eq] at hvm'
            obtain ⟨hut, -, hsz0⟩ := hvm'
            obtain ⟨g, hg, go1, go2, hN1⟩ := go_eq hC a1 a2 (v := u) (by omega) b4 hsz0
            have hZ : ∀ b' j, ¬ (9 ≤ b' ∧ b' ≤ 15) → zz_up (zz_up (rmb I) 9 4 (nI q)) 9 0 6 b' j = rmb I b' j := fun b' j hb => by rw [up_ne (by omega), up_ne (by omega)]
            have hCZ := (hC.rmb.v4 (nI q)).v0p 6 (by decide) (by decide) (by decide)
            have hgo1 : gOC (zz_up (zz_up (rmb I) 9 4 (nI q)) 9 0 6) u i = nI g := by
              rw [← go1]
              unfold gOC hsz
              rw [show zz_up (zz_up (rmb I) 9 4 (nI q)) 9 0 6 12 = I 12 from funext fun j => by rw [up_ne (by decide), up_ne (by decide), rmb_ne (by omega) (Or.inl (by decide))]]
            have hI : ∀ b' j, ¬ (9 ≤ b' ∧ b' ≤ 15) → mv (zz_up (zz_up (rmb I) 9 4 (nI q)) 9 0 6) u t g 1 b' j = rmb I b' j := fun b' j hb => by rw [mv_ne (by omega), hZ b' j hb]
            have hCI := hCZ.mv (f := u) (t := t) (by omega) (by omega) hg 1
            generalize hI1 : mv (zz_up (zz_up (rmb I) 9 4 (nI q)) 9 0 6) u t g 1 = I1 at *
            have m := f_c4 hI
            have e24 : I1 24 = I 24 := funext fun j => m 24 j (by omega)
            have hW24 : blM I1 q t u g 24 = mvS (sup (sup (I 24) 182 (nI q)) 180 6) u t g 1 := by
              unfold blM
              rw [up_sup, up_sup, up_sup, up_sup, f_r24 hI, e24, mvS_fn (s' := I 24) hut (by omega) (by omega) hg, sup_ne (by omega), sup_ne (by omega), sup_ne (by omega), sup_ne (by omega), show 126 + 5 * u + g = 126 + (u * 5 + g) by omega, show 126 + 5 * t + g = 126 + (t * 5 + g) by omega, sup_comm (i := 126 + (t * 5 + g)) (j := 180) (by omega), sup_comm (i := 126 + (u * 5 + g)) (j := 180) (by omega)]
            have r1 := rep_mv (rep_sup2 (rep_sup2 a1 (i := 182) (x := nI q) (by omega)) (i := 180) (x := 6) (by omega)) (f := u) (t := t) (g := g) (c := 1) (by omega) (by omega) hg hN1
            have nn : ∀ j, ¬ (126 ≤ j ∧ j < 151) → mvN N u t g 1 j = N j := fun j hj => mvN_ne (by omega) (by omega)
            have sn : ∀ j, ¬ (126 ≤ j ∧ j < 151) → ¬ j = 182 → ¬ j = 180 → mvS (sup (sup (I 24) 182 (nI q)) 180 6) u t g 1 j = I 24 j := fun j j0 j1 j2 => by rw [mvS_ne (by omega) (by omega), sup_ne j2, sup_ne j1]
            refine Or.inl ⟨I1, some (.int (nI g)), fun d n J ex _ => ⟨false, ?_⟩, fun d n J ex => ?_⟩
            · rw [← hI1]
              exact c8b (d := d + 15) hzz hph9 ht9 ht4 q (by omega) u (by omega) i b39 b4 (w73' (d + 16) n J ex) hg hgo1
            · obtain ⟨X, l1, l2, l3, l4⟩ := opq' (I1 := I1) hR h5 hpc hp2 hI (W := blM I1 q t u g) (fun b' j hb => by unfold blM; rw [up_ne hb, up_ne hb, up_ne hb, up_ne hb]) (by rw [hW24]; exact hCI) (by
                rw [hW24]
                exact Vst.qg (f' := 6) a3 a5 a6 (by decide) (by decide) r1 (a2.upd (fun j hj => nn j (by omega)) (fun g' hg' => by
                  rw [mvN_sum (by omega) (by omega) hg hN1 hg']
                  exact a2.2.2.1 g' hg') (fun j j1 j2 => by rw [nn j (by omega)]; exact a2.2.2.2.1 j j1 j2) (fun j j1 j2 => by rw [nn j (by omega)]; exact a2.2.2.2.2.1 j j1 j2)) (by rw [mvS_ne (by omega) (by omega), sup_eq]; rfl) (by decide) (by decide) (by rw [sn _ (by omega) (by omega) (by omega)]; exact a3.2.2.2.2.2.1) a3.2.2.2.2.2.2.1 (by rw [sn _ (by omega) (by omega) (by omega)]; exact a3.pl) (by rw [sn _ (by omega) (by omega) (by omega)]; exact a3.2.2.2.2.2.2.2.2.1) (fun j hj => sn j (by omega) (by omega) (by omega)) (sn _ (by omega) (by omega) (by omega)) (sn _ (by omega) (by omega) (by omega)) (sn _ (by omega) (by omega) (by omega)) (sn _ (by omega) (by omega) (by omega)) (sn _ (by omega) (by omega) (by omega))) d n J ex
              refine ⟨X, false, ?_, l2, l3⟩
              have e0 : iVm I1 t u q = true := by
                unfold iVm clh hdm at hvm ⊢
                rw [e24]
                exact hvm
              have w := c130 (d := d + 4) (n := n) (J := J) (ex := ex) (I := I1) (hR.tm.cong (fun b' j h1 h2 => m b' j (by omega))) ((m 24 181 (by omega)).trans ht) ht4 ((m 23 15 (by omega)).trans h15) hpc u q hu (by omega)
              rw [e0] at w
              have e1 : hdm I1 u = hdm I u := by
                unfold hdm
                rw [e24]
              have e2 : blG I1 u i = nI g := by
                rw [← go2]
                unfold blG blS hdm
                rw [e24]
              exact c132b (d := d) (X := X) ((m 24 180 (by omega)).trans hph) ((m 24 181 (by omega)).trans ht) ht4 q (by omega) u (by omega) hut i (by rw [m 24 182 (by omega)]; exact b3) b4 w (by
                rw [e1]
                intro z
                rw [z] at hsz0
                exact absurd hsz0 (by decide)) hg e2 l1
  · exact Or.inr ⟨3, fun d n J ex => c8e (d := d + 15) (fun z => hph (hC.ph.symm.trans z)) h v i, by decide, _, OkM.ref' hR (fun d n J ex => ⟨false, c132n1 (d := d) hph h v i⟩)⟩
end OC
