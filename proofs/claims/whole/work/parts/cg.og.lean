section OG
variable {d n t pc s : Nat} {I X I1 W A B : Nat → Nat → Int32} {J : Nat → Nat → Int64} {ex : List (Nat × Nat)} {y : Int64} {S : Nat → Int32}
def flS (S : Nat → Int32) : Nat → Int32 := zz_fold (fun k S => sup S (171 + k) 0) 5 0 S
theorem flS_ne {j : Nat} (h : ¬ (171 ≤ j ∧ j < 176)) : flS S j = S j := by
  unfold flS
  simp only [zz_fold]
  rw [sup_ne (by omega), sup_ne (by omega), sup_ne (by omega), sup_ne (by omega), sup_ne (by omega)]
theorem flS_rep {N : Nat → Nat} (h : ∀ j, j < 180 → S j = nI (N j)) : ∀ j, j < 180 → flS S j = nI (if 171 ≤ j ∧ j < 176 then 0 else N j) := fun j hj => by
  by_cases z : 171 ≤ j ∧ j < 176
  · rw [if_pos z]
    have h5 : j = 171 ∨ j = 172 ∨ j = 173 ∨ j = 174 ∨ j = 175 := by omega
    unfold flS
    simp only [zz_fold, Nat.zero_add, Nat.reduceAdd]
    rcases h5 with rfl | rfl | rfl | rfl | rfl
    · rw [sup_ne (by omega), sup_ne (by omega), sup_ne (by omega), sup_ne (by omega), sup_eq]; rfl
    · rw [sup_ne (by omega), sup_ne (by omega), sup_ne (by omega), sup_eq]; rfl
    · rw [sup_ne (by omega), sup_ne (by omega), sup_eq]; rfl
    · rw [sup_ne (by omega), sup_eq]; rfl
    · rw [sup_eq]; rfl
  · rw [if_neg z, flS_ne z]
    exact h j hj
theorem op_pass : Opr 14 [] 142 [] (fun e => if e = 3 then 1 else 0) := fun I y hR => by
  obtain ⟨pc, h5, h15, hpc, hC⟩ := hR.plc
  by_cases h7 : I 24 180 = 7
  · exact Or.inl (pass_a hR h7)
  · by_cases h6 : I 24 180 = 6
    · have h69 : I 9 0 = 6 := hC.ph.trans h6
      obtain ⟨pc, N, t, D, x, h5, h15, hp2, hpc, hC, a1, a2, a3, a4, a5, a6⟩ := hR.ph_dat (k := 6) (by decide) (by decide) h6
      have ht : I 24 181 = nI t := a3.2.2.2.1
      have ht9 : I 9 1 = nI t := hC.on.trans ht
      have htp : t < pc := a3.2.2.2.2.1
      have ht4 : t < 4 := by omega
      have hzz : I 9 11 = 0 ∨ I 9 11 = 1 := by rw [hC.pl]; exact a3.pl
      have htt : ∃ u, u < pc ∧ u = (if t + 1 < pc then t + 1 else 0) ∧ nI (t + 1) - nI (t + 1) / nI pc * nI pc = nI u := by
        refine ⟨if t + 1 < pc then t + 1 else 0, by split <;> omega, rfl, ?_⟩
        rw [div_nat (by omega) (by omega), zz_nI_mul]
        by_cases z : t + 1 < pc
        · rw [if_pos z, Nat.div_eq_of_lt z, Nat.zero_mul, show nI 0 = 0 from rfl, Int32.sub_zero]
        · have e : t + 1 = pc := by omega
          rw [if_neg z, e, Nat.div_self (by omega), Nat.one_mul, Int32.sub_self]
          rfl
      obtain ⟨u, hu, hue, huv⟩ := htt
      have hCe : Cst (eT (rmb I) t pc) 9 (flS (sup (sup (sup (sup (I 24) 181 (nI u)) 180 3) 184 0) 186 (-1))) := by
        unfold eT fl14 flS
        refine fold_rel' (P := fun (A : Nat → Nat → Int32) (b : Nat → Int32) => Cst A 9 b) 5 0 _ _ (fun k A b _ hk hP => hP.u14 (by omega) rfl) ?_
        have e1 : (if t + 1 < pc then nI (t + 1) else 0) = nI u := by
          rw [hue]
          split <;> rfl
        rw [e1]
        exact (((hC.rmb.v1 (nI u)).v0p 3 (by decide) (by decide) (by decide)).v11 0).v7 (-1)
      have hen : ∀ b' j, ¬ (9 ≤ b' ∧ b' ≤ 15) → eT (rmb I) t pc b' j = rmb I b' j := fun b' j hb => by
        unfold eT
        rw [fl14_ne (by omega), up_ne (by omega), up_ne (by omega), up_ne (by omega), up_ne (by omega)]
      generalize hs' : flS (sup (sup (sup (sup (I 24) 181 (nI u)) 180 3) 184 0) 186 (-1)) = s' at *
      have sn : ∀ j, ¬ (171 ≤ j ∧ j < 176) → ¬ j = 181 → ¬ j = 180 → ¬ j = 184 → ¬ j = 186 → s' j = I 24 j := fun j j0 j1 j2 j3 j4 => by rw [← hs', flS_ne j0, sup_ne j4, sup_ne j3, sup_ne j2, sup_ne j1]
      have r2 : ∀ j, j < 180 → s' j = nI ((fun j => if 171 ≤ j ∧ j < 176 then 0 else N j) j) := by
        rw [← hs']
        exact flS_rep (rep_sup2 (rep_sup2 (rep_sup2 (rep_sup2 a1 (by omega)) (by omega)) (by omega)) (by omega))
      have nn : ∀ j, ¬ (171 ≤ j ∧ j < 176) → (fun j => if 171 ≤ j ∧ j < 176 then 0 else N j) j = N j := fun j hj => if_neg hj
      generalize hN' : (fun j => if 171 ≤ j ∧ j < 176 then 0 else N j) = N' at *
      have hVn : Vn pc D N' := a2.upd (fun j hj => nn j (by omega)) (fun g hg => by
        unfold sumG
        rw [nn _ (by omega), nn _ (by omega), nn _ (by omega), nn _ (by omega), nn _ (by omega)]
        exact a2.2.2.1 g hg) (fun j j1 j2 => by
        by_cases z : 171 ≤ j ∧ j < 176
        · rw [← hN']
          show (if 171 ≤ j ∧ j < 176 then 0 else N j) ≤ D
          rw [if_pos z]
          omega
        · rw [nn j z]
          exact a2.2.2.2.1 j j1 j2) (fun j j1 j2 => by rw [nn j (by omega)]; exact a2.2.2.2.2.1 j j1 j2)
      have hfl : Vfl pc 3 u D x s' := by
        obtain ⟨f1, f2, f3, f4, f5, f6, f7, f8, f9, f10, f11, f12, f13⟩ := a3
        refine ⟨?_, by decide, by decide, ?_, hu, ?_, f7, ?_, ?_, ?_, ?_, ?_, f13⟩
        · rw [← hs', flS_ne (by omega), sup_ne (by omega), sup_ne (by omega), sup_eq]; rfl
        · rw [← hs', flS_ne (by omega), sup_ne (by omega), sup_ne (by omega), sup_ne (by omega), sup_eq]
        · rw [sn _ (by omega) (by omega) (by omega) (by omega) (by omega), f6]
        · left
          rw [← hs', flS_ne (by omega), sup_ne (by omega), sup_eq]
        · left
          rw [← hs', flS_ne (by omega), sup_eq]
        · rw [sn _ (by omega) (by omega) (by omega) (by omega) (by omega)]; exact f10
        · rw [sn _ (by omega) (by omega) (by omega) (by omega) (by omega), f11, if_neg (by decide), if_neg (by decide)]
        · rw [sn _ (by omega) (by omega) (by omega) (by omega) (by omega), f12]
      have haw : awM (fun _ => s') pc = s' 189 := a5.quiet (s' := s') (fun j hj => sn j (by omega) (by omega) (by omega) (by omega) (by omega)) (sn 189 (by omega) (by omega) (by omega) (by omega) (by omega))
      have hcor := V_corners r2 hVn hpc
      have hwin := win_C (A := eT (rmb I) t pc) (t := u) hCe hcor (by omega) hfl.1 (by decide) (tg := I 5 6) (by rw [hen 5 6 (by omega), rmb_ne (by omega) (Or.inr (by decide))])
      have hpw : psW I t pc = (if sW (eT (rmb I) t pc) u = true then zz_up (eT (rmb I) t pc) 9 0 8 else eT (rmb I) t pc) := by
        unfold psW
        rw [hue]
      have hI : ∀ b' j, ¬ (9 ≤ b' ∧ b' ≤ 15) → psW I t pc b' j = rmb I b' j := fun b' j hb => by
        rw [hpw]
        split
        · rw [up_ne (by omega), hen b' j hb]
        · exact hen b' j hb
      rw [← hpw] at hwin
      have hcall := fun d n J ex => c14b (d := d) (n := n) (J := J) (ex := ex) hzz h69 ht9 ht4 h5 hpc
      generalize hI1 : psW I t pc = I1 at *
      have m := f_c4 hI
      have e24 : I1 24 = I 24 := funext fun j => m 24 j (by omega)
      have hW24 : flM (psM I1 (nI u)) 24 = s' ∧ ∀ b j, ¬ b = 24 → flM (psM I1 (nI u)) b j = rmM I1 b j := by
        rw [← hs']
        unfold flM flS
        refine fold_rel' (P := fun (A : Nat → Nat → Int32) (b : Nat → Int32) => A 24 = b ∧ ∀ b' j, ¬ b' = 24 → A b' j = rmM I1 b' j) 5 0 _ _ (fun k A b _ hk hP => ⟨by rw [up_sup, hP.1], fun b' j hb => by rw [up_ne hb]; exact hP.2 b' j hb⟩) ⟨?_, fun b' j hb => ?_⟩
        · unfold psM
          rw [up_sup, up_sup, up_sup, up_sup, f_r24 hI]
        · unfold psM
          rw [up_ne hb, up_ne hb, up_ne hb, up_ne hb]
      refine Or.inl ⟨I1, some (.int (nI u)), fun d n J ex _ => ⟨false, ?_⟩, fun d n J ex => ?_⟩
      · have := hcall (d + 16) n J ex
        rw [← hue] at this
        exact this
      · obtain ⟨X, l1, l2, l3, l4⟩ := opw (I1 := I1) hR h5 hpc hp2 hI (W := flM (psM I1 (nI u))) hW24.2 (by rw [hW24.1]; exact r2) hVn (by rw [hW24.1]; exact hfl) ⟨fun z => by omega, fun z => by omega, fun z => by omega⟩ (by rw [hW24.1, lkS_q haw]; exact hwin) d n J ex
        refine ⟨X, false, ?_, l2, l3⟩
        have := c142b (d := d) (n := n) (J := J) (ex := ex) (I := I1) (X := X) ((m 24 180 (by omega)).trans h6) ((m 24 181 (by omega)).trans ht) ht4 ((m 23 15 (by omega)).trans h15) (by omega) hpc (by rw [huv]; exact l1)
        rw [this, l4, hW24.1, lkS_q haw]
        have e181 : (if 3 ≤ 3 ∧ 3 ≤ 7 ∧ I 5 6 ≤ ptm (fun _ => s') u then sup (sup s' 190 (nI u)) 180 8 else s') 181 = nI u := by
          split
          · rw [sup_ne (by omega), sup_ne (by omega)]
            exact hfl.2.2.2.1
          · exact hfl.2.2.2.1
        rw [e181]
    · exact Or.inr ⟨3, fun d n J ex => c14e (d := d + 16) (fun z => h6 (hC.ph.symm.trans z)) (fun z => h7 (hC.ph.symm.trans z)), by decide, _, OkM.ref' hR (fun d n J ex => ⟨false, c142n (d := d) h6 h7⟩)⟩
end OG
