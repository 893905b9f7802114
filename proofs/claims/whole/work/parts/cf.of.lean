section OF
variable {d n t pc s : Nat} {I X I1 W A B : Nat → Nat → Int32} {J : Nat → Nat → Int64} {ex : List (Nat × Nat)} {y : Int64} {S : Nat → Int32}
theorem fr_pts (e9 : X 9 = I 9) (e11 : X 11 = I 11) (e13 : X 13 = I 13) : pts X t = pts I t := by
  unfold pts wth
  rw [e9, e11, e13]
theorem pts_ptm (h : Cst A 9 S) {N : Nat → Nat} (hc : ∀ c, c < 54 → S (72 + c) = nI (N (72 + c)) ∧ N (72 + c) ≤ 12) (ht : t < 4) : pts A t = ptm (fun _ => S) t := by
  have e1 : pts (mix A (fun _ => S)) t = pts A t := fr_pts (mixn (by decide)) (mixn (by decide)) (mixn (by decide))
  have e2 : ptm (mix A (fun _ => S)) t = ptm (fun _ => S) t := fr_ptm (X := mix A (fun _ => S)) (I := fun _ => S) mix24 t
  rw [← e1, ← e2]
  exact r_pts (W := fun c => N (72 + c)) (Cst.mix (A := A) (B := fun _ => S) h) (by rw [mix24]; exact hc) ht
theorem sW_iff (h : Cst A 9 S) {N : Nat → Nat} (hc : ∀ c, c < 54 → S (72 + c) = nI (N (72 + c)) ∧ N (72 + c) ≤ 12) (ht : t < 4) {f : Nat} (hf : S 180 = nI f) (hf8 : f ≤ 8) {tg : Int32} (h56 : A 5 6 = tg) : sW A t = true ↔ (3 ≤ f ∧ f ≤ 7 ∧ tg ≤ ptm (fun _ => S) t) := by
  unfold sW
  rw [pts_ptm h hc ht, h.ph, hf, h56, Bool.and_eq_true, Bool.and_eq_true, decide_eq_true_eq, decide_eq_true_eq, decide_eq_true_eq]
  have y1 := zz_nI_le (a := 3) (b := f) (by decide) (by omega)
  have y2 := zz_nI_le (a := f) (b := 7) (by omega) (by decide)
  constructor
  · rintro ⟨z1, z2, z3⟩
    exact ⟨y1.mp z1, y2.mp z2, z3⟩
  · rintro ⟨z1, z2, z3⟩
    exact ⟨y1.mpr z1, y2.mpr z2, z3⟩
theorem sup_self {i : Nat} {v : Int32} (h : v = S i) : sup S i v = S := by
  funext j
  by_cases z : j = i
  · subst z
    rw [sup_eq, h]
  · rw [sup_ne z]
theorem win_C (h : Cst A 9 S) {N : Nat → Nat} (hc : ∀ c, c < 54 → S (72 + c) = nI (N (72 + c)) ∧ N (72 + c) ≤ 12) (ht : t < 4) {f : Nat} (hf : S 180 = nI f) (hf8 : f ≤ 8) {tg : Int32} (h56 : A 5 6 = tg) : Cst (if sW A t = true then zz_up A 9 0 8 else A) 9 (if 3 ≤ f ∧ f ≤ 7 ∧ tg ≤ ptm (fun _ => S) t then sup (sup S 190 (nI t)) 180 8 else S) := by
  have hi := sW_iff h hc ht hf hf8 h56
  by_cases z : sW A t = true
  · rw [if_pos z, if_pos (hi.mp z)]
    exact (h.m190 (nI t)).v0p 8 (by decide) (by decide) (by decide)
  · rw [if_neg z, if_neg (fun w => z (hi.mpr w))]
    exact h
theorem lkS_q {pc' f : Nat} {tg : Int32} (h : awM (fun _ => S) pc' = S 189) : lkS S pc' t f tg = if 3 ≤ f ∧ f ≤ 7 ∧ tg ≤ ptm (fun _ => S) t then sup (sup S 190 (nI t)) 180 8 else S := by
  unfold lkS
  rw [sup_self h]
theorem op_buy : Opr 12 [] 138 [] (fun e => if e = 3 then 1 else 0) := fun I y hR => by
  obtain ⟨pc, h5, h15, hpc, hC⟩ := hR.plc
  by_cases h6 : I 24 180 = 6
  · have h69 : I 9 0 = 6 := hC.ph.trans h6
    obtain ⟨pc, N, t, D, x, h5, h15, hp2, hpc, hC, a1, a2, a3, a4, a5, a6⟩ := hR.ph_dat (k := 6) (by decide) (by decide) h6
    have ht : I 24 181 = nI t := a3.2.2.2.1
    have ht9 : I 9 1 = nI t := hC.on.trans ht
    have htp : t < pc := a3.2.2.2.2.1
    have ht4 : t < 4 := by omega
    have hD : I 24 183 = nI D := a3.2.2.2.2.2.1
    have hD16 : D ≤ 16 := a3.2.2.2.2.2.2.1
    have hD9 : I 9 5 = nI D := hC.dr.trans hD
    have hzz : I 9 11 = 0 ∨ I 9 11 = 1 := by rw [hC.pl]; exact a3.pl
    have hpe := r_cPay hR.tb hR.tm hC (t := t) (k := 3) ht4 (by decide)
    by_cases hn : D = 16 ∨ cPm I t 3 = false
    · refine Or.inr ⟨3, fun d n J ex => c12f (d := d + 16) h69 ht9 ht4 hD9 hD16 (by rw [hpe]; exact hn), by decide, _, OkM.ref' hR (fun d n J ex => ⟨false, c138n (d := d) (Or.inr ?_)⟩)⟩
      rcases hn with z | z
      · left
        rw [hD, z]
        rfl
      · exact Or.inr ⟨t, ht4, ht, z⟩
    · have hDl : D < 16 := by
        have : ¬ D = 16 := fun z => hn (Or.inl z)
        omega
      have hcp : cPm I t 3 = true := by
        cases z : cPm I t 3 with
        | true => rfl
        | false => exact absurd (Or.inr z) hn
      have hdk : I 35 D = nI (dkN y D) := hR.2.2.2.2.1 D hDl
      have hdk5 := dkN_lt y D
      generalize hkd : dkN y D = kd at *
      have hcl := cPm_le hR.tm.2.2.2 a1 a2 ht4 (by decide) hcp
      obtain ⟨N1, p1, p2, p3, p4⟩ := pay_V (s := I 24) ht4 (x := 3) (by decide) a1 a2 hcl
      have hTr : Tb (rmb I) := hR.tb.cong (fun b j hb => rmb_ne (by omega) (by omega))
      have hCb : Cst (byW I t D kd) 9 (sup (sup (sup (payS (I 24) t 3) 183 (nI (D + 1))) (151 + (t * 5 + kd)) (I 24 (151 + (t * 5 + kd)) + 1)) (171 + kd) (I 24 (171 + kd) + 1)) := by
        unfold byW
        exact (((r_pay hTr hC.rmb ht4).v5 _).u13 (by omega) (by rw [hC.cd (by omega)])).u14 hdk5 (by rw [hC.fr hdk5])
      have hbn : ∀ b' j, ¬ (9 ≤ b' ∧ b' ≤ 15) → byW I t D kd b' j = rmb I b' j := fun b' j hb => by
        unfold byW
        rw [up_ne (by omega), up_ne (by omega), up_ne (by omega), payI_ne (by omega)]
      generalize hs' : sup (sup (sup (payS (I 24) t 3) 183 (nI (D + 1))) (151 + (t * 5 + kd)) (I 24 (151 + (t * 5 + kd)) + 1)) (171 + kd) (I 24 (171 + kd) + 1) = s' at *
      have sn : ∀ j, ¬ (126 ≤ j ∧ j < 151) → ¬ j = 183 → ¬ j = 151 + (t * 5 + kd) → ¬ j = 171 + kd → s' j = I 24 j := fun j j0 j1 j2 j3 => by rw [← hs', sup_ne j3, sup_ne j2, sup_ne j1, p4 j j0]
      have r2 : ∀ j, j < 180 → s' j = nI (nup (nup N1 (151 + (t * 5 + kd)) (N (151 + (t * 5 + kd)) + 1)) (171 + kd) (N (171 + kd) + 1) j) := by
        rw [← hs']
        exact rep_sup (rep_sup (rep_sup2 p1 (by omega)) (by rw [a1 _ (by omega)]; exact zz_nI_succ _)) (by rw [a1 _ (by omega)]; exact zz_nI_succ _)
      have hVn : Vn pc (D + 1) (nup (nup N1 (151 + (t * 5 + kd)) (N (151 + (t * 5 + kd)) + 1)) (171 + kd) (N (171 + kd) + 1)) := p2.upd (fun j hj => by rw [nup_ne (by omega), nup_ne (by omega)]) (fun g hg => by
        rw [nup_sum (by omega) hg, nup_sum (by omega) hg]
        exact p2.2.2.1 g hg) (fun j j1 j2 => by
        by_cases z1 : j = 171 + kd
        · subst z1
          rw [nup_eq]
          have := a2.2.2.2.1 _ j1 j2
          omega
        · rw [nup_ne z1]
          by_cases z2 : j = 151 + (t * 5 + kd)
          · subst z2
            rw [nup_eq]
            have := a2.2.2.2.1 _ j1 j2
            omega
          · rw [nup_ne z2]
            have := p2.2.2.2.1 j j1 j2
            omega) (fun j j1 j2 => by rw [nup_ne (by omega), nup_ne (by omega)]; exact p2.2.2.2.2.1 j j1 j2)
      have hfl : Vfl pc 6 t (D + 1) x s' := by
        obtain ⟨f1, f2, f3, f4, f5, f6, f7, f8, f9, f10, f11, f12, f13⟩ := a3
        refine ⟨?_, f2, f3, ?_, f5, ?_, by omega, ?_, ?_, ?_, ?_, ?_, f13⟩
        · rw [sn _ (by omega) (by omega) (by omega) (by omega), f1]
        · rw [sn _ (by omega) (by omega) (by omega) (by omega), f4]
        · rw [← hs', sup_ne (by omega), sup_ne (by omega), sup_eq]
        · rw [sn _ (by omega) (by omega) (by omega) (by omega)]; exact f8
        · rw [sn _ (by omega) (by omega) (by omega) (by omega)]; exact f9
        · rw [sn _ (by omega) (by omega) (by omega) (by omega)]; exact f10
        · rw [sn _ (by omega) (by omega) (by omega) (by omega), f11]
        · rw [sn _ (by omega) (by omega) (by omega) (by omega), f12]
      have haw : awM (fun _ => s') pc = s' 189 := a5.quiet (s' := s') (fun j hj => sn j (by omega) (by omega) (by omega) (by omega)) (sn 189 (by omega) (by omega) (by omega) (by omega))
      have hcor := V_corners r2 hVn hpc
      have hwin := win_C (A := byW I t D kd) (t := t) hCb hcor ht4 hfl.1 (by decide) (tg := I 5 6) (by rw [hbn 5 6 (by omega), rmb_ne (by omega) (Or.inr (by decide))])
      have hI : ∀ b' j, ¬ (9 ≤ b' ∧ b' ≤ 15) → (if sW (byW I t D kd) t = true then zz_up (byW I t D kd) 9 0 8 else byW I t D kd) b' j = rmb I b' j := fun b' j hb => by
        split
        · rw [up_ne (by omega), hbn b' j hb]
        · exact hbn b' j hb
      have hcall := fun d n J ex (hJ : J 5 4 = y) => c12a (d := d) (n := n) (J := J) (ex := ex) hzz h69 ht9 ht4 hD9 hDl (hpe.trans hcp) hdk5 (fun X => by
        rw [c76 (d := d + 2) (nI D), hJ, dk_c y hDl, hkd])
      generalize hI1 : (if sW (byW I t D kd) t = true then zz_up (byW I t D kd) 9 0 8 else byW I t D kd) = I1 at *
      have m := f_c4 hI
      have e24 : I1 24 = I 24 := funext fun j => m 24 j (by omega)
      have hW24 : byM I1 t D kd 24 = s' := by
        unfold byM
        rw [up_sup, up_sup, up_sup, pym_s (fun j => by rw [rmM_ne (by decide) (Or.inl (by decide)), m 36 j (by omega)]; exact hR.tm.2.2.2 j) ht4, f_r24 hI, e24, ← hs', show 151 + 5 * t + kd = 151 + (t * 5 + kd) by omega]
      refine Or.inl ⟨I1, some (.int (16 - nI (D + 1))), fun d n J ex hJ => ⟨false, hcall (d + 16) n J ex hJ⟩, fun d n J ex => ?_⟩
      obtain ⟨X, l1, l2, l3, l4⟩ := opw (I1 := I1) hR h5 hpc hp2 hI (W := byM I1 t D kd) (fun b' j hb => by unfold byM; rw [up_ne hb, up_ne hb, up_ne hb, pym_ne hb]) (by rw [hW24]; exact r2) hVn (by rw [hW24]; exact hfl) ⟨fun z => by omega, fun z => by omega, fun z => by omega⟩ (by rw [hW24, lkS_q haw]; exact hwin) d n J ex
      refine ⟨X, false, ?_, l2, l3⟩
      have e0 : cPm I1 t 3 = true := by
        unfold cPm at hcp ⊢
        rw [e24, show I1 36 = I 36 from funext fun j => m 36 j (by omega)]
        exact hcp
      have := c138a (d := d) (n := n) (J := J) (ex := ex) (I := I1) (X := X) ((m 24 181 (by omega)).trans ht) ht4 ((m 24 180 (by omega)).trans h6) ((m 24 183 (by omega)).trans hD) hDl e0 ((m 35 D (by omega)).trans hdk) hdk5 l1
      rw [this, l4, hW24, lkS_q haw]
      have e183 : (if 3 ≤ 6 ∧ 6 ≤ 7 ∧ I 5 6 ≤ ptm (fun _ => s') t then sup (sup s' 190 (nI t)) 180 8 else s') 183 = nI (D + 1) := by
        split
        · rw [sup_ne (by omega), sup_ne (by omega)]
          exact hfl.2.2.2.2.2.1
        · exact hfl.2.2.2.2.2.1
      rw [e183]
  · exact Or.inr ⟨3, fun d n J ex => c12e (d := d + 16) (fun z => h6 (hC.ph.symm.trans z)), by decide, _, OkM.ref' hR (fun d n J ex => ⟨false, c138n (d := d) (Or.inl h6)⟩)⟩
end OF
