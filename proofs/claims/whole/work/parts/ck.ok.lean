section OK
variable {d n t pc s : Nat} {I X I1 W A B : Nat → Nat → Int32} {J : Nat → Nat → Int64} {ex : List (Nat × Nat)} {y : Int64} {S : Nat → Int32}
theorem fr_eF2 (e6 : X 9 6 = I 9 6) (e0 : X 9 0 = I 9 0) (e3 : X 9 3 = I 9 3) (e10 : X 10 = I 10) (e11 : X 11 = I 11) : eF X t = eF I t := by
  unfold eF hPL cnt aRF rF lO hRd wth
  rw [e6, e0, e3, e10, e11]
theorem aw_same {s3 s1 : Nat → Int32} (e : ∀ j, j < 126 → s3 j = s1 j) (e9 : s3 189 = s1 189) : awM (fun _ => s3) pc = awM (fun _ => s1) pc := q_awM (X := fun _ => s3) (I := fun _ => s1) e e9 pc
theorem place7 (hR : Rel I y) (h7 : I 24 180 = 7) {t : Nat} (ht : I 24 181 = nI t) (ht4 : t < 4) {sp : Nat} (hs1 : sp < 72) (htf : tFm I t 0 = true) (hmb : mB0 I t sp = true) (hn : (decide (0 ≤ nI sp) && decide (nI sp < spF (nI 0))) = true) (hsm : isSm (nI 0) (nI sp) = true) : ∃ I1 v, OkC 5 [.int (nI 0), .int (nI sp)] I y I1 v ∧ OkM 121 [.int (nI 0), .int (nI sp)] I1 y v 0 := by
  obtain ⟨pc, N, t', D, x, h5, h15, hp2, hpc, hC, a1, a2, a3, a4, a5, a6⟩ := hR.ph_dat (k := 7) (by decide) (by decide) h7
  have htp : t' < pc := a3.2.2.2.2.1
  have htt : t' = t := (zz_nI_eq (by omega) (by omega)).mp (by rw [← ht]; exact a3.2.2.2.1.symm)
  subst htt
  have h79 : I 9 0 = 7 := hC.ph.trans h7
  have ht9 : I 9 1 = nI t' := hC.on.trans ht
  have hzz : I 9 11 = 0 ∨ I 9 11 = 1 := by rw [hC.pl]; exact a3.pl
  have hcor := V_corners a1 a2 hpc
  have h0 : N sp = 0 := by
    have := hmb
    unfold mB0 at this
    rw [Bool.and_eq_true, decide_eq_true_eq] at this
    have := this.1
    rw [a1 _ (by omega), nI_z (by have := a2.1 sp hs1; omega)] at this
    exact this
  have h15r : roadN N t' < 15 := by
    have := htf
    unfold tFm at this
    rw [Bool.and_eq_true, Bool.and_eq_true, Bool.not_eq_true', decide_eq_false_iff_not, if_pos rfl, pcm0 (p := t') a1 a2 hpc ht4] at this
    omega
  have hPe : ptI (rmb I) t' 0 sp = zz_up (rmb I) 10 sp (nI t') := by
    unfold ptI
    rw [rm9, h79, if_pos rfl, if_neg (by decide)]
  have hCP : Cst (ptI (rmb I) t' 0 sp) 9 (sup (I 24) sp (nI (t' + 1))) := by
    rw [hPe]
    exact put_C (k := 0) hC.rmb (by decide) hs1 (fun z => absurd rfl z)
  have r1 : ∀ j, j < 180 → sup (I 24) sp (nI (t' + 1)) j = nI (nup N sp (t' + 1) j) := rep_sup a1 rfl
  have v1 : Vn pc D (nup N sp (t' + 1)) := pcN_V (k := 0) a2 htp (by decide) hs1 (fun z => absurd rfl z) (fun _ => h0) (fun _ => h15r)
  have s1n : ∀ j, 72 ≤ j → sup (I 24) sp (nI (t' + 1)) j = I 24 j := fun j hj => sup_ne (by omega)
  generalize hs1e : sup (I 24) sp (nI (t' + 1)) = s1 at *
  obtain ⟨w1, w2⟩ := aw_C (pc := pc) hCP (V_corners r1 v1 hpc) hpc (by rw [s1n 189 (by omega)]; exact a3.2.2.2.2.2.2.2.2.2.1)
  have hPn : ∀ b j, ¬ (9 ≤ b ∧ b ≤ 15) → ptI (rmb I) t' 0 sp b j = rmb I b j := fun b j hb => ptI_ne (by omega)
  have hP9 : ∀ j, ptI (rmb I) t' 0 sp 9 j = I 9 j := fun j => by rw [ptI_ne (by omega), rm9]
  have hfree : I 9 6 = I 24 185 := hC.fe h7
  -- without the award
  have hCA : Cst (zz_up (ptI (rmb I) t' 0 sp) 9 6 (I 24 185 - 1)) 9 (sup s1 185 (I 24 185 - 1)) := hCP.v6 _
  have r2 : ∀ j, j < 180 → sup s1 185 (I 24 185 - 1) j = nI (nup N sp (t' + 1) j) := rep_sup2 r1 (by omega)
  generalize hE : eF (fR (sAw (ptI (rmb I) t' 0 sp) pc)) t' = E
  have hEA : eF (zz_up (ptI (rmb I) t' 0 sp) 9 6 (I 24 185 - 1)) t' = E := by
    rw [← hE]
    refine (fr_eF2 ?_ ?_ ?_ ?_ ?_).symm
    · unfold fR
      rw [up_eq, up_eq, w2 9 6 (by omega), hP9, hfree]
    · unfold fR
      rw [up_nf (by decide), up_nf (by decide), w2 9 0 (by omega)]
    · unfold fR
      rw [up_nf (by decide), up_nf (by decide), w2 9 3 (by omega)]
    · funext j
      unfold fR
      rw [up_ne (by decide), up_ne (by decide), w2 10 j (by omega)]
    · funext j
      unfold fR
      rw [up_ne (by decide), up_ne (by decide), w2 11 j (by omega)]
  generalize hs3 : (if E = true then sup (sup (sup s1 185 (I 24 185 - 1)) 180 6) 185 0 else sup s1 185 (I 24 185 - 1)) = s3
  have s3n : ∀ j, ¬ j = 180 → ¬ j = 185 → s3 j = s1 j := fun j j1 j2 => by
    rw [← hs3]
    split
    · rw [sup_ne j2, sup_ne j1, sup_ne j2]
    · rw [sup_ne j2]
  have haw3 : awM (fun _ => s3) pc = awM (fun _ => s1) pc := aw_same (fun j hj => s3n j (by omega) (by omega)) (s3n 189 (by omega) (by omega))
  have hCf : Cst (fR (sAw (ptI (rmb I) t' 0 sp) pc)) 9 (sup (sup s1 185 (I 24 185 - 1)) 189 (awM (fun _ => s1) pc)) := by
    unfold fR
    rw [show sAw (ptI (rmb I) t' 0 sp) pc 9 6 = I 24 185 from by rw [w2 9 6 (by omega), hP9, hfree], sup_comm (i := 185) (by omega)]
    exact w1.v6 _
  have hC3 : Cst (if E = true then zz_up (fR (sAw (ptI (rmb I) t' 0 sp) pc)) 9 0 6 else fR (sAw (ptI (rmb I) t' 0 sp) pc)) 9 (sup s3 189 (awM (fun _ => s3) pc)) := by
    rw [haw3, ← hs3]
    by_cases z : E = true
    · rw [if_pos z, if_pos z, sup_comm (i := 185) (j := 189) (by omega), sup_comm (i := 180) (j := 189) (by omega)]
      exact (hCf.v0p 6 (by decide) (by decide) (by decide)).m185 0 (by rw [sup_eq]; decide)
    · rw [if_neg z, if_neg z]
      exact hCf
  have r3 : ∀ j, j < 180 → s3 j = nI (nup N sp (t' + 1) j) := fun j hj => by rw [s3n j (by omega) (by omega), r1 j hj]
  obtain ⟨f3, hf3, h180⟩ : ∃ f3, (f3 = 6 ∨ f3 = 7) ∧ s3 180 = nI f3 := by
    rw [← hs3]
    by_cases z : E = true
    · rw [if_pos z]
      exact ⟨6, Or.inl rfl, by rw [sup_ne (by omega), sup_eq]; rfl⟩
    · rw [if_neg z]
      exact ⟨7, Or.inr rfl, by rw [sup_ne (by omega), s1n _ (by omega), h7]; rfl⟩
  have s3m : ∀ j, 72 ≤ j → ¬ j = 180 → ¬ j = 185 → s3 j = I 24 j := fun j j0 j1 j2 => by rw [s3n j j1 j2, s1n j j0]
  have hfl : Vfl pc f3 t' D x s3 := by
    obtain ⟨f1, f2, f3', f4, f5, f6, f7, f8, f9, f10, f11, f12, f13⟩ := a3
    refine ⟨h180, by omega, by omega, ?_, f5, ?_, f7, ?_, ?_, ?_, ?_, ?_, f13⟩
    · rw [s3m _ (by omega) (by omega) (by omega), f4]
    · rw [s3m _ (by omega) (by omega) (by omega), f6]
    · rw [s3m _ (by omega) (by omega) (by omega)]; exact f8
    · rw [s3m _ (by omega) (by omega) (by omega)]; exact f9
    · rw [s3m _ (by omega) (by omega) (by omega)]; exact f10
    · rw [s3m _ (by omega) (by omega) (by omega), f11, if_neg (by decide), if_neg (by omega)]
    · rw [s3m _ (by omega) (by omega) (by omega), f12]
  have hTQ : Tb (sAw (ptI (rmb I) t' 0 sp) pc) := hR.tb.cong (fun b j hb => by rw [w2 b j (by omega), hPn b j (by omega), rmb_ne (by omega) (by omega)])
  refine place_go hR h5 hpc hp2 hzz ht9 ht4 (k := 0) (by decide) hs1 (fun z => absurd rfl z) hn (fun d n J ex => ?_) (fun d n J ex => ?_) (C := if E = true then zz_up (fR (sAw (ptI (rmb I) t' 0 sp) pc)) 9 0 6 else fR (sAw (ptI (rmb I) t' 0 sp) pc)) (fl := false) (fun d n J ex => ?_) (fun b j hb => ?_) hC3 r3 v1 hfl ⟨fun z => by omega, fun z => by omega, fun z => by omega⟩ (fun I1 hI => ?_)
  · rw [c51 ht9 ht4 0 (by decide), r_tF hR hpc hC a1 a2 a3 a4 (by decide), htf]
    rfl
  · rw [c54 hR.tb ht9 0 sp (by decide) hs1 (fun z => absurd rfl z), r_ft hC hcor (by decide) hs1 (fun z => absurd rfl z) ht4, if_pos rfl, hmb]
    rfl
  · have := c61c (d := d) (n := n) (J := J) (ex := ex) hTQ (t := t') (by rw [w2 9 0 (by omega), hP9, h79]) (by rw [w2 9 1 (by omega), hP9, ht9]) sp
    rw [hE] at this
    exact this
  · split
    · unfold fR
      rw [up_ne (by omega), up_ne (by omega), w2 b j (by omega), hPn b j hb]
    · unfold fR
      rw [up_ne (by omega), w2 b j (by omega), hPn b j hb]
  · have m := f_c4 hI
    have e24 : I1 24 = I 24 := funext fun j => m 24 j (by omega)
    have hT1 : Tm I1 := hR.tm.cong (fun b j h1 h2 => m b j (by omega))
    have ht1 : I1 24 181 = nI t' := (m 24 181 (by omega)).trans ht
    have hM24 : zz_up (zz_up (rmM I1) 24 sp (nI (t' + 1))) 24 185 (I1 24 185 - 1) 24 = sup s1 185 (I 24 185 - 1) := by rw [up_sup, up_sup, f_r24 hI, hs1e, m 24 185 (by omega)]
    have hM0 : ∀ b j, ¬ b = 24 → zz_up (zz_up (rmM I1) 24 sp (nI (t' + 1))) 24 185 (I1 24 185 - 1) b j = rmM I1 b j := fun b j hb => by rw [up_ne hb, up_ne hb]
    generalize hM : zz_up (zz_up (rmM I1) 24 sp (nI (t' + 1))) 24 185 (I1 24 185 - 1) = M at *
    have hEM : eRm M t' = E := by
      rw [← hEA]
      exact (eF_eRm (pc := pc) (B := M) (by rw [hM24]; exact hCA) (by rw [hM24]; exact r2) v1 hpc ht4 (by rw [hM24, sup_ne (by omega), s1n _ (by omega), h7])).symm
    refine ⟨if E = true then zz_up (zz_up M 24 180 6) 24 185 0 else M, fun b j hb => ?_, ?_, fun d n J ex X hX => ?_⟩
    · split
      · rw [up_ne hb, up_ne hb, hM0 b j hb]
      · exact hM0 b j hb
    · rw [← hs3]
      split
      · rw [up_sup, up_sup, hM24]
      · exact hM24
    · have e1 : tFm I1 t' 0 = true := by
        unfold tFm pcm cPm cnt at htf ⊢
        rw [e24, show I1 36 = I 36 from funext fun j => m 36 j (by omega)]
        exact htf
      have e2 : mB0 I1 t' sp = true := by
        unfold mB0 rch isMi hRm at hmb ⊢
        rw [e24]
        exact hmb
      have w3 := c111 (d := d + 3) (n := n) (J := J) (ex := ex) (I := I1) ht1 ht4 0 (by decide)
      rw [e1] at w3
      have w4 := c107a (d := d + 3) (n := n) (J := J) (ex := ex) (I := I1) hT1 ht1 ht4 sp hs1
      rw [e2] at w4
      have w5 := c118 (d := d + 2) (n := n) (J := J) (ex := ex) (I := M) (t := t') (hR.tm.cong (fun b j h1 h2 => by rw [hM0 b j (by omega), rmM_ne (by omega) (Or.inl (by omega)), m b j (by omega)])) (by rw [hM24, sup_ne (by omega), s1n _ (by omega), ht]) ht4
      rw [hEM, ← hM] at w5
      rw [← hM] at hX
      exact c121d (d := d) (X := X) hs1 hsm w3 w4 ht1 ht4 ((m 24 180 (by omega)).trans h7) w5 hX
-- the road of the set-up
theorem Cst.set2 (h : Cst I 9 S) {x : Nat} (hx : S 191 = nI x) (w v : Int32) (hv : v = 1 ∨ v = 3) : Cst (zz_up (zz_up (zz_up I 9 2 (nI x)) 9 1 w) 9 0 v) 9 (sup (sup S 181 w) 180 v) := by
  have h7 : ¬ v = 7 := by rcases hv with rfl | rfl <;> decide
  have h2 : ¬ v = 2 := by rcases hv with rfl | rfl <;> decide
  obtain ⟨g1, g2, g3, g4, g5, g6, g7, g8, g9, g10, g11, g12, g13, g14, g15, g16, g17, g18, g19⟩ := h
  refine ⟨fun e he => ?_, fun e he => ?_, fun e he => ?_, fun e he => ?_, fun e he => ?_, fun e he => ?_, ?_, ?_, ?_, ?_, ?_, ?_, ?_, ?_, ?_, fun z => ?_, fun z => ?_, fun z => ?_, fun z => ?_⟩
  · rw [up_ne (by decide), up_ne (by decide), up_ne (by decide), sup_ne (by omega), sup_ne (by omega)]; exact g1 e he
  · rw [up_ne (by decide), up_ne (by decide), up_ne (by decide), sup_ne (by omega), sup_ne (by omega)]; exact g2 e he
  · rw [up_ne (by decide), up_ne (by decide), up_ne (by decide), sup_ne (by omega), sup_ne (by omega)]; exact g3 e he
  · rw [up_ne (by decide), up_ne (by decide), up_ne (by decide), sup_ne (by omega), sup_ne (by omega)]; exact g4 e he
  · rw [up_ne (by decide), up_ne (by decide), up_ne (by decide), sup_ne (by omega), sup_ne (by omega)]; exact g5 e he
  · rw [up_ne (by decide), up_ne (by decide), up_ne (by decide), sup_ne (by omega), sup_ne (by omega)]; exact g6 e he
  · rw [up_eq, sup_eq]
  · rw [up_nf (by decide), up_eq, sup_ne (by omega), sup_eq]
  · rw [up_nf (by decide), up_nf (by decide), up_nf (by decide), sup_ne (by omega), sup_ne (by omega)]; exact g9
  · rw [up_nf (by decide), up_nf (by decide), up_nf (by decide), sup_ne (by omega), sup_ne (by omega)]; exact g10
  · rw [up_nf (by decide), up_nf (by decide), up_nf (by decide), sup_ne (by omega), sup_ne (by omega)]; exact g11
  · rw [up_nf (by decide), up_nf (by decide), up_nf (by decide), sup_ne (by omega), sup_ne (by omega)]; exact g12
  · rw [up_nf (by decide), up_nf (by decide), up_nf (by decide), sup_ne (by omega), sup_ne (by omega)]; exact g13
  · rw [up_nf (by decide), up_nf (by decide), up_nf (by decide), sup_ne (by omega), sup_ne (by omega)]; exact g14
  · rw [up_nf (by decide), up_nf (by decide), up_nf (by decide), sup_ne (by omega), sup_ne (by omega)]; exact g15
  · rw [sup_eq] at z; exact absurd z h7
  · rw [sup_eq] at z; exact absurd z h2
  · rw [up_nf (by decide), up_nf (by decide), up_eq, sup_ne (by omega), sup_ne (by omega), hx]
  · rw [sup_eq] at z; exact absurd z h2
theorem hct_s {x p : Nat} (hx : x < 2 * pc) (hp : p < pc) : hct pc (x + 1) p = hct pc x p + (if p = ord pc x then 1 else 0) := by
  unfold hct ord
  (repeat' split) <;> omega
theorem place2 (hR : Rel I y) (h2 : I 24 180 = 2) {t : Nat} (ht : I 24 181 = nI t) (ht4 : t < 4) {sp : Nat} (hs1 : sp < 72) (htf : tFm I t 0 = true) (hmb : mB0 I t sp = true) (hn : (decide (0 ≤ nI sp) && decide (nI sp < spF (nI 0))) = true) (hsm : isSm (nI 0) (nI sp) = true) : ∃ I1 v, OkC 5 [.int (nI 0), .int (nI sp)] I y I1 v ∧ OkM 121 [.int (nI 0), .int (nI sp)] I1 y v 0 := by
  obtain ⟨pc, N, t', D, x, h5, h15, hp2, hpc, hC, a1, a2, a3, a4, a5, a6⟩ := hR.ph_dat (k := 2) (by decide) (by decide) h2
  have htp : t' < pc := a3.2.2.2.2.1
  have htt : t' = t := (zz_nI_eq (by omega) (by omega)).mp (by rw [← ht]; exact a3.2.2.2.1.symm)
  subst htt
  have h29 : I 9 0 = 2 := hC.ph.trans h2
  have ht9 : I 9 1 = nI t' := hC.on.trans ht
  have hzz : I 9 11 = 0 ∨ I 9 11 = 1 := by rw [hC.pl]; exact a3.pl
  have hcor := V_corners a1 a2 hpc
  obtain ⟨x1, x2, x3, -⟩ := a4.2.1 rfl
  obtain ⟨q1, q2⟩ := a4.2.2 (by decide)
  have hx : I 24 191 = nI x := a3.2.2.2.2.2.2.2.2.2.2.2.1
  have h92 : I 9 2 = nI (x - 1) := by
    have := hC.s2 h2
    rw [hx] at this
    have e : nI x = nI (x - 1) + 1 := by rw [zz_nI_succ]; congr 1; omega
    rw [e] at this
    exact (Int32.add_left_inj 1).mp this
  have h0 : N sp = 0 := by
    have := hmb
    unfold mB0 at this
    rw [Bool.and_eq_true, decide_eq_true_eq] at this
    have := this.1
    rw [a1 _ (by omega), nI_z (by have := a2.1 sp hs1; omega)] at this
    exact this
  have hr2 := fun p hp => (q1 p hp).2
  rw [if_pos rfl] at hr2
  have h15r : roadN N t' < 15 := by
    have := hr2 t' htp
    have := hct_le (pc := pc) (x := x - 1) (p := t')
    omega
  have hPe : ptI (rmb I) t' 0 sp = zz_up (rmb I) 10 sp (nI t') := by
    unfold ptI
    rw [rm9, h29, if_pos rfl, if_neg (by decide)]
  have hCP : Cst (ptI (rmb I) t' 0 sp) 9 (sup (I 24) sp (nI (t' + 1))) := by
    rw [hPe]
    exact put_C (k := 0) hC.rmb (by decide) hs1 (fun z => absurd rfl z)
  have r1 : ∀ j, j < 180 → sup (I 24) sp (nI (t' + 1)) j = nI (nup N sp (t' + 1) j) := rep_sup a1 rfl
  have v1 : Vn pc D (nup N sp (t' + 1)) := pcN_V (k := 0) a2 htp (by decide) hs1 (fun z => absurd rfl z) (fun _ => h0) (fun _ => h15r)
  have s1n : ∀ j, 72 ≤ j → sup (I 24) sp (nI (t' + 1)) j = I 24 j := fun j hj => sup_ne (by omega)
  generalize hs1e : sup (I 24) sp (nI (t' + 1)) = s1 at *
  obtain ⟨w1, w2⟩ := aw_C (pc := pc) hCP (V_corners r1 v1 hpc) hpc (by rw [s1n 189 (by omega)]; exact a3.2.2.2.2.2.2.2.2.2.1)
  have hPn : ∀ b j, ¬ (9 ≤ b ∧ b ≤ 15) → ptI (rmb I) t' 0 sp b j = rmb I b j := fun b j hb => ptI_ne (by omega)
  have hP9 : ∀ j, ptI (rmb I) t' 0 sp 9 j = I 9 j := fun j => by rw [ptI_ne (by omega), rm9]
  obtain ⟨u, v, f3, hu, hu4, hvv, hf3, hfv, hnS, hsR⟩ : ∃ (u : Nat) (v : Int32) (f3 : Nat), (f3 = 1 → x < 2 * pc ∧ u = ord pc x) ∧ u < pc ∧ (v = 1 ∨ v = 3) ∧ (f3 = 1 ∨ f3 = 3) ∧ v = nI f3 ∧ (nS (sAw (ptI (rmb I) t' 0 sp) pc) (x - 1) pc = zz_up (zz_up (zz_up (sAw (ptI (rmb I) t' 0 sp) pc) 9 2 (nI x)) 9 1 (nI u)) 9 0 v) ∧ (∀ Y : Nat → Nat → Int32, sRm Y x pc = zz_up (zz_up Y 24 181 (nI u)) 24 180 v) := by
    unfold nS sRm
    have ex : x - 1 + 1 = x := by omega
    rw [ex]
    by_cases z : x = 2 * pc
    · refine ⟨0, 3, 3, fun w => by omega, by omega, Or.inr rfl, Or.inr rfl, rfl, ?_, fun Y => ?_⟩
      · rw [if_pos z]
        rfl
      · rw [if_pos z]
        rfl
    · refine ⟨ord pc x, 1, 1, fun _ => ⟨by omega, rfl⟩, ?_, Or.inl rfl, Or.inl rfl, rfl, ?_, fun Y => ?_⟩
      · unfold ord
        split <;> omega
      · rw [if_neg z]
        rfl
      · rw [if_neg z]
        rfl
  have s3n : ∀ j, ¬ j = 180 → ¬ j = 181 → sup (sup s1 181 (nI u)) 180 v j = s1 j := fun j j1 j2 => by rw [sup_ne j1, sup_ne j2]
  have haw3 : awM (fun _ => sup (sup s1 181 (nI u)) 180 v) pc = awM (fun _ => s1) pc := aw_same (fun j hj => s3n j (by omega) (by omega)) (s3n 189 (by omega) (by omega))
  have hC3 : Cst (nS (sAw (ptI (rmb I) t' 0 sp) pc) (x - 1) pc) 9 (sup (sup (sup s1 181 (nI u)) 180 v) 189 (awM (fun _ => sup (sup s1 181 (nI u)) 180 v) pc)) := by
    rw [hnS, haw3, sup_comm (i := 180) (j := 189) (by omega), sup_comm (i := 181) (j := 189) (by omega)]
    exact w1.set2 (by rw [sup_ne (by omega), s1n _ (by omega), hx]) _ _ hvv
  have s3m : ∀ j, 72 ≤ j → ¬ j = 180 → ¬ j = 181 → sup (sup s1 181 (nI u)) 180 v j = I 24 j := fun j j0 j1 j2 => by rw [s3n j j1 j2, s1n j j0]
  have r3 : ∀ j, j < 180 → sup (sup s1 181 (nI u)) 180 v j = nI (nup N sp (t' + 1) j) := fun j hj => by rw [s3n j (by omega) (by omega), r1 j hj]
  have h180 : sup (sup s1 181 (nI u)) 180 v 180 = nI f3 := by rw [sup_eq, hfv]
  have h181 : sup (sup s1 181 (nI u)) 180 v 181 = nI u := by rw [sup_ne (by omega), sup_eq]
  generalize hs3 : sup (sup s1 181 (nI u)) 180 v = s3 at *
  have hfl : Vfl pc f3 u D x s3 := by
    obtain ⟨f1, f2, f3', f4, f5, f6, f7, f8, f9, f10, f11, f12, f13⟩ := a3
    refine ⟨h180, by omega, by omega, h181, hu4, ?_, f7, ?_, ?_, ?_, ?_, ?_, f13⟩
    · rw [s3m _ (by omega) (by omega) (by omega), f6]
    · rw [s3m _ (by omega) (by omega) (by omega)]; exact f8
    · rw [s3m _ (by omega) (by omega) (by omega)]; exact f9
    · rw [s3m _ (by omega) (by omega) (by omega)]; exact f10
    · rw [s3m _ (by omega) (by omega) (by omega), f11, if_neg (by decide), if_neg (by omega)]
    · rw [s3m _ (by omega) (by omega) (by omega), f12]
  have hsu : Vsu pc f3 u x (nup N sp (t' + 1)) s3 := by
    refine ⟨hu, fun z => by omega, fun z => ⟨fun p hp => ⟨?_, ?_⟩, fun g hg => ?_⟩⟩
    · rw [hutN_c (fun j j1 j2 => nup_ne (by omega))]
      exact (q1 p hp).1
    · rw [if_neg (by omega), road_up hs1 h0]
      have e1 := hr2 p hp
      have e2 := hct_s (pc := pc) (x := x - 1) (p := p) (by omega) hp
      rw [show x - 1 + 1 = x by omega, ← x3] at e2
      rw [e2]
      omega
    · rw [nup_ne (by omega)]
      exact q2 g hg
  refine place_go hR h5 hpc hp2 hzz ht9 ht4 (k := 0) (by decide) hs1 (fun z => absurd rfl z) hn (fun d n J ex => ?_) (fun d n J ex => ?_) (C := nS (sAw (ptI (rmb I) t' 0 sp) pc) (x - 1) pc) (fl := false) (fun d n J ex => ?_) (fun b j hb => ?_) hC3 r3 v1 hfl hsu (fun I1 hI => ?_)
  · rw [c51 ht9 ht4 0 (by decide), r_tF hR hpc hC a1 a2 a3 a4 (by decide), htf]
    rfl
  · rw [c54 hR.tb ht9 0 sp (by decide) hs1 (fun z => absurd rfl z), r_ft hC hcor (by decide) hs1 (fun z => absurd rfl z) ht4, if_pos rfl, hmb]
    rfl
  · exact c61b (by rw [w2 9 0 (by omega), hP9, h29]) (by rw [w2 9 2 (by omega), hP9, h92]) (by rw [w2 5 5 (by omega), hPn 5 5 (by omega), rmb_ne (by omega) (Or.inr (by decide)), h5]) hpc (by omega) sp
  · rw [hnS, up_ne (by omega), up_ne (by omega), up_ne (by omega), w2 b j (by omega), hPn b j hb]
  · have m := f_c4 hI
    have e24 : I1 24 = I 24 := funext fun j => m 24 j (by omega)
    have hT1 : Tm I1 := hR.tm.cong (fun b j h1 h2 => m b j (by omega))
    have ht1 : I1 24 181 = nI t' := (m 24 181 (by omega)).trans ht
    refine ⟨sRm (zz_up (rmM I1) 24 sp (nI (t' + 1))) x pc, fun b j hb => ?_, ?_, fun d n J ex X hX => ?_⟩
    · rw [hsR, up_ne hb, up_ne hb, up_ne hb]
    · rw [hsR, up_sup, up_sup, up_sup, f_r24 hI, hs1e, hs3]
    · have e1 : tFm I1 t' 0 = true := by
        unfold tFm pcm cPm cnt at htf ⊢
        rw [e24, show I1 36 = I 36 from funext fun j => m 36 j (by omega)]
        exact htf
      have e2 : mB0 I1 t' sp = true := by
        unfold mB0 rch isMi hRm at hmb ⊢
        rw [e24]
        exact hmb
      have w3 := c111 (d := d + 3) (n := n) (J := J) (ex := ex) (I := I1) ht1 ht4 0 (by decide)
      rw [e1] at w3
      have w4 := c107a (d := d + 3) (n := n) (J := J) (ex := ex) (I := I1) hT1 ht1 ht4 sp hs1
      rw [e2] at w4
      have w5 := c120 (d := d + 5) (n := n) (J := J) (ex := ex) (I := zz_up (rmM I1) 24 sp (nI (t' + 1))) (x := x) (by rw [up_nf (by omega), rmM_24, m 24 191 (by omega), hx]) (pc := pc) (by rw [up_ne (by decide), rmM_p, m 23 15 (by omega), h15]) hpc (by omega)
      exact c121c (d := d) (X := X) hs1 hsm w3 w4 ht1 ht4 ((m 24 180 (by omega)).trans h2) w5 hX
end OK
