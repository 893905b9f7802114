section OJ
variable {d n t pc s : Nat} {I X I1 W A B : Nat → Nat → Int32} {J : Nat → Nat → Int64} {ex : List (Nat × Nat)} {y : Int64} {S : Nat → Int32}
theorem place_go (hR : Rel I y) (h5 : I 5 5 = nI pc) (hpc : pc ≤ 4) (hp2 : 2 ≤ pc) (hzz : I 9 11 = 0 ∨ I 9 11 = 1) (ht9 : I 9 1 = nI t) (ht4 : t < 4) {k sp : Nat} (hk : k < 3) (hs1 : sp < 72) (hs2 : ¬ k = 0 → sp < 54) (hn : (decide (0 ≤ nI sp) && decide (nI sp < spF (nI k))) = true) (hti : ∀ d n J ex, zz_Call zz_prog (d + 3) 51 [.ref 5, .int (nI k)] (zz_hp n I J ex) = some (.inl (some (.int 1)), true, zz_hp n I J ex)) (hft : ∀ d n J ex, zz_Call zz_prog (d + 4) 54 [.ref 5, .int (nI k), .int (nI sp)] (zz_hp n I J ex) = some (.inl (some (.int 1)), true, zz_hp n I J ex))
    {C : Nat → Nat → Int32} {fl : Bool} (hm : ∀ d n J ex, zz_Call zz_prog (d + 6) 61 [.ref 5, .int (nI sp)] (zz_hp n (sAw (ptI (rmb I) t k sp) pc) J ex) = some (.inl none, fl, zz_hp n C J ex)) {s3 : Nat → Int32} {N : Nat → Nat} {f3 t3 D x : Nat} (hCn : ∀ b j, ¬ (9 ≤ b ∧ b ≤ 15) → C b j = rmb I b j) (hC3 : Cst C 9 (sup s3 189 (awM (fun _ => s3) pc))) (a1 : ∀ j, j < 180 → s3 j = nI (N j)) (a2 : Vn pc D N) (a3 : Vfl pc f3 t3 D x s3) (a4 : Vsu pc f3 t3 x N s3)
    (hmod : ∀ I1, (∀ b j, ¬ (9 ≤ b ∧ b ≤ 15) → I1 b j = rmb I b j) → ∃ Wm, (∀ b j, ¬ b = 24 → Wm b j = rmM I1 b j) ∧ Wm 24 = s3 ∧ ∀ d n J ex X, zz_Call zz_prog (d + 6) 116 [.ref 23] (zz_hp n Wm J ex) = some (.inl none, false, zz_hp n X J ex) → zz_Call zz_prog (d + 7) 121 [.ref 23, .int (nI k), .int (nI sp)] (zz_hp n I1 J ex) = some (.inl (some (.int (ptm X t))), false, zz_hp n X J ex)) : ∃ I1 v, OkC 5 [.int (nI k), .int (nI sp)] I y I1 v ∧ OkM 121 [.int (nI k), .int (nI sp)] I1 y v 0 := by
  obtain ⟨e1, e2, e3⟩ := place_end (t := t) (S1 := s3) hR h5 hpc hp2 ht4 hCn hC3 a1 a2 a3 a4
  have ht3 : C 9 1 = nI t3 := by
    rw [hC3.on, sup_ne (by omega)]
    exact a3.2.2.2.1
  have ht34 : t3 < 4 := by have := a3.2.2.2.2.1; omega
  have hcall := fun d n J ex => c5a (d := d) (n := n) (J := J) (ex := ex) hR.tb hzz ht9 ht4 h5 hpc k sp hk hs1 hs2 hn (hti (d + 16) n J ex) (hft (d + 15) n J ex) (hm (d + 13) n J ex) ht3 ht34
  rw [e3] at hcall
  generalize (if sW C t3 = true then zz_up C 9 0 8 else C) = I1 at *
  obtain ⟨Wm, m1, m2, m3⟩ := hmod I1 e1
  refine ⟨I1, some (.int (ptm (fun _ => lkS s3 pc t3 f3 (I 5 6)) t)), fun d n J ex _ => ⟨false, hcall d n J ex⟩, fun d n J ex => ?_⟩
  obtain ⟨X, l1, l2, l3, l4⟩ := opw (I1 := I1) hR h5 hpc hp2 e1 (W := Wm) m1 (by rw [m2]; exact a1) a2 (by rw [m2]; exact a3) (by rw [m2]; exact a4) (by rw [m2]; exact e2) d n J ex
  refine ⟨X, false, ?_, l2, l3⟩
  rw [m3 d n J ex X l1, fr_ptm (X := X) (I := fun _ => lkS s3 pc t3 f3 (I 5 6)) (by rw [l4, m2])]
def pcS (Z : Nat → Int32) (t k sp : Nat) : Nat → Int32 := if k = 0 then sup Z sp (nI (t + 1)) else if k = 1 then sup Z (72 + sp) (nI (t + 1)) else sup Z (72 + sp) (nI (t + 9))
def pcN (N : Nat → Nat) (t k sp : Nat) : Nat → Nat := if k = 0 then nup N sp (t + 1) else if k = 1 then nup N (72 + sp) (t + 1) else nup N (72 + sp) (t + 9)
theorem pcS_r {N : Nat → Nat} {k sp : Nat} (h : ∀ j, j < 180 → S j = nI (N j)) : ∀ j, j < 180 → pcS S t k sp j = nI (pcN N t k sp j) := by
  unfold pcS pcN
  split
  · exact rep_sup h rfl
  · split
    · exact rep_sup h rfl
    · exact rep_sup h rfl
theorem pcS_ne {k sp j : Nat} (hs1 : sp < 72) (hs2 : ¬ k = 0 → sp < 54) (h : 126 ≤ j) : pcS S t k sp j = S j := by
  unfold pcS
  split
  · rw [sup_ne (by omega)]
  · have := hs2 (by assumption)
    split <;> rw [sup_ne (by omega)]
theorem pcN_ne {N : Nat → Nat} {k sp j : Nat} (hs1 : sp < 72) (hs2 : ¬ k = 0 → sp < 54) (h : 126 ≤ j) : pcN N t k sp j = N j := by
  unfold pcN
  split
  · rw [nup_ne (by omega)]
  · have := hs2 (by assumption)
    split <;> rw [nup_ne (by omega)]
theorem put_C (hC : Cst A 9 S) {k sp : Nat} (hk : k < 3) (hs1 : sp < 72) (hs2 : ¬ k = 0 → sp < 54) : Cst (if k = 0 then zz_up A 10 sp (nI t) else zz_up A 11 sp (if k = 2 then nI (t + 8) else nI t)) 9 (pcS S t k sp) := by
  have e1 : ∀ q, nI q = nI (q + 1) - 1 := fun q => by rw [← zz_nI_succ, Int32.add_sub_cancel]
  unfold pcS
  have h3 : k = 0 ∨ k = 1 ∨ k = 2 := by omega
  rcases h3 with rfl | rfl | rfl
  · exact hC.u10 hs1 (e1 t)
  · exact hC.u11 (hs2 (by decide)) (e1 t)
  · exact hC.u11 (hs2 (by decide)) (e1 (t + 8))
theorem road_up {N : Nat → Nat} {sp p : Nat} (hs : sp < 72) (h0 : N sp = 0) : roadN (nup N sp (t + 1)) p = roadN N p + (if p = t then 1 else 0) := by
  unfold roadN
  by_cases z : p = t
  · subst z
    rw [if_pos rfl]
    exact cN_up (P := fun e => decide (N e = p + 1)) (Q := fun e => decide (nup N sp (p + 1) e = p + 1)) 72 sp hs (decide_eq_false (by rw [h0]; omega)) (decide_eq_true nup_eq) (fun j hj => by show decide (nup N sp (p + 1) j = p + 1) = decide (N j = p + 1); rw [nup_ne hj])
  · rw [if_neg z]
    refine Eq.trans ?_ (Nat.add_zero _).symm
    refine cN_congr 72 (fun k hk => ?_)
    by_cases w : k = sp
    · subst w
      rw [nup_eq, h0, decide_eq_false (show ¬ (t + 1 = p + 1) by omega), decide_eq_false (show ¬ (0 = p + 1) by omega)]
    · rw [nup_ne w]
theorem hut_up {N : Nat → Nat} {sp p : Nat} (hs : sp < 54) (h0 : N (72 + sp) = 0) : hutN (nup N (72 + sp) (t + 1)) p = hutN N p + (if p = t then 1 else 0) := by
  unfold hutN
  by_cases z : p = t
  · subst z
    rw [if_pos rfl]
    exact cN_up (P := fun e => decide (N (72 + e) = p + 1)) (Q := fun e => decide (nup N (72 + sp) (p + 1) (72 + e) = p + 1)) 54 sp hs (decide_eq_false (by rw [h0]; omega)) (decide_eq_true nup_eq) (fun j hj => by show decide (nup N (72 + sp) (p + 1) (72 + j) = p + 1) = decide (N (72 + j) = p + 1); rw [nup_ne (by omega)])
  · rw [if_neg z]
    refine Eq.trans ?_ (Nat.add_zero _).symm
    refine cN_congr 54 (fun k hk => ?_)
    by_cases w : k = sp
    · subst w
      rw [nup_eq, h0, decide_eq_false (show ¬ (t + 1 = p + 1) by omega), decide_eq_false (show ¬ (0 = p + 1) by omega)]
    · rw [nup_ne (by omega)]
theorem pcN_V {N : Nat → Nat} {D k sp : Nat} (hV : Vn pc D N) (ht : t < pc) (hk : k < 3) (hs1 : sp < 72) (hs2 : ¬ k = 0 → sp < 54) (h0 : k = 0 → N sp = 0) (h15 : k = 0 → roadN N t < 15) : Vn pc D (pcN N t k sp) := by
  obtain ⟨g1, g2, g3, g4, g5, g6⟩ := hV
  have hbig : ∀ j, 126 ≤ j → pcN N t k sp j = N j := fun j hj => pcN_ne hs1 hs2 hj
  refine ⟨fun e he => ?_, fun c hc => ?_, fun g hg => by rw [hbig _ (by omega), hbig _ (by omega), hbig _ (by omega), hbig _ (by omega), hbig _ (by omega)]; exact g3 g hg, fun j j1 j2 => by rw [hbig j (by omega)]; exact g4 j j1 j2, fun j j1 j2 => by rw [hbig j (by omega)]; exact g5 j j1 j2, fun p hp => ?_⟩
  · unfold pcN
    have h3 : k = 0 ∨ k = 1 ∨ k = 2 := by omega
    rcases h3 with rfl | rfl | rfl
    · simp only [if_true]
      by_cases z : e = sp
      · subst z
        rw [nup_eq]
        omega
      · rw [nup_ne z]
        exact g1 e he
    · rw [if_neg (by decide), if_pos rfl, nup_ne (by omega)]
      exact g1 e he
    · rw [if_neg (by decide), if_neg (by decide), nup_ne (by omega)]
      exact g1 e he
  · unfold pcN
    have h3 : k = 0 ∨ k = 1 ∨ k = 2 := by omega
    rcases h3 with rfl | rfl | rfl
    · simp only [if_true]
      rw [nup_ne (by omega)]
      exact g2 c hc
    · rw [if_neg (by decide), if_pos rfl]
      by_cases z : c = sp
      · subst z
        rw [nup_eq]
        omega
      · rw [nup_ne (by omega)]
        exact g2 c hc
    · rw [if_neg (by decide), if_neg (by decide)]
      by_cases z : c = sp
      · subst z
        rw [nup_eq]
        omega
      · rw [nup_ne (by omega)]
        exact g2 c hc
  · by_cases zk : k = 0
    · have e : pcN N t k sp = nup N sp (t + 1) := by
        unfold pcN
        rw [if_pos zk]
      rw [e, road_up hs1 (h0 zk)]
      have := g6 p hp
      have := h15 zk
      by_cases z : p = t
      · subst z
        rw [if_pos rfl]
        omega
      · rw [if_neg z]
        omega
    · rw [roadN_c (N := N) (fun j hj => by
        unfold pcN
        rw [if_neg zk]
        split <;> rw [nup_ne (by omega)])]
      exact g6 p hp
theorem place6 (hR : Rel I y) (h6 : I 24 180 = 6) {t : Nat} (ht : I 24 181 = nI t) (ht4 : t < 4) {k sp : Nat} (hk : k < 3) (hs1 : sp < 72) (hs2 : ¬ k = 0 → sp < 54) (htf : tFm I t k = true) (hmb : (if k = 0 then mB0 I t sp else if k = 1 then mB1 I t sp else decide (I 24 (72 + sp) = nI (t + 1))) = true) (hn : (decide (0 ≤ nI sp) && decide (nI sp < spF (nI k))) = true) (hsm : isSm (nI k) (nI sp) = true) : ∃ I1 v, OkC 5 [.int (nI k), .int (nI sp)] I y I1 v ∧ OkM 121 [.int (nI k), .int (nI sp)] I1 y v 0 := by
  obtain ⟨pc, N, t', D, x, h5, h15, hp2, hpc, hC, a1, a2, a3, a4, a5, a6⟩ := hR.ph_dat (k := 6) (by decide) (by decide) h6
  have htp : t' < pc := a3.2.2.2.2.1
  have htt : t' = t := (zz_nI_eq (by omega) (by omega)).mp (by rw [← ht]; exact a3.2.2.2.1.symm)
  subst htt
  have h69 : I 9 0 = 6 := hC.ph.trans h6
  have ht9 : I 9 1 = nI t' := hC.on.trans ht
  have hzz : I 9 11 = 0 ∨ I 9 11 = 1 := by rw [hC.pl]; exact a3.pl
  have hcor := V_corners a1 a2 hpc
  have htf' := htf
  unfold tFm at htf'
  rw [h6] at htf'
  simp only [decide_true, Bool.true_or, Bool.true_and, Bool.not_true, Bool.false_or, Bool.and_eq_true, Bool.not_eq_true', decide_eq_false_iff_not] at htf'
  have hcl := cPm_le hR.tm.2.2.2 a1 a2 ht4 (by omega : k < 4) htf'.2
  obtain ⟨N1, p1, p2, p3, p4⟩ := pay_V (s := I 24) ht4 (x := k) (by omega) a1 a2 hcl
  have h0 : k = 0 → N1 sp = 0 := fun z => by
    subst z
    rw [if_pos rfl] at hmb
    unfold mB0 at hmb
    rw [Bool.and_eq_true, decide_eq_true_eq] at hmb
    rw [p3 sp (by omega)]
    have := hmb.1
    rw [a1 _ (by omega), nI_z (by have := a2.1 sp hs1; omega)] at this
    exact this
  have h15r : k = 0 → roadN N1 t' < 15 := fun z => by
    subst z
    have := htf'.1
    rw [if_pos rfl, pcm0 (p := t') a1 a2 hpc ht4] at this
    rw [roadN_c (fun j hj => p3 j (by omega))]
    omega
  have hTr : Tb (rmb I) := hR.tb.cong (fun b j hb => rmb_ne (by omega) (by omega))
  have hPe : ptI (rmb I) t' k sp = (if k = 0 then zz_up (payI (rmb I) t' k) 10 sp (nI t') else zz_up (payI (rmb I) t' k) 11 sp (if k = 2 then nI (t' + 8) else nI t')) := by
    unfold ptI
    rw [rm9, h69]
    simp only [if_true]
  have hCP : Cst (ptI (rmb I) t' k sp) 9 (pcS (payS (I 24) t' k) t' k sp) := by
    rw [hPe]
    exact put_C (r_pay hTr hC.rmb ht4) hk hs1 hs2
  have r1 := pcS_r (t := t') (k := k) (sp := sp) p1
  have v1 := pcN_V p2 htp hk hs1 hs2 h0 h15r
  have sn : ∀ j, 151 ≤ j → pcS (payS (I 24) t' k) t' k sp j = I 24 j := fun j hj => by rw [pcS_ne hs1 hs2 (by omega), p4 j (by omega)]
  generalize hs3 : pcS (payS (I 24) t' k) t' k sp = s3 at *
  have hfl : Vfl pc 6 t' D x s3 := a3.cong (fun j j1 j2 => sn j (by omega))
  obtain ⟨w1, w2⟩ := aw_C (pc := pc) hCP (V_corners r1 v1 hpc) hpc hfl.2.2.2.2.2.2.2.2.2.1
  have hPn : ∀ b j, ¬ (9 ≤ b ∧ b ≤ 15) → ptI (rmb I) t' k sp b j = rmb I b j := fun b j hb => ptI_ne (by omega)
  have hQ0 : sAw (ptI (rmb I) t' k sp) pc 9 0 = 6 := by rw [w2 9 0 (by omega), ptI_ne (by omega), rm9, h69]
  refine place_go hR h5 hpc hp2 hzz ht9 ht4 hk hs1 hs2 hn (fun d n J ex => ?_) (fun d n J ex => ?_) (C := sAw (ptI (rmb I) t' k sp) pc) (fl := true) (fun d n J ex => ?_) (fun b j hb => by rw [w2 b j (by omega), hPn b j hb]) w1 r1 v1 hfl ⟨fun z => by omega, fun z => by omega, fun z => by omega⟩ (fun I1 hI => ?_)
  · rw [c51 ht9 ht4 k hk, r_tF hR hpc hC a1 a2 a3 a4 hk, htf]
    rfl
  · rw [c54 hR.tb ht9 k sp hk hs1 hs2, r_ft hC hcor hk hs1 hs2 ht4, hmb]
    rfl
  · exact c61d sp (by rw [hQ0]; decide) (by rw [hQ0]; decide) (by rw [hQ0]; decide)
  · have m := f_c4 hI
    have e24 : I1 24 = I 24 := funext fun j => m 24 j (by omega)
    have hT1 : Tm I1 := hR.tm.cong (fun b j h1 h2 => m b j (by omega))
    have ht1 : I1 24 181 = nI t' := (m 24 181 (by omega)).trans ht
    refine ⟨pcM (pym (rmM I1) t' k) t' k sp, fun b j hb => ?_, ?_, fun d n J ex X hX => ?_⟩
    · unfold pcM
      split
      · rw [up_ne hb, pym_ne hb]
      · split <;> rw [up_ne hb, pym_ne hb]
    · have ep : pym (rmM I1) t' k 24 = payS (I 24) t' k := by
        rw [pym_s (fun j => by rw [rmM_ne (by decide) (Or.inl (by decide)), m 36 j (by omega)]; exact hR.tm.2.2.2 j) ht4, f_r24 hI]
      rw [← hs3]
      unfold pcM pcS
      split
      · rw [up_sup, ep]
      · split <;> rw [up_sup, ep]
    · have e1 : tFm I1 t' k = true := by
        unfold tFm pcm cPm cnt at htf ⊢
        rw [e24, show I1 36 = I 36 from funext fun j => m 36 j (by omega)]
        exact htf
      have e2 : (if k = 0 then mB0 I1 t' sp else if k = 1 then mB1 I1 t' sp else decide (I1 24 (72 + sp) = nI (t' + 1))) = true := by
        unfold mB0 mB1 rch isMi hRm aln at hmb ⊢
        rw [e24]
        exact hmb
      have w3 := c111 (d := d + 3) (n := n) (J := J) (ex := ex) (I := I1) ht1 ht4 k hk
      rw [e1] at w3
      have w4 := mb_call (d := d + 3) (n := n) (J := J) (ex := ex) (X := I1) hT1 ht1 ht4 hk (s := sp) (by
        by_cases z : k = 0
        · rw [if_pos z]; exact hs1
        · rw [if_neg z]; exact hs2 z)
      rw [e2] at w4
      exact c121a (d := d) (X := X) hk hs1 hs2 hsm w3 w4 ht1 ht4 ((m 24 180 (by omega)).trans h6) hX
end OJ
