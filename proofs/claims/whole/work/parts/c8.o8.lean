section O8
variable {d n t pc s : Nat} {I X I1 W A B : Nat → Nat → Int32} {J : Nat → Nat → Int64} {ex : List (Nat × Nat)} {y : Int64} {S : Nat → Int32}
-- play: what is common
theorem ply_ne {k b j : Nat} (h : ¬ (9 ≤ b ∧ b ≤ 15)) : plyW I t k b j = rmb I b j := by
  unfold plyW
  rw [up_ne (by omega), up_ne (by omega)]
theorem ply_C (hC : Cst I 9 (I 24)) {k : Nat} (ht : t < 4) (hk : k < 5) : Cst (plyW I t k) 9 (sup (sup (I 24) (151 + (t * 5 + k)) (I 24 (151 + (t * 5 + k)) - 1)) 184 1) := by
  unfold plyW
  exact (hC.rmb.u13 (by omega) (by rw [hC.cd (by omega)])).v11 1
theorem ppM_24 (hI : ∀ b j, ¬ (9 ≤ b ∧ b ≤ 15) → I1 b j = rmb I b j) {k : Nat} : ppM I1 t k 24 = sup (sup (I 24) (151 + (t * 5 + k)) (I 24 (151 + (t * 5 + k)) - 1)) 184 1 := by
  unfold ppM
  rw [up_sup, up_sup, f_r24 hI, f_c4 hI _ _ (by omega), show 151 + 5 * t + k = 151 + (t * 5 + k) by omega]
theorem ppM_ne {k b j : Nat} (hb : ¬ b = 24) : ppM I1 t k b j = rmM I1 b j := by
  unfold ppM
  rw [up_ne hb, up_ne hb]
theorem cPl_card {k a b : Nat} {N : Nat → Nat} {D : Nat} (a1 : ∀ j, j < 180 → I 24 j = nI (N j)) (a2 : Vn pc D N) (hD : D ≤ 16) (ht : t < 4) (hk : k < 4) (h : cPl I t k a b = true) : 1 ≤ N (151 + (t * 5 + k)) := by
  unfold cPl at h
  rw [Bool.and_eq_true, Bool.and_eq_true, Bool.and_eq_true, decide_eq_true_eq, decide_eq_true_eq, decide_eq_true_eq] at h
  have h3 := h.2.2.1
  have c1 := a2.2.2.2.1 (151 + (t * 5 + k)) (by omega) (by omega)
  have c2 := a2.2.2.2.1 (171 + k) (by omega) (by omega)
  rw [show 151 + 5 * t + k = 151 + (t * 5 + k) by omega, a1 _ (by omega), a1 _ (by omega), Int32.le_iff_toInt_le, Int32.toInt_sub, nI_toInt (by omega), nI_toInt (by omega), show (1 : Int32).toInt = 1 from rfl, Int.bmod_eq_of_le (by omega) (by omega)] at h3
  omega
theorem ply_V {tg : Int32} {N N' : Nat → Nat} {D x k f' : Nat} {S' : Nat → Int32} (hpc : pc ≤ 4) (a1 : ∀ j, j < 180 → I 24 j = nI (N j)) (a2 : Vn pc D N) (a3 : Vfl pc 6 t D x (I 24)) (a5 : Vaw pc (I 24)) (a6 : Vpt 6 t tg (I 24)) (hk : k < 4) (hc : 1 ≤ N (151 + (t * 5 + k))) (r : ∀ j, j < 180 → S' j = nI (N' j)) (hN' : ∀ j, j < 180 → ¬ (126 ≤ j ∧ j < 151) → ¬ j = 151 + (t * 5 + k) → N' j = N j) (hNk : N' (151 + (t * 5 + k)) ≤ N (151 + (t * 5 + k))) (hsum : ∀ g, g < 5 → sumG N' g = 19) (sn : ∀ j, ¬ (126 ≤ j ∧ j < 151) → ¬ j = 151 + (t * 5 + k) → ¬ j = 184 → ¬ j = 180 → ¬ j = 185 → S' j = I 24 j) (h184 : S' 184 = 0 ∨ S' 184 = 1) (h180 : S' 180 = nI f') (hf3 : 3 ≤ f') (hf7 : f' ≤ 7) : Vst pc tg S' := by
  have ht4 : t < pc := a3.2.2.2.2.1
  refine Vst.qg (f' := f') a3 a5 a6 (by decide) (by decide) r (a2.upd (fun j hj => hN' j (by omega) (by omega) (by omega)) hsum (fun j j1 j2 => ?_) (fun j j1 j2 => by rw [hN' j (by omega) (by omega) (by omega)]; exact a2.2.2.2.2.1 j j1 j2)) h180 hf3 hf7 (by rw [sn _ (by omega) (by omega) (by omega) (by omega) (by omega)]; exact a3.2.2.2.2.2.1) a3.2.2.2.2.2.2.1 h184 (by rw [sn _ (by omega) (by omega) (by omega) (by omega) (by omega)]; exact a3.2.2.2.2.2.2.2.2.1) (fun j hj => sn j (by omega) (by omega) (by omega) (by omega) (by omega)) (sn _ (by omega) (by omega) (by omega) (by omega) (by omega)) (sn _ (by omega) (by omega) (by omega) (by omega) (by omega)) (sn _ (by omega) (by omega) (by omega) (by omega) (by omega)) (sn _ (by omega) (by omega) (by omega) (by omega) (by omega)) (sn _ (by omega) (by omega) (by omega) (by omega) (by omega))
  by_cases z : j = 151 + (t * 5 + k)
  · subst z
    have := a2.2.2.2.1 _ j1 j2
    omega
  · rw [hN' j (by omega) (by omega) z]
    exact a2.2.2.2.1 j j1 j2
theorem ply_r {N : Nat → Nat} {k : Nat} (a1 : ∀ j, j < 180 → I 24 j = nI (N j)) (ht : t < 4) (hk : k < 4) (hc : 1 ≤ N (151 + (t * 5 + k))) : ∀ j, j < 180 → sup (sup (I 24) (151 + (t * 5 + k)) (I 24 (151 + (t * 5 + k)) - 1)) 184 1 j = nI (nup N (151 + (t * 5 + k)) (N (151 + (t * 5 + k)) - 1) j) :=
  rep_sup2 (rep_sup a1 (by rw [a1 _ (by omega)]; exact nI_sub' (b := 1) hc)) (by omega)
theorem nup_sum {N : Nat → Nat} {i v : Nat} (hi : ¬ (126 ≤ i ∧ i < 151)) {g : Nat} (hg : g < 5) : sumG (nup N i v) g = sumG N g := by
  unfold sumG
  rw [nup_ne (by omega), nup_ne (by omega), nup_ne (by omega), nup_ne (by omega), nup_ne (by omega)]
-- the blocker's card
theorem play0 (hR : Rel I y) (h6 : I 24 180 = 6) {t : Nat} (ht : I 24 181 = nI t) (ht4 : t < 4) (a b : Int32) (hcp : cPl I t 0 0 0 = true) (hmp : mPl I t 0 0 0 = true) : ∃ I1 v, OkC 13 [.int (nI 0), .int a, .int b] I y I1 v ∧ OkM 141 [.int (nI 0), .int a, .int b] I1 y v 0 := by
  obtain ⟨pc, N, t', D, x, h5, h15, hp2, hpc, hC, a1, a2, a3, a4, a5, a6⟩ := hR.ph_dat (k := 6) (by decide) (by decide) h6
  have htt : t' = t := (zz_nI_eq (by have := a3.2.2.2.2.1; omega) (by omega)).mp (by rw [← ht]; exact a3.2.2.2.1.symm)
  subst htt
  have h69 : I 9 0 = 6 := hC.ph.trans h6
  have ht9 : I 9 1 = nI t' := hC.on.trans ht
  have hc := cPl_card a1 a2 a3.2.2.2.2.2.2.1 ht4 (by decide) hcp
  have hI : ∀ b' j, ¬ (9 ≤ b' ∧ b' ≤ 15) → zz_up (plyW I t' 0) 9 0 5 b' j = rmb I b' j := fun b' j hb => by rw [up_ne (by omega), ply_ne hb]
  have hCI := (ply_C hC (t := t') (k := 0) ht4 (by decide)).v0p 5 (by decide) (by decide) (by decide)
  generalize hI1 : zz_up (plyW I t' 0) 9 0 5 = I1 at *
  have m := f_c4 hI
  have hW24 : zz_up (ppM I1 t' 0) 24 180 5 24 = sup (sup (sup (I 24) (151 + (t' * 5 + 0)) (I 24 (151 + (t' * 5 + 0)) - 1)) 184 1) 180 5 := by rw [up_sup, ppM_24 hI]
  refine ⟨I1, some (.int 0), fun d n J ex _ => ⟨false, ?_⟩, fun d n J ex => ?_⟩
  · have w1 := c77n (d := d + 16) (n := n) (J := J) (ex := ex) ht9 ht4 0 (by decide) (by decide) a b
    rw [hmp] at w1
    have w2 := c78a (d := d + 12) (n := n) (J := J) (ex := ex) (I := plyW I t' 0) a b
    rw [hI1] at w2
    exact c13a (d := d + 12) (by rw [hC.pl]; exact a3.pl) ht9 ht4 0 (by decide) a b rfl h69 w1 w2
  · obtain ⟨X, l1, l2, l3, l4⟩ := opq' (I1 := I1) hR h5 hpc hp2 hI (W := zz_up (ppM I1 t' 0) 24 180 5) (fun b' j hb => by rw [up_ne hb, ppM_ne hb]) (by rw [hW24]; exact hCI) (by
      rw [hW24]
      exact ply_V (k := 0) (f' := 5) hpc a1 a2 a3 a5 a6 (by decide) hc (rep_sup2 (ply_r a1 ht4 (by decide) hc) (by omega)) (fun j _ _ hj => nup_ne hj) (by rw [nup_eq]; omega) (fun g hg => by rw [nup_sum (by omega) hg]; exact a2.2.2.1 g hg) (fun j j1 j2 j3 j4 _ => by rw [sup_ne j4, sup_ne j3, sup_ne j2]) (Or.inr (by rw [sup_ne (by omega), sup_eq])) (by rw [sup_eq]; rfl) (by decide) (by decide)) d n J ex
    refine ⟨X, false, ?_, l2, l3⟩
    have e0 : cPl I1 t' 0 0 0 = true := by
      unfold cPl pcm cnt at hcp ⊢
      rw [show I1 24 = I 24 from funext fun j => m 24 j (by omega)]
      exact hcp
    have w := c139n (d := d + 4) (n := n) (J := J) (ex := ex) (I := I1) ((m 24 181 (by omega)).trans ht) ht4 0 (by decide) (by decide) a b
    rw [e0] at w
    exact c141a0 (d := d) (X := X) ((m 24 181 (by omega)).trans ht) ht4 a b w l1
end O8
