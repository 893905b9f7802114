theorem up_comm {α : Type} {f : Nat → Nat → α} {a i j : Nat} {v w : α} (h : ¬ i = j) : zz_up (zz_up f a i v) a j w = zz_up (zz_up f a j w) a i v := by
  funext b k
  unfold zz_up
  by_cases z : b = a
  · by_cases z1 : k = i
    · by_cases z2 : k = j
      · omega
      · simp [z, z1, h]
    · simp [z, z1]
  · simp [z]
section O9
variable {d n t pc s : Nat} {I X I1 W A B : Nat → Nat → Int32} {J : Nat → Nat → Int64} {ex : List (Nat × Nat)} {y : Int64} {S : Nat → Int32}
theorem Cst.v6 (h : Cst I 9 S) (v : Int32) : Cst (zz_up I 9 6 v) 9 (sup S 185 v) := by
  obtain ⟨g1, g2, g3, g4, g5, g6, g7, g8, g9, g10, g11, g12, g13, g14, g15, g16, g17, g18, g19⟩ := h
  refine ⟨fun e he => ?_, fun e he => ?_, fun e he => ?_, fun e he => ?_, fun e he => ?_, fun e he => ?_, ?_, ?_, ?_, ?_, ?_, ?_, ?_, ?_, ?_, fun z => ?_, fun z => ?_, fun z => ?_, fun z => ?_⟩
  · rw [up_ne (by decide), sup_ne (by omega)]; exact g1 e he
  · rw [up_ne (by decide), sup_ne (by omega)]; exact g2 e he
  · rw [up_ne (by decide), sup_ne (by omega)]; exact g3 e he
  · rw [up_ne (by decide), sup_ne (by omega)]; exact g4 e he
  · rw [up_ne (by decide), sup_ne (by omega)]; exact g5 e he
  · rw [up_ne (by decide), sup_ne (by omega)]; exact g6 e he
  · rw [up_nf (by decide), sup_ne (by omega)]; exact g7
  · rw [up_nf (by decide), sup_ne (by omega)]; exact g8
  · rw [up_nf (by decide), sup_ne (by omega)]; exact g9
  · rw [up_nf (by decide), sup_ne (by omega)]; exact g10
  · rw [up_nf (by decide), sup_ne (by omega)]; exact g11
  · rw [up_nf (by decide), sup_ne (by omega)]; exact g12
  · rw [up_nf (by decide), sup_ne (by omega)]; exact g13
  · rw [up_nf (by decide), sup_ne (by omega)]; exact g14
  · rw [up_nf (by decide), sup_ne (by omega)]; exact g15
  · rw [up_eq, sup_eq]
  · rw [sup_ne (by omega)] at z
    rw [up_nf (by decide), sup_ne (by omega)]; exact g17 z
  · rw [sup_ne (by omega)] at z
    rw [up_nf (by decide), sup_ne (by omega)]; exact g18 z
  · rw [sup_ne (by omega)] at z
    rw [up_nf (by decide), sup_ne (by omega)]; exact g19 z
theorem eF_eRm (hC : Cst A 9 (B 24)) {N : Nat → Nat} {D : Nat} (a1 : ∀ j, j < 180 → B 24 j = nI (N j)) (a2 : Vn pc D N) (hpc : pc ≤ 4) (ht : t < 4) (h7 : B 24 180 = 7) : eF A t = eRm B t := by
  have e1 : eF (mix A B) t = eF A t := fr_eF (mixn (by decide)) (mixn (by decide)) (mixn (by decide))
  have e2 : eRm (mix A B) t = eRm B t := fr_eRm mix24
  have hm : ∀ j, j < 180 → mix A B 24 j = nI (N j) := by rw [mix24]; exact a1
  rw [← e1, ← e2]
  exact r_eF hC.mix (V_corners hm a2 hpc) ht (by rw [mix24]; exact h7) (V_roads hm a2 hpc t ht)
theorem play1 (hR : Rel I y) (h6 : I 24 180 = 6) {t : Nat} (ht : I 24 181 = nI t) (ht4 : t < 4) (a b : Int32) (hcp : cPl I t 1 0 0 = true) (hmp : mPl I t 1 0 0 = true) : ∃ I1 v, OkC 13 [.int (nI 1), .int a, .int b] I y I1 v ∧ OkM 141 [.int (nI 1), .int a, .int b] I1 y v 0 := by
  obtain ⟨pc, N, t', D, x, h5, h15, hp2, hpc, hC, a1, a2, a3, a4, a5, a6⟩ := hR.ph_dat (k := 6) (by decide) (by decide) h6
  have htt : t' = t := (zz_nI_eq (by have := a3.2.2.2.2.1; omega) (by omega)).mp (by rw [← ht]; exact a3.2.2.2.1.symm)
  subst htt
  have h69 : I 9 0 = 6 := hC.ph.trans h6
  have ht9 : I 9 1 = nI t' := hC.on.trans ht
  have hc := cPl_card a1 a2 a3.2.2.2.2.2.2.1 ht4 (by decide) hcp
  have hCP := ply_C hC (t := t') (k := 1) ht4 (by decide)
  have hrP := ply_r a1 ht4 (k := 1) (by decide) hc
  have hP0 : ∀ b' j, ¬ (9 ≤ b' ∧ b' ≤ 15) → plyW I t' 1 b' j = rmb I b' j := fun b' j hb => ply_ne hb
  have hPT : Tb (rC (plyW I t' 1)) := hR.tb.cong (fun b' j hb => by unfold rC; rw [up_ne (by omega), up_ne (by omega), hP0 b' j (by omega), rmb_ne (by omega) (by omega)])
  have hP91 : rC (plyW I t' 1) 9 1 = nI t' := by
    unfold rC plyW
    rw [up_nf (by decide), up_nf (by decide), up_nf (by decide), up_ne (by decide), rm9, ht9]
  generalize hs1 : sup (sup (I 24) (151 + (t' * 5 + 1)) (I 24 (151 + (t' * 5 + 1)) - 1)) 184 1 = s1 at *
  have hCr : Cst (rC (plyW I t' 1)) 9 (sup (sup s1 180 7) 185 2) := by
    unfold rC
    rw [up_comm (by decide), sup_comm (by decide)]
    exact (hCP.v6 2).v0 7 (fun _ => by rw [up_eq, sup_eq]) (fun z => absurd z (by decide)) (fun z => absurd z (by decide)) (fun z => absurd z (by decide))
  have hrCne : ∀ b' j, ¬ (9 ≤ b' ∧ b' ≤ 15) → rC (plyW I t' 1) b' j = rmb I b' j := fun b' j hb => by
    unfold rC
    rw [up_ne (by omega), up_ne (by omega), hP0 b' j hb]
  generalize hE : eF (rC (plyW I t' 1)) t' = E
  have hI : ∀ b' j, ¬ (9 ≤ b' ∧ b' ≤ 15) → (if E = true then zz_up (rC (plyW I t' 1)) 9 0 6 else rC (plyW I t' 1)) b' j = rmb I b' j := fun b' j hb => by
    split
    · rw [up_ne (by omega), hrCne b' j hb]
    · exact hrCne b' j hb
  have hCI : Cst (if E = true then zz_up (rC (plyW I t' 1)) 9 0 6 else rC (plyW I t' 1)) 9 (if E = true then sup (sup (sup (sup s1 180 7) 185 2) 180 6) 185 0 else sup (sup s1 180 7) 185 2) := by
    split
    · exact (hCr.v0p 6 (by decide) (by decide) (by decide)).m185 0 (by rw [sup_eq]; decide)
    · exact hCr
  generalize hI1 : (if E = true then zz_up (rC (plyW I t' 1)) 9 0 6 else rC (plyW I t' 1)) = I1 at *
  have m := f_c4 hI
  have hM24 : zz_up (zz_up (ppM I1 t' 1) 24 180 7) 24 185 2 24 = sup (sup s1 180 7) 185 2 := by rw [up_sup, up_sup, ppM_24 hI, hs1]
  have hM0 : ∀ b' j, ¬ b' = 24 → zz_up (zz_up (ppM I1 t' 1) 24 180 7) 24 185 2 b' j = rmM I1 b' j := fun b' j hb => by rw [up_ne hb, up_ne hb, ppM_ne hb]
  generalize hMe : zz_up (zz_up (ppM I1 t' 1) 24 180 7) 24 185 2 = M at *
  have hrM : ∀ j, j < 180 → M 24 j = nI (nup N (151 + (t' * 5 + 1)) (N (151 + (t' * 5 + 1)) - 1) j) := by
    rw [hM24]
    exact rep_sup2 (rep_sup2 hrP (by omega)) (by omega)
  have hN'V : Vn pc D (nup N (151 + (t' * 5 + 1)) (N (151 + (t' * 5 + 1)) - 1)) := a2.upd (fun j hj => nup_ne (by omega)) (fun g hg => by rw [nup_sum (by omega) hg]; exact a2.2.2.1 g hg) (fun j j1 j2 => by
    by_cases z : j = 151 + (t' * 5 + 1)
    · subst z
      rw [nup_eq]
      have := a2.2.2.2.1 _ j1 j2
      omega
    · rw [nup_ne z]
      exact a2.2.2.2.1 j j1 j2) (fun j j1 j2 => by rw [nup_ne (by omega)]; exact a2.2.2.2.2.1 j j1 j2)
  have hEe : eRm M t' = E := by
    rw [← hE]
    exact (eF_eRm (A := rC (plyW I t' 1)) (B := M) (by rw [hM24]; exact hCr) hrM hN'V hpc ht4 (by rw [hM24, sup_ne (by omega), sup_eq])).symm
  have hTM : Tm M := hR.tm.cong (fun b' j h1 h2 => by rw [hM0 b' j (by omega), rmM_ne (by omega) (Or.inl (by omega)), m b' j (by omega)])
  have hM181 : M 24 181 = nI t' := by rw [hM24, sup_ne (by omega), sup_ne (by omega), ← hs1, sup_ne (by omega), sup_ne (by omega), ht]
  have hW24 : (if E = true then zz_up (zz_up M 24 180 6) 24 185 0 else M) 24 = (if E = true then sup (sup (sup (sup s1 180 7) 185 2) 180 6) 185 0 else sup (sup s1 180 7) 185 2) := by
    split
    · rw [up_sup, up_sup, hM24]
    · exact hM24
  have s1n : ∀ j, ¬ j = 151 + (t' * 5 + 1) → ¬ j = 184 → s1 j = I 24 j := fun j j1 j2 => by rw [← hs1, sup_ne j2, sup_ne j1]
  have s184 : s1 184 = 1 := by rw [← hs1, sup_eq]
  refine ⟨I1, some (.int 0), fun d n J ex _ => ⟨false, ?_⟩, fun d n J ex => ?_⟩
  · have w1 := c77n (d := d + 16) (n := n) (J := J) (ex := ex) ht9 ht4 1 (by decide) (by decide) a b
    rw [hmp] at w1
    have w2 := c78b (d := d + 12) (n := n) (J := J) (ex := ex) (I := plyW I t' 1) (by
      refine hR.tb.cong (fun b' j hb => by rw [hP0 b' j (by omega), rmb_ne (by omega) (by omega)])) (by
      unfold plyW
      rw [up_nf (by decide), up_ne (by decide), rm9, ht9]) a b
    rw [hE, hI1] at w2
    exact c13a (d := d + 12) (by rw [hC.pl]; exact a3.pl) ht9 ht4 1 (by decide) a b rfl h69 w1 w2
  · obtain ⟨X, l1, l2, l3, l4⟩ := opq' (I1 := I1) hR h5 hpc hp2 hI (W := if E = true then zz_up (zz_up M 24 180 6) 24 185 0 else M) (fun b' j hb => by
      split
      · rw [up_ne hb, up_ne hb, hM0 b' j hb]
      · exact hM0 b' j hb) (by rw [hW24]; exact hCI) (by
      rw [hW24]
      have base := fun (S' : Nat → Int32) (f' : Nat) (r : ∀ j, j < 180 → S' j = nI (nup N (151 + (t' * 5 + 1)) (N (151 + (t' * 5 + 1)) - 1) j)) (sn : ∀ j, ¬ j = 180 → ¬ j = 185 → S' j = s1 j) (h180 : S' 180 = nI f') (hf3 : 3 ≤ f') (hf7 : f' ≤ 7) => ply_V (S' := S') (k := 1) (f' := f') hpc a1 a2 a3 a5 a6 (by decide) hc r (fun j _ _ hj => nup_ne hj) (by rw [nup_eq]; omega) (fun g hg => by rw [nup_sum (by omega) hg]; exact a2.2.2.1 g hg) (fun j j1 j2 j3 j4 j5 => by rw [sn j j4 j5, s1n j j2 j3]) (Or.inr (by rw [sn _ (by omega) (by omega), s184])) h180 hf3 hf7
      split
      · exact base _ 6 (rep_sup2 (rep_sup2 (rep_sup2 (rep_sup2 hrP (by omega)) (by omega)) (by omega)) (by omega)) (fun j j1 j2 => by rw [sup_ne j2, sup_ne j1, sup_ne j2, sup_ne j1]) (by rw [sup_ne (by omega), sup_eq]; rfl) (by decide) (by decide)
      · exact base _ 7 (rep_sup2 (rep_sup2 hrP (by omega)) (by omega)) (fun j j1 j2 => by rw [sup_ne j2, sup_ne j1]) (by rw [sup_ne (by omega), sup_eq]; rfl) (by decide) (by decide)) d n J ex
    refine ⟨X, false, ?_, l2, l3⟩
    have e0 : cPl I1 t' 1 0 0 = true := by
      unfold cPl pcm cnt at hcp ⊢
      rw [show I1 24 = I 24 from funext fun j => m 24 j (by omega)]
      exact hcp
    have w := c139n (d := d + 4) (n := n) (J := J) (ex := ex) (I := I1) ((m 24 181 (by omega)).trans ht) ht4 1 (by decide) (by decide) a b
    rw [e0] at w
    have w3 := c118 (d := d + 2) (n := n) (J := J) (ex := ex) (I := M) hTM hM181 ht4
    rw [hEe] at w3
    rw [← hMe] at w3
    rw [← hMe] at l1
    exact c141a1 (d := d) (X := X) ((m 24 181 (by omega)).trans ht) ht4 a b w w3 l1
end O9
