theorem rem_nat {i : Int32} (hi : 0 ≤ i) {T : Nat} (hT : 0 < T) (hT2 : T < 1000) : ∃ r, r < T ∧ i - i / nI T * nI T = nI r := by
  rw [Int32.le_iff_toInt_le, show (0 : Int32).toInt = 0 from rfl] at hi
  have hlt := Int32.toInt_lt i
  obtain ⟨m, hm, rfl⟩ : ∃ m, m < 2147483648 ∧ i = nI m := ⟨i.toInt.toNat, by omega, by apply Int32.toInt_inj.mp; rw [nI_toInt (by omega)]; omega⟩
  refine ⟨m % T, Nat.mod_lt m hT, ?_⟩
  have hd : nI m / nI T = nI (m / T) := by
    apply Int32.toInt_inj.mp
    rw [Int32.toInt_div, nI_toInt hm, nI_toInt (by omega), nI_toInt (by have := Nat.div_le_self m T; omega)]
    have h1 : (m : Int).tdiv (T : Int) = ((m / T : Nat) : Int) := by
      rw [Int.tdiv_eq_ediv_of_nonneg (by omega)]
      rfl
    rw [h1]
    have := Nat.div_le_self m T
    generalize m / T = q at *
    exact Int.bmod_eq_of_le (by omega) (by omega)
  rw [hd, zz_nI_mul]
  have h2 : m / T * T ≤ m := Nat.div_mul_le_self m T
  rw [nI_sub' h2]
  congr 1
  have := Nat.div_add_mod m T
  rw [Nat.mul_comm] at this
  omega

theorem sub_toInt {a : Int32} {x : Int} {n : Nat} (h : a.toInt = x) (h1 : -1000 ≤ x) (h2 : x ≤ 1000) (hn : n ≤ 100) : (a - nI n).toInt = x - n := by
  rw [Int32.toInt_sub, h, nI_toInt (by omega)]
  exact Int.bmod_eq_of_le (by omega) (by omega)
theorem cond_p {a : Int32} {x : Int} {n : Nat} (h : a.toInt = x) (hn : n ≤ 100) : (0 ≤ a ∧ a < nI n) = (0 ≤ x ∧ x < n) := by
  rw [Int32.le_iff_toInt_le, Int32.lt_iff_toInt_lt, h, nI_toInt (by omega), show (0 : Int32).toInt = 0 from rfl]
theorem cond_q {a : Int32} {x : Int} {n : Nat} (h : a.toInt = x) (hn : n ≤ 100) : (a < nI n) = (x < n) := by
  rw [Int32.lt_iff_toInt_lt, h, nI_toInt (by omega)]
theorem go_core {f : Nat → Int32} {n0 n1 n2 n3 n4 r : Nat} (h0 : f 0 = nI n0) (h1 : f 1 = nI n1) (h2 : f 2 = nI n2) (h3 : f 3 = nI n3) (h4 : f 4 = nI n4) (k0 : n0 ≤ 19) (k1 : n1 ≤ 19) (k2 : n2 ≤ 19) (k3 : n3 ≤ 19) (k4 : n4 ≤ 19) (hr : r < n0 + n1 + n2 + n3 + n4) : ∃ g, g < 5 ∧ zz_wh (fun g l => decide (l < f g)) (fun g _ => nI g) (fun g l => l - f g) (fun _ => -1) 5 0 (nI r) = nI g ∧ (zz_fold (fun g (Y : Int32 × Int32) => (if 0 ≤ Y.2 ∧ Y.2 < f g then nI g else Y.1, Y.2 - f g)) 5 0 (-1, nI r)).1 = nI g ∧ ∀ N : Nat → Nat, N 0 = n0 → N 1 = n1 → N 2 = n2 → N 3 = n3 → N 4 = n4 → 1 ≤ N g := by
  have l0 : (nI r).toInt = (r : Int) := nI_toInt (by omega)
  have l1 := sub_toInt (n := n0) l0 (by omega) (by omega) (by omega)
  have l2 := sub_toInt (n := n1) l1 (by omega) (by omega) (by omega)
  have l3 := sub_toInt (n := n2) l2 (by omega) (by omega) (by omega)
  have l4 := sub_toInt (n := n3) l3 (by omega) (by omega) (by omega)
  have p0 := cond_p (n := n0) l0 (by omega)
  have p1 := cond_p (n := n1) l1 (by omega)
  have p2 := cond_p (n := n2) l2 (by omega)
  have p3 := cond_p (n := n3) l3 (by omega)
  have p4 := cond_p (n := n4) l4 (by omega)
  have q0 := cond_q (n := n0) l0 (by omega)
  have q1 := cond_q (n := n1) l1 (by omega)
  have q2 := cond_q (n := n2) l2 (by omega)
  have q3 := cond_q (n := n3) l3 (by omega)
  have q4 := cond_q (n := n4) l4 (by omega)
  simp only [zz_wh, zz_fold, Nat.zero_add, Nat.reduceAdd, h0, h1, h2, h3, h4, decide_eq_true_eq]
  have hc : r < n0 ∨ (n0 ≤ r ∧ r < n0 + n1) ∨ (n0 + n1 ≤ r ∧ r < n0 + n1 + n2) ∨ (n0 + n1 + n2 ≤ r ∧ r < n0 + n1 + n2 + n3) ∨ (n0 + n1 + n2 + n3 ≤ r) := by omega
  rcases hc with z | z | z | z | z
  · refine ⟨0, by decide, ?_, ?_, fun N e _ _ _ _ => by omega⟩
    · simp only [q0, q1, q2, q3, q4, show ((r : Int) < ↑n0) = True from eq_true (by omega), if_true, if_false]
    · simp only [p0, p1, p2, p3, p4, show (0 ≤ (r : Int) ∧ (r : Int) < ↑n0) = True from eq_true (by omega), show (0 ≤ (r : Int) - ↑n0 ∧ (r : Int) - ↑n0 < ↑n1) = False from eq_false (by omega), show (0 ≤ (r : Int) - ↑n0 - ↑n1 ∧ (r : Int) - ↑n0 - ↑n1 < ↑n2) = False from eq_false (by omega), show (0 ≤ (r : Int) - ↑n0 - ↑n1 - ↑n2 ∧ (r : Int) - ↑n0 - ↑n1 - ↑n2 < ↑n3) = False from eq_false (by omega), show (0 ≤ (r : Int) - ↑n0 - ↑n1 - ↑n2 - ↑n3 ∧ (r : Int) - ↑n0 - ↑n1 - ↑n2 - ↑n3 < ↑n4) = False from eq_false (by omega), if_true, if_false]
  · refine ⟨1, by decide, ?_, ?_, fun N _ e _ _ _ => by omega⟩
    · simp only [q0, q1, q2, q3, q4, show ((r : Int) < ↑n0) = False from eq_false (by omega), show ((r : Int) - ↑n0 < ↑n1) = True from eq_true (by omega), if_true, if_false]
    · simp only [p0, p1, p2, p3, p4, show (0 ≤ (r : Int) ∧ (r : Int) < ↑n0) = False from eq_false (by omega), show (0 ≤ (r : Int) - ↑n0 ∧ (r : Int) - ↑n0 < ↑n1) = True from eq_true (by omega), show (0 ≤ (r : Int) - ↑n0 - ↑n1 ∧ (r : Int) - ↑n0 - ↑n1 < ↑n2) = False from eq_false (by omega), show (0 ≤ (r : Int) - ↑n0 - ↑n1 - ↑n2 ∧ (r : Int) - ↑n0 - ↑n1 - ↑n2 < ↑n3) = False from eq_false (by omega), show (0 ≤ (r : Int) - ↑n0 - ↑n1 - ↑n2 - ↑n3 ∧ (r : Int) - ↑n0 - ↑n1 - ↑n2 - ↑n3 < ↑n4) = False from eq_false (by omega), if_true, if_false]
  · refine ⟨2, by decide, ?_, ?_, fun N _ _ e _ _ => by omega⟩
    · simp only [q0, q1, q2, q3, q4, show ((r : Int) < ↑n0) = False from eq_false (by omega), show ((r : Int) - ↑n0 < ↑n1) = False from eq_false (by omega), show ((r : Int) - ↑n0 - ↑n1 < ↑n2) = True from eq_true (by omega), if_true, if_false]
    · simp only [p0, p1, p2, p3, p4, show (0 ≤ (r : Int) ∧ (r : Int) < ↑n0) = False from eq_false (by omega), show (0 ≤ (r : Int) - ↑n0 ∧ (r : Int) - ↑n0 < ↑n1) = False from eq_false (by omega), show (0 ≤ (r : Int) - ↑n0 - ↑n1 ∧ (r : Int) - ↑n0 - ↑n1 < ↑n2) = True from eq_true (by omega), show (0 ≤ (r : Int) - ↑n0 - ↑n1 - ↑n2 ∧ (r : Int) - ↑n0 - ↑n1 - ↑n2 < ↑n3) = False from eq_false (by omega), show (0 ≤ (r : Int) - ↑n0 - ↑n1 - ↑n2 - ↑n3 ∧ (r : Int) - ↑n0 - ↑n1 - ↑n2 - ↑n3 < ↑n4) = False from eq_false (by omega), if_true, if_false]
  · refine ⟨3, by decide, ?_, ?_, fun N _ _ _ e _ => by omega⟩
    · simp only [q0, q1, q2, q3, q4, show ((r : Int) < ↑n0) = False from eq_false (by omega), show ((r : Int) - ↑n0 < ↑n1) = False from eq_false (by omega), show ((r : Int) - ↑n0 - ↑n1 < ↑n2) = False from eq_false (by omega), show ((r : Int) - ↑n0 - ↑n1 - ↑n2 < ↑n3) = True from eq_true (by omega), if_true, if_false]
    · simp only [p0, p1, p2, p3, p4, show (0 ≤ (r : Int) ∧ (r : Int) < ↑n0) = False from eq_false (by omega), show (0 ≤ (r : Int) - ↑n0 ∧ (r : Int) - ↑n0 < ↑n1) = False from eq_false (by omega), show (0 ≤ (r : Int) - ↑n0 - ↑n1 ∧ (r : Int) - ↑n0 - ↑n1 < ↑n2) = False from eq_false (by omega), show (0 ≤ (r : Int) - ↑n0 - ↑n1 - ↑n2 ∧ (r : Int) - ↑n0 - ↑n1 - ↑n2 < ↑n3) = True from eq_true (by omega), show (0 ≤ (r : Int) - ↑n0 - ↑n1 - ↑n2 - ↑n3 ∧ (r : Int) - ↑n0 - ↑n1 - ↑n2 - ↑n3 < ↑n4) = False from eq_false (by omega), if_true, if_false]
  · refine ⟨4, by decide, ?_, ?_, fun N _ _ _ _ e => by omega⟩
    · simp only [q0, q1, q2, q3, q4, show ((r : Int) < ↑n0) = False from eq_false (by omega), show ((r : Int) - ↑n0 < ↑n1) = False from eq_false (by omega), show ((r : Int) - ↑n0 - ↑n1 < ↑n2) = False from eq_false (by omega), show ((r : Int) - ↑n0 - ↑n1 - ↑n2 < ↑n3) = False from eq_false (by omega), show ((r : Int) - ↑n0 - ↑n1 - ↑n2 - ↑n3 < ↑n4) = True from eq_true (by omega), if_true, if_false]
    · simp only [p0, p1, p2, p3, p4, show (0 ≤ (r : Int) ∧ (r : Int) < ↑n0) = False from eq_false (by omega), show (0 ≤ (r : Int) - ↑n0 ∧ (r : Int) - ↑n0 < ↑n1) = False from eq_false (by omega), show (0 ≤ (r : Int) - ↑n0 - ↑n1 ∧ (r : Int) - ↑n0 - ↑n1 < ↑n2) = False from eq_false (by omega), show (0 ≤ (r : Int) - ↑n0 - ↑n1 - ↑n2 ∧ (r : Int) - ↑n0 - ↑n1 - ↑n2 < ↑n3) = False from eq_false (by omega), show (0 ≤ (r : Int) - ↑n0 - ↑n1 - ↑n2 - ↑n3 ∧ (r : Int) - ↑n0 - ↑n1 - ↑n2 - ↑n3 < ↑n4) = True from eq_true (by omega), if_true, if_false]
section OB
variable {d n t pc s : Nat} {I X I1 W A B : Nat → Nat → Int32} {J : Nat → Nat → Int64} {ex : List (Nat × Nat)} {y : Int64} {S : Nat → Int32}
theorem op_play (k a b : Int32) : Opr 13 [.int k, .int a, .int b] 141 [.int k, .int a, .int b] (fun e => if e = 4 then 1 else if e = 3 then 2 else 0) := fun I y hR => by
  obtain ⟨pc, h5, h15, hpc, hC⟩ := hR.plc
  obtain ⟨hpo, hrn⟩ := pl_rng k a b
  cases hpl : isPl k a b with
  | false =>
    rw [hpl] at hpo
    exact Or.inr ⟨4, fun d n J ex => c13e (d := d + 12) k a b hpl, by decide, _, OkM.ref' hR (fun d n J ex => ⟨false, c141n1 (d := d) k a b (by cases z : plO k a b with
      | true => rfl
      | false => rw [z] at hpo; cases hpo)⟩)⟩
  | true =>
    obtain ⟨q, hq, rfl⟩ := hrn hpl
    have hg2 : q = 2 → isG b = true := fun z => by
      subst z
      unfold isPl at hpl
      rw [if_neg (by decide), if_neg (by decide), if_pos (by decide), Bool.and_eq_true] at hpl
      exact hpl.2
    have hg1 : 1 < q → isG a = true := fun z => by
      have : q = 2 ∨ q = 3 := by omega
      unfold isPl at hpl
      rcases this with rfl | rfl
      · rw [if_neg (by decide), if_neg (by decide), if_pos (by decide), Bool.and_eq_true] at hpl
        exact hpl.1
      · rw [if_neg (by decide), if_neg (by decide), if_neg (by decide), if_pos (by decide)] at hpl
        exact hpl
    by_cases h6 : I 24 180 = 6
    · obtain ⟨pc, N, t, D, x, h5, h15, hp2, hpc, hC, a1, a2, a3, a4, a5, a6⟩ := hR.ph_dat (k := 6) (by decide) (by decide) h6
      have h69 : I 9 0 = 6 := hC.ph.trans h6
      have ht : I 24 181 = nI t := a3.2.2.2.1
      have ht9 : I 9 1 = nI t := hC.on.trans ht
      have ht4 : t < 4 := by have := a3.2.2.2.2.1; omega
      have mpl := fun (u v : Nat) (hu : u < 5) (hv : v < 5) => r_mPl (I := I) hC (k := q) (a := u) (b := v) (C := N (151 + 5 * t + q)) (F := N (171 + q)) hq ht4 hu hv h6 a3.pl (a1 _ (by omega)) (by have := a2.2.2.2.1 (151 + 5 * t + q) (by omega) (by omega); have := a3.2.2.2.2.2.2.1; omega) (a1 _ (by omega)) (by have := a2.2.2.2.1 (171 + q) (by omega) (by omega); have := a3.2.2.2.2.2.2.1; omega)
      by_cases hq2 : q = 2
      · subst hq2
        obtain ⟨v, hv, rfl⟩ := isG_nat (hg2 rfl)
        obtain ⟨u, hu, rfl⟩ := isG_nat (hg1 (by decide))
        have e := mpl u v hu hv
        cases hcp : cPl I t 2 u v with
        | false =>
          rw [hcp] at e
          refine Or.inr ⟨3, fun d n J ex => c13g (d := d + 12) _ _ _ hpl h69 ?_, by decide, _, OkM.ref' hR (fun d n J ex => ⟨false, c141n2 (d := d) 2 (by decide) _ _ (fun _ => isG_t hv) (fun _ => isG_t hu) ?_⟩)⟩
          · have w1 := c77 (d := d + 16) (n := n) (J := J) (ex := ex) ht9 ht4 2 (by decide) u v hu hv
            rw [e] at w1
            exact w1
          · have w := c139 (d := d + 4) (n := n) (J := J) (ex := ex) ht ht4 2 (by decide) u v hu hv
            rw [hcp] at w
            exact w
        | true =>
          rw [hcp] at e
          exact Or.inl (play2 hR h6 ht ht4 u v hu hv hcp e)
      · have e := mpl 0 0 (by decide) (by decide)
        cases hcp : cPl I t q 0 0 with
        | false =>
          rw [hcp] at e
          refine Or.inr ⟨3, fun d n J ex => c13g (d := d + 12) _ _ _ hpl h69 ?_, by decide, _, OkM.ref' hR (fun d n J ex => ⟨false, c141n2 (d := d) q hq _ _ hg2 hg1 ?_⟩)⟩
          · have w1 := c77n (d := d + 16) (n := n) (J := J) (ex := ex) ht9 ht4 q hq hq2 a b
            rw [e] at w1
            exact w1
          · have w := c139n (d := d + 4) (n := n) (J := J) (ex := ex) ht ht4 q hq hq2 a b
            rw [hcp] at w
            exact w
        | true =>
          rw [hcp] at e
          have h3 : q = 0 ∨ q = 1 ∨ q = 3 := by omega
          rcases h3 with rfl | rfl | rfl
          · exact Or.inl (play0 hR h6 ht ht4 a b hcp e)
          · exact Or.inl (play1 hR h6 ht ht4 a b hcp e)
          · obtain ⟨u, hu, rfl⟩ := isG_nat (hg1 (by decide))
            exact Or.inl (play3 hR h6 ht ht4 u hu b hcp e)
    · exact Or.inr ⟨3, fun d n J ex => c13f (d := d + 12) _ _ _ hpl (fun z => h6 (hC.ph.symm.trans z)), by decide, _, OkM.ref' hR (fun d n J ex => ⟨false, c141n2 (d := d) q hq _ _ hg2 hg1 (c139z (d := d + 4) h6 _ _ _)⟩)⟩
-- goods of a card drawn by the blocker
theorem go_eq (hC : Cst I 9 (I 24)) {N : Nat → Nat} {D v : Nat} (a1 : ∀ j, j < 180 → I 24 j = nI (N j)) (a2 : Vn pc D N) (hv : v < 4) {i : Int32} (hi : 0 ≤ i) (hs : 0 < hdm I v) : ∃ g, g < 5 ∧ gOC I v i = nI g ∧ blG I v i = nI g ∧ 1 ≤ N (126 + (v * 5 + g)) := by
  have hh : ∀ g, g < 5 → N (126 + (v * 5 + g)) ≤ 19 := fun g hg => V_hand a2 (by omega) (by omega)
  have e24 : ∀ g, g < 5 → I 24 (126 + 5 * v + g) = nI (N (126 + (v * 5 + g))) := fun g hg => by rw [show 126 + 5 * v + g = 126 + (v * 5 + g) by omega, a1 _ (by omega)]
  have e12 : ∀ g, g < 5 → I 12 (v * 5 + g) = nI (N (126 + (v * 5 + g))) := fun g hg => by rw [hC.hd (by omega), a1 _ (by omega)]
  have eh : hdm I v = nI (N (126 + (v * 5 + 0)) + N (126 + (v * 5 + 1)) + N (126 + (v * 5 + 2)) + N (126 + (v * 5 + 3)) + N (126 + (v * 5 + 4))) := by
    unfold hdm
    simp only [zz_fold, e24 0 (by decide), e24 1 (by decide), e24 2 (by decide), e24 3 (by decide), e24 4 (by decide), Int32.zero_add, zz_nI_add]
  have ehs : hsz I v = hdm I v := r_hsz hC hv
  have h0 := hh 0 (by decide)
  have h1 := hh 1 (by decide)
  have h2 := hh 2 (by decide)
  have h3 := hh 3 (by decide)
  have h4 := hh 4 (by decide)
  have hT : 0 < N (126 + (v * 5 + 0)) + N (126 + (v * 5 + 1)) + N (126 + (v * 5 + 2)) + N (126 + (v * 5 + 3)) + N (126 + (v * 5 + 4)) := by
    rw [eh] at hs
    exact (zz_nI_lt (a := 0) (by decide) (by omega)).mp hs
  obtain ⟨r, hr, er⟩ := rem_nat hi hT (by omega)
  obtain ⟨g, hg, w1, w2, w3⟩ := go_core (f := fun g => if g < 5 then nI (N (126 + (v * 5 + g))) else 0) rfl rfl rfl rfl rfl h0 h1 h2 h3 h4 hr
  refine ⟨g, hg, ?_, ?_, w3 (fun g => N (126 + (v * 5 + g))) rfl rfl rfl rfl rfl⟩
  · unfold gOC
    rw [ehs, eh, if_neg (fun z => by
      have := (zz_nI_eq (b := 0) (by omega) (by decide)).mp z
      omega), er, ← w1]
    refine wh_congr (fun _ => rfl) 5 0 (nI r) (fun i a _ hi => ?_)
    rw [e12 i (by omega), if_pos (by omega)]
    exact ⟨rfl, rfl⟩
  · unfold blG
    rw [eh, er, ← w2]
    congr 1
    refine zz_fold_congr 5 0 (-1, nI r) (fun i a _ hi => ?_)
    unfold blS
    rw [e24 i (by omega), if_pos (show i < 5 by omega)]
end OB
