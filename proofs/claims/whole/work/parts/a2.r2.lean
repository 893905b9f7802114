theorem mi_all : (List.range 13).all (fun w => (List.range 4).all (fun p => decide ((decide (0 < nI w) && decide ((nI w - 1) - (nI w - 1) / 8 * 8 = nI p)) = decide (w = p + 1 ∨ w = p + 9)))) = true := by decide +kernel
section RR2
variable {I : Nat → Nat → Int32} {s : Nat → Int32} {t pc : Nat} {W : Nat → Nat}
theorem isMi_w {c p w : Nat} (hw : I 24 (72 + c) = nI w) (hw12 : w ≤ 12) (hp : p < 4) : isMi I c (nI p) = decide (w = p + 1 ∨ w = p + 9) := by
  have h1 := List.all_eq_true.mp (List.all_eq_true.mp mi_all w (List.mem_range.mpr (by omega))) p (List.mem_range.mpr hp)
  unfold isMi
  rw [hw]
  exact of_decide_eq_true h1
theorem nIpos {w : Nat} (h : w < 2147483648) : (0 < nI w) = (0 < w) := propext (zz_nI_lt (a := 0) (by decide) h)
theorem nI_z {w : Nat} (h : w < 2147483648) : (nI w = 0) = (w = 0) := propext (zz_nI_eq (b := 0) h (by decide))
theorem wth_w (h : Cst I 9 (I 24)) {c p w : Nat} (hc : c < 54) (hw : I 24 (72 + c) = nI w) (hw12 : w ≤ 12) (hp : p < 4) : wth I (nI p) c = if w = p + 1 then 1 else if w = p + 9 then 2 else 0 := by
  unfold wth
  simp only [h.bd hc, hw, zz_na8, sub1_nI]
  rw [show p + 8 + 1 = p + 9 by omega]
  simp only [zz_eqN (a := w) (b := p + 1) (by omega) (by omega), zz_eqN (a := w) (b := p + 9) (by omega) (by omega)]
theorem bd_m1 (h : Cst I 9 (I 24)) {c w : Nat} (hc : c < 54) (hw : I 24 (72 + c) = nI w) (hw12 : w ≤ 12) : (I 11 c = -1) = (w = 0) := by
  rw [h.bd hc, sub1_m1, hw, nI_z (by omega)]
theorem r_lO (h : Cst I 9 (I 24)) (hW : ∀ c, c < 54 → I 24 (72 + c) = nI (W c) ∧ W c ≤ 12) {c : Nat} (hc : c < 54) (ht : t < 4) : lO I t c = rch I c t := by
  obtain ⟨h1, h2⟩ := hW c hc
  unfold lO rch
  rw [isMi_w h1 h2 ht, wth_w h hc h1 h2 ht, r_hRd h hc, h1]
  simp only [bd_m1 h hc h1 h2, nI_z (w := W c) (by omega)]
  by_cases z : W c = 0
  · have : ¬ (W c = t + 1 ∨ W c = t + 9) := by omega
    simp [z]
  · by_cases z1 : W c = t + 1
    · simp [z1]
    · by_cases z2 : W c = t + 9
      · simp [z2]
      · simp [z, z1, z2]
theorem r_rF (h : Cst I 9 (I 24)) (hW : ∀ c, c < 54 → I 24 (72 + c) = nI (W c) ∧ W c ≤ 12) {e : Nat} (he : e < 72) (ht : t < 4) : rF I t e = mB0 I t e := by
  have h1 := ecN_lt (j := 2 * e) (by omega)
  have h2 := ecN_lt (j := 2 * e + 1) (by omega)
  unfold rF mB0
  rw [r_lO h hW h1 ht, r_lO h hW h2 ht, h.ph]
  simp only [h.rd he, sub1_m1]
  by_cases z : I 24 180 = 2
  · rw [h.lh z]
  · simp only [z, if_false]
theorem oth_inc {e c : Nat} (h : inc e c = true) : oth e c = oE e c := by
  unfold inc at h
  unfold oth oE
  by_cases z : ecN (2 * e) = c
  · simp [z]
  · simp [z] at h
    simp [z, h]
theorem oth_no {e c : Nat} (h : inc e c = false) : oth e c = c := by
  unfold inc at h
  unfold oth
  simp at h
  simp [h]
theorem r_hF (h : Cst I 9 (I 24)) (hW : ∀ c, c < 54 → I 24 (72 + c) = nI (W c) ∧ W c ≤ 12) {c : Nat} (hc : c < 54) : hF I t c = mB1 I t c := by
  obtain ⟨h1, h2⟩ := hW c hc
  have key : (decide (I 11 c = -1) && !hNb I c) = aln I c := by
    unfold hNb aln
    rw [fold_and_any]
    simp only [bd_m1 h hc h1 h2, h1, nI_z (w := W c) (by omega)]
    by_cases z : W c = 0
    · simp only [z, decide_true, Bool.true_and]
      congr 1
      cases hz : zz_any (fun i => !decide (I 24 (72 + oth i c) = 0)) 72 0 with
      | true =>
        obtain ⟨e, -, he, g1⟩ := (zz_any_iff 72 0).mp hz
        simp only [Bool.not_eq_true', decide_eq_false_iff_not] at g1
        cases hi : inc e c with
        | false =>
          rw [oth_no hi, h1, z] at g1
          exact absurd rfl g1
        | true =>
          obtain ⟨k, hk, g2, g3⟩ := (inc_iff hc (by omega)).mp hi
          refine (zz_any_iff 3 0).mpr ⟨k, by omega, by omega, ?_⟩
          rw [oth_inc hi] at g1
          have hl := oE_lt (c := c) (e := e) (by omega)
          simp only [g2, g3, h.bd hl, sub1_m1, g1, decide_false, Bool.not_false, Bool.and_self]
      | false =>
        cases hy : zz_any (fun k => ceB (c * 3 + k) && !decide (I 11 (oE (ceN (c * 3 + k)) c) = -1)) 3 0 with
        | false => rfl
        | true =>
          obtain ⟨k, -, hk, g1⟩ := (zz_any_iff 3 0).mp hy
          rw [Bool.and_eq_true] at g1
          have g5 := List.all_eq_true.mp ce_inc (c * 3 + k) (List.mem_range.mpr (by omega))
          rw [g1.1, show (c * 3 + k) / 3 = c by omega] at g5
          simp only [Bool.not_true, Bool.false_or, Bool.and_eq_true, decide_eq_true_eq] at g5
          have hl := oE_lt (c := c) g5.2
          have g6 := g1.2
          simp only [h.bd hl, sub1_m1] at g6
          have : zz_any (fun i => !decide (I 24 (72 + oth i c) = 0)) 72 0 = true := (zz_any_iff 72 0).mpr ⟨ceN (c * 3 + k), by omega, by omega, by
            rw [oth_inc g5.1]
            exact g6⟩
          rw [hz] at this
          cases this
    · simp [z]
  unfold hF mB1
  rw [← key, r_hRd h hc, h.ph, Bool.and_assoc]
theorem r_ft (h : Cst I 9 (I 24)) (hW : ∀ c, c < 54 → I 24 (72 + c) = nI (W c) ∧ W c ≤ 12) {k s : Nat} (hk : k < 3) (hs : s < 72) (hs2 : ¬ k = 0 → s < 54) (ht : t < 4) : ft I t k s = if k = 0 then mB0 I t s else if k = 1 then mB1 I t s else decide (I 24 (72 + s) = nI (t + 1)) := by
  unfold ft
  by_cases z : k = 0
  · simp only [z, if_true]
    exact r_rF h hW hs ht
  · by_cases y : k = 1
    · simp only [y, if_true]
      rw [if_neg (by decide), if_neg (by decide)]
      exact r_hF h hW (hs2 z)
    · simp only [z, y, if_false, h.bd (hs2 z), sub1_nI]
theorem r_aRF (h : Cst I 9 (I 24)) (hW : ∀ c, c < 54 → I 24 (72 + c) = nI (W c) ∧ W c ≤ 12) (ht : t < 4) : aRF I t = aBm I t := by
  unfold aRF aBm
  rw [fold_or_any, Bool.false_or]
  exact zz_any_congr 72 0 (fun e _ he => r_rF h hW (by omega) ht)
theorem r_eF (h : Cst I 9 (I 24)) (hW : ∀ c, c < 54 → I 24 (72 + c) = nI (W c) ∧ W c ≤ 12) (ht : t < 4) (h7 : I 24 180 = 7) (h15 : pcm I t 0 ≤ 15) : eF I t = eRm I t := by
  unfold eF eRm
  rw [h.fe h7, r_aRF h hW ht, r_hPL h (by decide)]
  have : (!decide (15 ≤ pcm I t 0)) = !decide (pcm I t 0 = 15) := by
    congr 2
    exact propext (by omega)
  rw [if_pos rfl, this, Bool.not_not]
theorem fold_addI {f : Nat → Nat} : ∀ (n k : Nat) (a : Int32), zz_fold (fun c a => a + nI (f c)) n k a = a + nI (zz_fold (fun c a => a + f c) n k 0)
  | 0, k, a => by
    show a = a + nI 0
    rw [show nI 0 = 0 from rfl, Int32.add_zero]
  | n + 1, k, a => by
    have hs : ∀ (n k b : Nat), zz_fold (fun c a => a + f c) n k b = b + zz_fold (fun c a => a + f c) n k 0 := fun n => by
      induction n with
      | zero => intro k b; rfl
      | succ n ih =>
        intro k b
        show zz_fold (fun c a => a + f c) n (k + 1) (b + f k) = b + zz_fold (fun c a => a + f c) n (k + 1) (0 + f k)
        rw [ih (k + 1) (b + f k), ih (k + 1) (0 + f k)]
        omega
    show zz_fold (fun c a => a + nI (f c)) n (k + 1) (a + nI (f k)) = a + nI (zz_fold (fun c a => a + f c) n (k + 1) (0 + f k))
    rw [fold_addI n (k + 1), hs n (k + 1) (0 + f k), Nat.zero_add, ← zz_nI_add, Int32.add_assoc]
theorem sum_wth (h : Cst I 9 (I 24)) (hW : ∀ c, c < 54 → I 24 (72 + c) = nI (W c) ∧ W c ≤ 12) {p : Nat} (hp : p < 4) : zz_fold (fun c a => a + wth I (nI p) c) 54 0 0 = pcm I p 1 + 2 * pcm I p 2 := by
  have e1 : pcm I p 1 = zz_fold (fun c a => if I 24 (72 + c) = nI (p + 1) then a + 1 else a) 54 0 0 := rfl
  have e2 : pcm I p 2 = zz_fold (fun c a => if I 24 (72 + c) = nI (p + 9) then a + 1 else a) 54 0 0 := rfl
  rw [e1, e2]
  have : ∀ m, m ≤ 54 → zz_fold (fun c a => a + wth I (nI p) c) m 0 0 = zz_fold (fun c a => if I 24 (72 + c) = nI (p + 1) then a + 1 else a) m 0 0 + 2 * zz_fold (fun c a => if I 24 (72 + c) = nI (p + 9) then a + 1 else a) m 0 0 := fun m => by
    induction m with
    | zero => intro _; rfl
    | succ m ih =>
      intro hm
      rw [zz_fold_succ, zz_fold_succ, zz_fold_succ, ih (by omega), Nat.zero_add]
      obtain ⟨g1, g2⟩ := hW m (by omega)
      rw [wth_w h (by omega) g1 g2 hp]
      simp only [g1, zz_eqN (a := W m) (b := p + 1) (by omega) (by omega), zz_eqN (a := W m) (b := p + 9) (by omega) (by omega)]
      by_cases z1 : W m = p + 1
      · have z2 : ¬ W m = p + 9 := by omega
        rw [if_pos z1, if_pos z1, if_neg z2]
        omega
      · by_cases z2 : W m = p + 9
        · rw [if_neg z1, if_pos z2, if_neg z1, if_pos z2]
          omega
        · rw [if_neg z1, if_neg z2, if_neg z1, if_neg z2]
          omega
  exact this 54 (Nat.le_refl 54)
theorem r_pts (h : Cst I 9 (I 24)) (hW : ∀ c, c < 54 → I 24 (72 + c) = nI (W c) ∧ W c ≤ 12) {p : Nat} (hp : p < 4) : pts I p = ptm I p := by
  have e1 : zz_fold (fun c a => a + nI (wth I (nI p) c)) 54 0 (I 13 (p * 5 + 4)) = nI (pcm I p 1 + 2 * pcm I p 2) + I 24 (151 + 5 * p + 4) := by
    rw [fold_addI, sum_wth h hW hp, h.cd (by omega), show 151 + (p * 5 + 4) = 151 + 5 * p + 4 by omega, Int32.add_comm]
  unfold pts ptm
  rw [e1, h.aw]
  split
  · rfl
  · rw [Int32.add_zero]
end RR2
