section RR4
variable {I : Nat → Nat → Int32} {s : Nat → Int32} {t pc : Nat} {W : Nat → Nat}
theorem r_wb (h : Cst I 9 (I 24)) (hW : ∀ c, c < 54 → I 24 (72 + c) = nI (W c) ∧ W c ≤ 12) {p q : Nat} (hp : p < 4) (hq : q < 19) : wb I (nI p) q = clh I p q := by
  unfold wb clh
  refine zz_fold_congr 6 0 0 (fun k a _ hk => ?_)
  have hl := hcN_lt (j := q * 6 + k) (by omega)
  obtain ⟨g1, g2⟩ := hW _ hl
  rw [wth_w h hl g1 g2 hp, show 6 * q + k = q * 6 + k by omega]
  simp only [g1, zz_eqN (a := W (hcN (q * 6 + k))) (b := p + 1) (by omega) (by omega), zz_eqN (a := W (hcN (q * 6 + k))) (b := p + 9) (by omega) (by omega)]
  split
  · rfl
  · split <;> rfl
theorem r_clm (h : Cst I 9 (I 24)) (hW : ∀ c, c < 54 → I 24 (72 + c) = nI (W c) ∧ W c ≤ 12) {gd : Nat → Nat} (h6 : ∀ q, q < 19 → I 6 q = nI (gd q) ∧ gd q ≤ 5) (h7 : ∀ q, q < 19 → I 7 q = I 32 q) {p g : Nat} (hp : p < 4) (hg : g < 5) (m : Int32) : clm I (nI p) (nI g) m = clN I gd m p g 19 := by
  unfold clm clN
  refine zz_fold_congr 19 0 0 (fun q a _ hq => ?_)
  obtain ⟨g1, g2⟩ := h6 q (by omega)
  rw [r_wb h hW hp (by omega)]
  have e1 : (I 6 q = nI g ∧ I 7 q = m ∧ ¬ nI q = I 9 4) = ((I 32 q = m ∧ ¬ nI q = I 24 182) ∧ gd q = g) := by
    rw [h7 q (by omega), h.bl, g1, zz_eqN (by omega) (by omega)]
    apply propext
    constructor
    · exact fun ⟨a, b, c⟩ => ⟨⟨b, c⟩, a⟩
    · exact fun ⟨⟨b, c⟩, a⟩ => ⟨a, b, c⟩
  simp only [e1]
theorem r_hsz (h : Cst I 9 (I 24)) {p : Nat} (hp : p < 4) : hsz I p = hdm I p := by
  unfold hsz hdm
  refine zz_fold_congr 5 0 0 (fun g a _ hg => ?_)
  rw [h.hd (by omega), show 126 + (p * 5 + g) = 126 + 5 * p + g by omega]
theorem r_mAG (h15 : ∀ j, j < 4 → I 15 j = I 24 (176 + j)) (hpc : pc ≤ 4) : mAG I pc = mAm I pc := by
  unfold mAG mAm
  rw [fold_or_any, Bool.false_or]
  exact zz_any_congr pc 0 (fun p _ hp => by rw [h15 p (by omega)])
theorem r_tGv (h : Cst I 9 (I 24)) {p : Nat} (hp : p < 4) : tGv I p = mgv I p := by
  unfold tGv mgv
  rw [r_hsz h hp]
theorem r_iV (h : Cst I 9 (I 24)) (hW : ∀ c, c < 54 → I 24 (72 + c) = nI (W c) ∧ W c ≤ 12) {p q : Nat} (hp : p < 4) (hq : q < 19) (hcl : clh I p q ≤ 12) : iV I t p q = iVm I t p q := by
  unfold iV iVm
  rw [r_hsz h hp, r_wb h hW hp hq]
  simp only [nIpos (w := clh I p q) (by omega)]
  have : (decide (0 < clh I p q)) = !decide (clh I p q = 0) := by
    by_cases z : clh I p q = 0
    · simp [z]
    · have : 0 < clh I p q := by omega
      simp [z, this]
  rw [this, Bool.and_comm (decide (0 < hdm I p))]
theorem r_hV (h : Cst I 9 (I 24)) (hW : ∀ c, c < 54 → I 24 (72 + c) = nI (W c) ∧ W c ≤ 12) {q : Nat} (hpc : pc ≤ 4) (hq : q < 19) : hV I t pc q = hVm I t pc q := by
  unfold hV hVm
  rw [fold_or_any, Bool.false_or]
  exact zz_any_congr pc 0 (fun p _ hp => r_iV h hW (by omega) hq clh_le)
theorem r_hB (h : Cst I 9 (I 24)) {p : Nat} (hp : p < 4) (b : Int32) : hB I p b = hBm I p b := by
  unfold hB hBm
  rw [fold_and_any, Bool.true_and]
  congr 1
  refine zz_any_congr 5 0 (fun g _ hg => ?_)
  unfold inB
  rw [h.hd (by omega), show 126 + (p * 5 + g) = 126 + 5 * p + g by omega, show g * 4 = 4 * g by omega, ← decide_not]
  congr 1
  exact propext Int32.not_le.symm
theorem r_isBe (hb : Tb I) (hm : Tm I) (c : Int32) {q : Nat} (hq : q < 19) : isBe I c q = isBm I c q := by
  unfold isBe isBm
  rw [fold_or_any, Bool.false_or]
  refine zz_any_congr 6 0 (fun k _ hk => ?_)
  rw [hb.hc (by omega), hm.2.2.1 _ (by omega), show q * 6 + k = 6 * q + k by omega]
theorem r_shr (hb : Tb I) (hm : Tm I) (e : Nat) : shr I (nI (ecN (2 * e))) (nI (ecN (2 * e + 1))) = shm I e := by
  unfold shr shm
  refine zz_fold_congr 19 0 0 (fun q a _ hq => ?_)
  rw [r_isBe hb hm _ (by omega), r_isBe hb hm _ (by omega)]
theorem r_mPl (h : Cst I 9 (I 24)) {k a b C F : Nat} (hk : k < 4) (ht : t < 4) (ha : a < 5) (hbb : b < 5) (hp : I 24 180 = 6) (hpl : I 24 184 = 0 ∨ I 24 184 = 1) (hC : I 24 (151 + 5 * t + k) = nI C) (hC1 : C ≤ 1000) (hF : I 24 (171 + k) = nI F) (hF1 : F ≤ 1000) : mPl I t k a b = cPl I t k a b := by
  unfold mPl cPl
  have c1 : I 13 (t * 5 + k) = nI C := by rw [h.cd (by omega), show 151 + (t * 5 + k) = 151 + 5 * t + k by omega, hC]
  have c2 : I 14 k = nI F := by rw [h.fr (by omega), hF]
  have e1 : (nI C ≤ nI F) = (C ≤ F) := zz_leN (by omega) (by omega)
  have e2 : ((1 : Int32) ≤ nI C - nI F) = (F < C) := by
    apply propext
    rw [Int32.le_iff_toInt_le, Int32.toInt_sub, nI_toInt (by omega), nI_toInt (by omega), show (1 : Int32).toInt = 1 from rfl]
    rw [Int.bmod_eq_of_le (by omega) (by omega)]
    omega
  have e3 : (!decide (C ≤ F)) = decide (F < C) := by
    rw [← decide_not]
    congr 1
    exact propext (by omega)
  have e4 : decide (I 24 184 = 0) = decide (I 24 184 ≤ 0) := by
    rcases hpl with z | z <;> rw [z] <;> decide
  have b1 : ∀ x, x < 5 → I 12 (4 * 5 + x) = I 24 (146 + x) := fun x hx => by rw [h.hd (by omega)]; congr 1; omega
  have e5 : ∀ v : Int32, decide ((1 : Int32) ≤ v) = !decide (v ≤ 0) := fun v => by
    rw [← decide_not]
    congr 1
    rw [Int32.le_iff_toInt_le, Int32.le_iff_toInt_le, show (1 : Int32).toInt = 1 from rfl, show (0 : Int32).toInt = 0 from rfl]
    exact propext (by omega)
  have e6 : ∀ v : Int32, decide ((2 : Int32) ≤ v) = !decide (v ≤ 1) := fun v => by
    rw [← decide_not]
    congr 1
    rw [Int32.le_iff_toInt_le, Int32.le_iff_toInt_le, show (1 : Int32).toInt = 1 from rfl, show (2 : Int32).toInt = 2 from rfl]
    exact propext (by omega)
  rw [c1, c2, hC, hF, h.pl, hp, b1 a ha, b1 b hbb, r_hPL h (by decide)]
  simp only [e1, e2, e3, e4, decide_true, Bool.true_and, if_true]
  by_cases z1 : k = 1
  · subst z1
    simp
  · by_cases z2 : k = 2
    · subst z2
      by_cases z3 : a = b
      · simp [z3, e5, e6]
      · simp [z3, e5]
    · simp [z1, z2]
theorem bPr_wh {f : Nat → Bool} {c2 c3 : Nat → Bool} : ∀ (n k : Nat) (p : Int32), zz_wh (fun c (_ : Int32) => f c && c2 c) (fun _ _ => (2 : Int32)) (fun c p => if (f c && c3 c) = true then 3 else p) (fun p => p) n k p = if zz_any (fun c => f c && c2 c) n k = true then 2 else if zz_any (fun c => f c && c3 c) n k = true then 3 else p
  | 0, k, p => rfl
  | n + 1, k, p => by
    show (if (f k && c2 k) = true then (2 : Int32) else zz_wh _ _ _ _ n (k + 1) (if (f k && c3 k) = true then 3 else p)) = if ((f k && c2 k) || zz_any (fun c => f c && c2 c) n (k + 1)) = true then 2 else if ((f k && c3 k) || zz_any (fun c => f c && c3 c) n (k + 1)) = true then 3 else p
    rw [bPr_wh n (k + 1)]
    cases h1 : (f k && c2 k) <;> cases h2 : (f k && c3 k) <;> simp
theorem rt_fold {H : Nat → Bool} {X : Nat → Nat} (hX : ∀ k, X k = 2 ∨ X k = 3 ∨ X k = 4) : ∀ (n : Nat), zz_fold (fun k r => if H k = true then (if r ≤ X k then r else X k) else r) n 0 4 = if zz_any (fun k => H k && decide (X k = 2)) n 0 = true then 2 else if zz_any (fun k => H k && decide (X k = 3)) n 0 = true then 3 else 4 := fun n => by
  have hs : ∀ (c : Nat → Bool) (m k : Nat), zz_any c (m + 1) k = (zz_any c m k || c (k + m)) := fun c m => by
    induction m with
    | zero =>
      intro k
      show (c k || false) = (false || c (k + 0))
      simp
    | succ m ih =>
      intro k
      show (c k || zz_any c (m + 1) (k + 1)) = ((c k || zz_any c m (k + 1)) || c (k + (m + 1)))
      rw [ih (k + 1), show k + 1 + m = k + (m + 1) by omega, Bool.or_assoc]
  induction n with
  | zero => rfl
  | succ n ih =>
    rw [zz_fold_succ, ih, hs, hs, Nat.zero_add]
    have := hX n
    cases hH : H n with
    | false => simp
    | true =>
      cases h2 : zz_any (fun k => H k && decide (X k = 2)) n 0 <;> cases h3 : zz_any (fun k => H k && decide (X k = 3)) n 0 <;> rcases this with z | z | z <;> simp [z]
end RR4
