section OA
variable {d n t pc s : Nat} {I X I1 W A B : Nat → Nat → Int32} {J : Nat → Nat → Int64} {ex : List (Nat × Nat)} {y : Int64} {S : Nat → Int32}
theorem p2_eq {a b : Nat} (ht : t < 4) (ha : a < 5) (hb : b < 5) : sup (sup (sup (sup S (126 + (t * 5 + a)) (S (126 + (t * 5 + a)) + 1)) (126 + (t * 5 + b)) (if a = b then S (126 + (t * 5 + a)) + 1 + 1 else S (126 + (t * 5 + b)) + 1)) (126 + (4 * 5 + a)) (S (126 + (4 * 5 + a)) - 1)) (126 + (4 * 5 + b)) (if a = b then S (126 + (4 * 5 + a)) - 1 - 1 else S (126 + (4 * 5 + b)) - 1) = mvS (mvS S 4 t a 1) 4 t b 1 := by
  rw [mvS_fn (s' := S) (f := 4) (t := t) (g := b) (by omega) (by omega) (by omega) hb, mvS_fn (s' := S) (f := 4) (t := t) (g := a) (by omega) (by omega) (by omega) ha]
  by_cases hab : a = b
  · subst hab
    simp only [if_true]
    funext j
    by_cases j1 : j = 126 + (t * 5 + a)
    · subst j1
      rw [sup_ne (by omega), sup_ne (by omega), sup_eq, sup_eq, sup_eq]
    · by_cases j2 : j = 126 + (4 * 5 + a)
      · subst j2
        rw [sup_eq, sup_ne (by omega), sup_eq, sup_ne (by omega), sup_eq]
      · rw [sup_ne j2, sup_ne j2, sup_ne j1, sup_ne j1, sup_ne j1, sup_ne j2, sup_ne j1, sup_ne j2]
  · simp only [hab, if_false]
    funext j
    by_cases j1 : j = 126 + (t * 5 + a)
    · subst j1
      rw [sup_ne (by omega), sup_ne (by omega), sup_ne (by omega), sup_eq, sup_ne (by omega), sup_ne (by omega), sup_eq]
    · by_cases j2 : j = 126 + (t * 5 + b)
      · subst j2
        rw [sup_ne (by omega), sup_ne (by omega), sup_eq, sup_eq, sup_ne (by omega), sup_ne (by omega)]
      · by_cases j3 : j = 126 + (4 * 5 + a)
        · subst j3
          rw [sup_ne (by omega), sup_eq, sup_ne (by omega), sup_ne (by omega), sup_ne (by omega), sup_eq]
        · by_cases j4 : j = 126 + (4 * 5 + b)
          · subst j4
            rw [sup_eq, sup_ne (by omega), sup_eq, sup_ne (by omega), sup_ne (by omega)]
          · rw [sup_ne j4, sup_ne j3, sup_ne j2, sup_ne j1, sup_ne j2, sup_ne j4, sup_ne j1, sup_ne j3]
theorem play2 (hR : Rel I y) (h6 : I 24 180 = 6) {t : Nat} (ht : I 24 181 = nI t) (ht4 : t < 4) (a b : Nat) (ha : a < 5) (hb : b < 5) (hcp : cPl I t 2 a b = true) (hmp : mPl I t 2 a b = true) : ∃ I1 v, OkC 13 [.int (nI 2), .int (nI a), .int (nI b)] I y I1 v ∧ OkM 141 [.int (nI 2), .int (nI a), .int (nI b)] I1 y v 0 := by
  obtain ⟨pc, N, t', D, x, h5, h15, hp2, hpc, hC, a1, a2, a3, a4, a5, a6⟩ := hR.ph_dat (k := 6) (by decide) (by decide) h6
  have htt : t' = t := (zz_nI_eq (by have := a3.2.2.2.2.1; omega) (by omega)).mp (by rw [← ht]; exact a3.2.2.2.1.symm)
  subst htt
  have h69 : I 9 0 = 6 := hC.ph.trans h6
  have ht9 : I 9 1 = nI t' := hC.on.trans ht
  have hc := cPl_card a1 a2 a3.2.2.2.2.2.2.1 ht4 (by decide) hcp
  have hCP := ply_C hC (t := t') (k := 2) ht4 (by decide)
  have hrP := ply_r a1 ht4 (k := 2) (by decide) hc
  have hI : ∀ b' j, ¬ (9 ≤ b' ∧ b' ≤ 15) → mv (mv (plyW I t' 2) 4 t' a 1) 4 t' b 1 b' j = rmb I b' j := fun b' j hb => by rw [mv_ne (by omega), mv_ne (by omega), ply_ne hb]
  have hCI := (hCP.mv (f := 4) (t := t') (by omega) (by omega) ha 1).mv (f := 4) (t := t') (by omega) (by omega) hb 1
  generalize hI1 : mv (mv (plyW I t' 2) 4 t' a 1) 4 t' b 1 = I1 at *
  have m := f_c4 hI
  have hpp := ppM_24 (t := t') hI (k := 2)
  generalize hs1 : sup (sup (I 24) (151 + (t' * 5 + 2)) (I 24 (151 + (t' * 5 + 2)) - 1)) 184 1 = s1 at *
  have s1n : ∀ j, ¬ j = 151 + (t' * 5 + 2) → ¬ j = 184 → s1 j = I 24 j := fun j j1 j2 => by rw [← hs1, sup_ne j2, sup_ne j1]
  have hW24 : p2M I1 t' a b 24 = mvS (mvS s1 4 t' a 1) 4 t' b 1 := by
    rw [← p2_eq ht4 ha hb]
    unfold p2M
    rw [up_sup, up_sup, up_sup, up_sup, hpp, m 24 _ (by omega), m 24 _ (by omega), m 24 _ (by omega), m 24 _ (by omega), show 126 + 5 * t' + a = 126 + (t' * 5 + a) by omega, show 126 + 5 * t' + b = 126 + (t' * 5 + b) by omega, show 146 + a = 126 + (4 * 5 + a) by omega, show 146 + b = 126 + (4 * 5 + b) by omega, s1n _ (by omega) (by omega), s1n _ (by omega) (by omega), s1n _ (by omega) (by omega), s1n _ (by omega) (by omega)]
  have hbk : (if a = b then 2 else 1) ≤ N (146 + a) ∧ 1 ≤ N (146 + b) := by
    unfold cPl at hcp
    simp only [decide_true, Bool.not_true, Bool.false_or, Bool.and_eq_true, Bool.not_eq_true', decide_eq_false_iff_not] at hcp
    have c1 := hcp.2.2.2.1.1
    have c2 := hcp.2.2.2.1.2
    have k1 := V_hand a2 (j := 146 + a) (by omega) (by omega)
    have k2 := V_hand a2 (j := 146 + b) (by omega) (by omega)
    rw [a1 _ (by omega), Int32.le_iff_toInt_le, nI_toInt (by omega)] at c1 c2
    rw [show (0 : Int32).toInt = 0 from rfl] at c2
    refine ⟨?_, by omega⟩
    by_cases z : a = b
    · rw [if_pos z] at c1 ⊢
      rw [show (1 : Int32).toInt = 1 from rfl] at c1
      omega
    · rw [if_neg z] at c1 ⊢
      rw [show (0 : Int32).toInt = 0 from rfl] at c1
      omega
  generalize hN1 : nup N (151 + (t' * 5 + 2)) (N (151 + (t' * 5 + 2)) - 1) = N1 at *
  have N1n : ∀ j, ¬ j = 151 + (t' * 5 + 2) → N1 j = N j := fun j hj => by rw [← hN1, nup_ne hj]
  have q1 : 1 ≤ N1 (126 + (4 * 5 + a)) := by
    rw [N1n _ (by omega), show 126 + (4 * 5 + a) = 146 + a by omega]
    have := hbk.1
    split at this <;> omega
  have r1 := rep_mv hrP (f := 4) (t := t') (g := a) (c := 1) (by omega) (by omega) ha q1
  have q2 : 1 ≤ mvN N1 4 t' a 1 (126 + (4 * 5 + b)) := by
    by_cases z : a = b
    · subst z
      unfold mvN
      rw [nup_ne (by omega), nup_eq, N1n _ (by omega), show 126 + (4 * 5 + a) = 146 + a by omega]
      have := hbk.1
      rw [if_pos rfl] at this
      omega
    · rw [mvN_ne (by omega) (by omega), N1n _ (by omega), show 126 + (4 * 5 + b) = 146 + b by omega]
      exact hbk.2
  have r2 := rep_mv r1 (f := 4) (t := t') (g := b) (c := 1) (by omega) (by omega) hb q2
  have nn : ∀ j, ¬ (126 ≤ j ∧ j < 151) → mvN (mvN N1 4 t' a 1) 4 t' b 1 j = N1 j := fun j hj => by rw [mvN_ne (by omega) (by omega), mvN_ne (by omega) (by omega)]
  have sn : ∀ j, ¬ (126 ≤ j ∧ j < 151) → mvS (mvS s1 4 t' a 1) 4 t' b 1 j = s1 j := fun j hj => by rw [mvS_ne (by omega) (by omega), mvS_ne (by omega) (by omega)]
  refine ⟨I1, some (.int 2), fun d n J ex _ => ⟨false, ?_⟩, fun d n J ex => ?_⟩
  · have w1 := c77 (d := d + 16) (n := n) (J := J) (ex := ex) ht9 ht4 2 (by decide) a b ha hb
    rw [hmp] at w1
    have w2 := c78c (d := d + 12) (n := n) (J := J) (ex := ex) (I := plyW I t' 2) (by
      unfold plyW
      rw [up_nf (by decide), up_ne (by decide), rm9, ht9]) ht4 a b ha hb
    rw [hI1] at w2
    exact c13a (d := d + 12) (by rw [hC.pl]; exact a3.pl) ht9 ht4 2 (by decide) (nI a) (nI b) (by
      unfold isPl
      rw [isG_t ha, isG_t hb]
      decide) h69 w1 w2
  · obtain ⟨X, l1, l2, l3, l4⟩ := opq' (I1 := I1) hR h5 hpc hp2 hI (W := p2M I1 t' a b) (fun b' j hb => by unfold p2M; rw [up_ne hb, up_ne hb, up_ne hb, up_ne hb, ppM_ne hb]) (by rw [hW24]; exact hCI) (by
      rw [hW24]
      exact ply_V (k := 2) (f' := 6) hpc a1 a2 a3 a5 a6 (by decide) hc r2 (fun j _ h1 h2 => by rw [nn j h1, N1n j h2]) (by rw [nn _ (by omega), ← hN1, nup_eq]; omega) (fun g hg => by
        rw [mvN_sum (by omega) (by omega) hb q2 hg, mvN_sum (by omega) (by omega) ha q1 hg, ← hN1, nup_sum (by omega) hg]
        exact a2.2.2.1 g hg) (fun j j1 j2 j3 _ _ => by rw [sn j j1, s1n j j2 j3]) (Or.inr (by rw [sn _ (by omega), ← hs1, sup_eq])) (by rw [sn _ (by omega), s1n _ (by omega) (by omega), h6]; rfl) (by decide) (by decide)) d n J ex
    refine ⟨X, false, ?_, l2, l3⟩
    have e0 : cPl I1 t' 2 a b = true := by
      unfold cPl pcm cnt at hcp ⊢
      rw [show I1 24 = I 24 from funext fun j => m 24 j (by omega)]
      exact hcp
    have w := c139 (d := d + 4) (n := n) (J := J) (ex := ex) (I := I1) ((m 24 181 (by omega)).trans ht) ht4 2 (by decide) a b ha hb
    rw [e0] at w
    exact c141a2 (d := d) (X := X) ((m 24 181 (by omega)).trans ht) ht4 a b ha hb w l1
-- collecting
def cAS (t g : Nat) (p : Nat) (Z : (Nat → Int32) × Int32) : (Nat → Int32) × Int32 := if p = t then Z else (mvS Z.1 p t g (Z.1 (126 + (p * 5 + g))), Z.2 + Z.1 (126 + (p * 5 + g)))
def tAT (t g : Nat) (p : Nat) (Z : (Nat → Int32) × Int32) : (Nat → Int32) × Int32 := if p = t then Z else (sup Z.1 (126 + (p * 5 + g)) 0, Z.2 + Z.1 (126 + (p * 5 + g)))
def cAf (t g : Nat) (p : Nat) (X : Option Value × Bool × (Nat → Nat → Int32) × Int32) : Option Value × Bool × (Nat → Nat → Int32) × Int32 := if p = t then X else (some (.int (X.2.2.1 12 (p * 5 + g))), false, mv X.2.2.1 p t g (X.2.2.1 12 (p * 5 + g)), X.2.2.2 + X.2.2.1 12 (p * 5 + g))
theorem cA_C (hC : Cst I 9 S) {g : Nat} (ht : t < 4) (hg : g < 5) : ∀ k, k ≤ 4 → Cst (zz_fold (cAf t g) k 0 (none, true, I, 0)).2.2.1 9 (zz_fold (cAS t g) k 0 (S, 0)).1 ∧ (zz_fold (cAf t g) k 0 (none, true, I, 0)).2.2.2 = (zz_fold (cAS t g) k 0 (S, 0)).2 ∧ (∀ b j, ¬ b = 12 → (zz_fold (cAf t g) k 0 (none, true, I, 0)).2.2.1 b j = I b j) := fun k => by
  induction k with
  | zero => exact fun _ => ⟨hC, rfl, fun _ _ _ => rfl⟩
  | succ k ih =>
    intro hk
    obtain ⟨i1, i2, i3⟩ := ih (by omega)
    rw [zz_fold_succ, zz_fold_succ, Nat.zero_add]
    generalize zz_fold (cAf t g) k 0 (none, true, I, 0) = Y at *
    generalize zz_fold (cAS t g) k 0 (S, 0) = Z at *
    obtain ⟨y1, y2, y3, y4⟩ := Y
    obtain ⟨z1, z2⟩ := Z
    unfold cAS cAf
    dsimp only at i1 i2 i3 ⊢
    by_cases z : k = t
    · rw [if_pos z, if_pos z]
      exact ⟨i1, i2, i3⟩
    · rw [if_neg z, if_neg z]
      dsimp only
      refine ⟨?_, ?_, fun b j hb => by rw [mv_ne hb]; exact i3 b j hb⟩
      · rw [i1.hd (by omega)]
        exact i1.mv (by omega) (by omega) hg _
      · rw [i1.hd (by omega), i2]
theorem cAS_at {g : Nat} (ht : t < 4) (hg : g < 5) : ∀ k, k ≤ 4 → (zz_fold (cAS t g) k 0 (S, 0)).2 = (zz_fold (tAT t g) k 0 (S, 0)).2 ∧ (∀ j, ¬ j = 126 + (t * 5 + g) → (zz_fold (cAS t g) k 0 (S, 0)).1 j = (zz_fold (tAT t g) k 0 (S, 0)).1 j) ∧ (zz_fold (tAT t g) k 0 (S, 0)).1 (126 + (t * 5 + g)) = S (126 + (t * 5 + g)) ∧ (zz_fold (cAS t g) k 0 (S, 0)).1 (126 + (t * 5 + g)) = S (126 + (t * 5 + g)) + (zz_fold (tAT t g) k 0 (S, 0)).2 := fun k => by
  induction k with
  | zero => exact fun _ => ⟨rfl, fun _ _ => rfl, rfl, (Int32.add_zero _).symm⟩
  | succ k ih =>
    intro hk
    obtain ⟨i1, i2, i3, i4⟩ := ih (by omega)
    rw [zz_fold_succ, zz_fold_succ, Nat.zero_add]
    generalize zz_fold (cAS t g) k 0 (S, 0) = Y at *
    generalize zz_fold (tAT t g) k 0 (S, 0) = Z at *
    obtain ⟨y1, y2⟩ := Y
    obtain ⟨z1, z2⟩ := Z
    unfold cAS tAT
    dsimp only at i1 i2 i3 i4 ⊢
    by_cases z : k = t
    · rw [if_pos z, if_pos z]
      exact ⟨i1, i2, i3, i4⟩
    · rw [if_neg z, if_neg z]
      dsimp only
      have e := i2 (126 + (k * 5 + g)) (by omega)
      rw [mvS_fn (s' := S) z (by omega) (by omega) hg]
      refine ⟨by rw [i1, e], fun j hj => ?_, ?_, ?_⟩
      · rw [sup_ne hj]
        by_cases w : j = 126 + (k * 5 + g)
        · subst w
          rw [sup_eq, sup_eq, Int32.sub_self]
        · rw [sup_ne w, sup_ne w, i2 j hj]
      · rw [sup_ne (by omega), i3]
      · rw [sup_eq, i4, e, Int32.add_assoc]
theorem cAS_V {N : Nat → Nat} {D g : Nat} (hN : ∀ j, j < 180 → S j = nI (N j)) (hV : Vn pc D N) (ht : t < 4) (hg : g < 5) : ∀ k, k ≤ 4 → ∃ N', (∀ j, j < 180 → (zz_fold (cAS t g) k 0 (S, 0)).1 j = nI (N' j)) ∧ Vn pc D N' ∧ (∀ j, ¬ (126 ≤ j ∧ j < 151) → N' j = N j ∧ (zz_fold (cAS t g) k 0 (S, 0)).1 j = S j) := fun k => by
  induction k with
  | zero => exact fun _ => ⟨N, hN, hV, fun _ _ => ⟨rfl, rfl⟩⟩
  | succ k ih =>
    intro hk
    obtain ⟨N', i1, i2, i3⟩ := ih (by omega)
    rw [zz_fold_succ, Nat.zero_add]
    generalize zz_fold (cAS t g) k 0 (S, 0) = Y at *
    obtain ⟨y1, y2⟩ := Y
    unfold cAS
    dsimp only at i1 i3 ⊢
    by_cases z : k = t
    · rw [if_pos z]
      exact ⟨N', i1, i2, i3⟩
    · rw [if_neg z]
      dsimp only
      rw [i1 _ (by omega)]
      refine ⟨mvN N' k t g (N' (126 + (k * 5 + g))), rep_mv i1 (by omega) (by omega) hg (Nat.le_refl _), i2.upd (fun j hj => mvN_ne (by omega) (by omega)) (fun g' hg' => by
        rw [mvN_sum (by omega) (by omega) hg (Nat.le_refl _) hg']
        exact i2.2.2.1 g' hg') (fun j j1 j2 => by
        rw [mvN_ne (by omega) (by omega)]
        exact i2.2.2.2.1 j j1 j2) (fun j j1 j2 => by
        rw [mvN_ne (by omega) (by omega)]
        exact i2.2.2.2.2.1 j j1 j2), fun j hj => ⟨by rw [mvN_ne (by omega) (by omega)]; exact (i3 j hj).1, by rw [mvS_ne (by omega) (by omega)]; exact (i3 j hj).2⟩⟩
theorem tA_24 {g : Nat} {Y : Nat → Nat → Int32} : ∀ k, (zz_fold (tAS t g) k 0 (true, Y, 0)).2.1 24 = (zz_fold (tAT t g) k 0 (Y 24, 0)).1 ∧ (zz_fold (tAS t g) k 0 (true, Y, 0)).2.2 = (zz_fold (tAT t g) k 0 (Y 24, 0)).2 ∧ (∀ b j, ¬ b = 24 → (zz_fold (tAS t g) k 0 (true, Y, 0)).2.1 b j = Y b j) := fun k => by
  induction k with
  | zero => exact ⟨rfl, rfl, fun _ _ _ => rfl⟩
  | succ k ih =>
    obtain ⟨i1, i2, i3⟩ := ih
    rw [zz_fold_succ, zz_fold_succ, Nat.zero_add]
    generalize zz_fold (tAS t g) k 0 (true, Y, 0) = A at *
    generalize zz_fold (tAT t g) k 0 (Y 24, 0) = Z at *
    obtain ⟨a1, a2, a3⟩ := A
    obtain ⟨z1, z2⟩ := Z
    unfold tAS tAT
    dsimp only at i1 i2 i3 ⊢
    by_cases z : k = t
    · rw [if_pos z, if_pos z]
      exact ⟨i1, i2, i3⟩
    · rw [if_neg z, if_neg z]
      dsimp only
      rw [show 126 + 5 * k + g = 126 + (k * 5 + g) by omega]
      refine ⟨by rw [up_sup, i1], by rw [i2, i1], fun b j hb => by rw [up_ne hb]; exact i3 b j hb⟩
theorem play3 (hR : Rel I y) (h6 : I 24 180 = 6) {t : Nat} (ht : I 24 181 = nI t) (ht4 : t < 4) (a : Nat) (ha : a < 5) (b : Int32) (hcp : cPl I t 3 0 0 = true) (hmp : mPl I t 3 0 0 = true) : ∃ I1 v, OkC 13 [.int (nI 3), .int (nI a), .int b] I y I1 v ∧ OkM 141 [.int (nI 3), .int (nI a), .int b] I1 y v 0 := by
  obtain ⟨pc, N, t', D, x, h5, h15, hp2, hpc, hC, a1, a2, a3, a4, a5, a6⟩ := hR.ph_dat (k := 6) (by decide) (by decide) h6
  have htt : t' = t := (zz_nI_eq (by have := a3.2.2.2.2.1; omega) (by omega)).mp (by rw [← ht]; exact a3.2.2.2.1.symm)
  subst htt
  have h69 : I 9 0 = 6 := hC.ph.trans h6
  have ht9 : I 9 1 = nI t' := hC.on.trans ht
  have hc := cPl_card a1 a2 a3.2.2.2.2.2.2.1 ht4 (by decide) hcp
  have hCP := ply_C hC (t := t') (k := 3) ht4 (by decide)
  have hrP := ply_r a1 ht4 (k := 3) (by decide) hc
  obtain ⟨c1, c2, c3⟩ := cA_C hCP (t := t') (g := a) ht4 ha pc hpc
  have hcA : cA (plyW I t' 3) t' pc a = zz_fold (cAf t' a) pc 0 (none, true, plyW I t' 3, 0) := rfl
  rw [← hcA] at c1 c2 c3
  have hI : ∀ b' j, ¬ (9 ≤ b' ∧ b' ≤ 15) → (cA (plyW I t' 3) t' pc a).2.2.1 b' j = rmb I b' j := fun b' j hb => by rw [c3 b' j (by omega), ply_ne hb]
  generalize hI1 : (cA (plyW I t' 3) t' pc a).2.2.1 = I1 at *
  have m := f_c4 hI
  have hpp := ppM_24 (t := t') hI (k := 3)
  generalize hs1 : sup (sup (I 24) (151 + (t' * 5 + 3)) (I 24 (151 + (t' * 5 + 3)) - 1)) 184 1 = s1 at *
  have s1n : ∀ j, ¬ j = 151 + (t' * 5 + 3) → ¬ j = 184 → s1 j = I 24 j := fun j j1 j2 => by rw [← hs1, sup_ne j2, sup_ne j1]
  generalize hN1 : nup N (151 + (t' * 5 + 3)) (N (151 + (t' * 5 + 3)) - 1) = N1 at *
  have N1n : ∀ j, ¬ j = 151 + (t' * 5 + 3) → N1 j = N j := fun j hj => by rw [← hN1, nup_ne hj]
  have hN1V : Vn pc D N1 := a2.upd (fun j hj => N1n j (by omega)) (fun g hg => by rw [← hN1, nup_sum (by omega) hg]; exact a2.2.2.1 g hg) (fun j j1 j2 => by
    by_cases z : j = 151 + (t' * 5 + 3)
    · subst z
      rw [← hN1, nup_eq]
      have := a2.2.2.2.1 _ j1 j2
      omega
    · rw [N1n j z]
      exact a2.2.2.2.1 j j1 j2) (fun j j1 j2 => by rw [N1n j (by omega)]; exact a2.2.2.2.2.1 j j1 j2)
  obtain ⟨e1, e2, e3, e4⟩ := cAS_at (S := s1) (t := t') (g := a) ht4 ha pc hpc
  obtain ⟨N2, v1, v2, v3⟩ := cAS_V (t := t') (g := a) hrP hN1V ht4 ha pc hpc
  obtain ⟨t1, t2, t3⟩ := tA_24 (t := t') (g := a) (Y := ppM I1 t' 3) pc
  rw [hpp] at t1 t2
  have htA : tAm (ppM I1 t' 3) t' pc a = zz_fold (tAS t' a) pc 0 (true, ppM I1 t' 3, 0) := rfl
  rw [← htA] at t1 t2 t3
  have hW24 : zz_up (tAm (ppM I1 t' 3) t' pc a).2.1 24 (126 + 5 * t' + a) ((tAm (ppM I1 t' 3) t' pc a).2.1 24 (126 + 5 * t' + a) + (tAm (ppM I1 t' 3) t' pc a).2.2) 24 = (zz_fold (cAS t' a) pc 0 (s1, 0)).1 := by
    rw [up_sup, t1, t2, show 126 + 5 * t' + a = 126 + (t' * 5 + a) by omega]
    funext j
    by_cases z : j = 126 + (t' * 5 + a)
    · subst z
      rw [sup_eq, e4, e3]
    · rw [sup_ne z, e2 j z]
  refine ⟨I1, some (.int (zz_fold (cAS t' a) pc 0 (s1, 0)).2), fun d n J ex _ => ⟨false, ?_⟩, fun d n J ex => ?_⟩
  · have w1 := c77n (d := d + 16) (n := n) (J := J) (ex := ex) ht9 ht4 3 (by decide) (by decide) (nI a) b
    rw [hmp] at w1
    have w2 := c78d (d := d + 12) (n := n) (J := J) (ex := ex) (I := plyW I t' 3) (by
      unfold plyW
      rw [up_nf (by decide), up_ne (by decide), rm9, ht9]) ht4 (by rw [ply_ne (by omega), rmb_ne (by omega) (Or.inr (by decide)), h5]) hpc a ha b
    rw [hI1, c2] at w2
    exact c13a (d := d + 12) (by rw [hC.pl]; exact a3.pl) ht9 ht4 3 (by decide) (nI a) b (by
      unfold isPl
      rw [if_neg (by decide), if_neg (by decide), if_neg (by decide), if_pos (by decide)]
      exact isG_t ha) h69 w1 w2
  · obtain ⟨X, l1, l2, l3, l4⟩ := opq' (I1 := I1) hR h5 hpc hp2 hI (W := zz_up (tAm (ppM I1 t' 3) t' pc a).2.1 24 (126 + 5 * t' + a) ((tAm (ppM I1 t' 3) t' pc a).2.1 24 (126 + 5 * t' + a) + (tAm (ppM I1 t' 3) t' pc a).2.2)) (fun b' j hb => by rw [up_ne hb, t3 b' j hb, ppM_ne hb]) (by rw [hW24]; exact c1) (by
      rw [hW24]
      exact ply_V (k := 3) (f' := 6) hpc a1 a2 a3 a5 a6 (by decide) hc v1 (fun j _ h1 h2 => by rw [(v3 j h1).1, N1n j h2]) (by rw [(v3 _ (by omega)).1, ← hN1, nup_eq]; omega) (fun g hg => v2.2.2.1 g hg) (fun j j1 j2 j3 _ _ => by rw [(v3 j j1).2, s1n j j2 j3]) (Or.inr (by rw [(v3 _ (by omega)).2, ← hs1, sup_eq])) (by rw [(v3 _ (by omega)).2, s1n _ (by omega) (by omega), h6]; rfl) (by decide) (by decide)) d n J ex
    refine ⟨X, false, ?_, l2, l3⟩
    have e0 : cPl I1 t' 3 0 0 = true := by
      unfold cPl pcm cnt at hcp ⊢
      rw [show I1 24 = I 24 from funext fun j => m 24 j (by omega)]
      exact hcp
    have w := c139n (d := d + 4) (n := n) (J := J) (ex := ex) (I := I1) ((m 24 181 (by omega)).trans ht) ht4 3 (by decide) (by decide) (nI a) b
    rw [e0] at w
    have w3 := c140 (d := d + 5) (n := n) (J := J) (ex := ex) (I := ppM I1 t' 3) (t := t') ht4 (pc := pc) (by rw [ppM_ne (by decide), rmM_p, m 23 15 (by omega), h15]) hpc a ha
    rw [t2, ← e1] at w3
    rw [t2, ← e1] at l1
    exact c141a3 (d := d) (X := X) ((m 24 181 (by omega)).trans ht) ht4 a ha b w w3 l1
end OA
