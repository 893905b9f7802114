section RR3
variable {I : Nat → Nat → Int32} {s : Nat → Int32} {t pc : Nat} {W : Nat → Nat}
theorem wk_congr {F G : Nat → Bool} (hF : ∀ c, c < 54 → F c = G c) : ∀ (m : Nat) (first : Bool) (c : Nat) (R S : Nat → Bool), c < 54 → (∀ e, e < 72 → R e = S e) → wk F m first c R = wk G m first c S
  | 0, _, _, _, _, _, _ => rfl
  | m + 1, first, c, R, S, hc, hR => by
    unfold wk
    rw [hF c hc]
    split
    · rfl
    · refine zz_fold_congr 72 0 0 (fun e a _ he => ?_)
      rw [hR e (by omega), wk_congr hF m false (oE e c) (fun x => R x && !decide (x = e)) (fun x => S x && !decide (x = e)) (oE_lt (by omega)) (fun x hx => by rw [hR x hx])]
theorem wk_none {F : Nat → Bool} {m : Nat} {c : Nat} {R : Nat → Bool} (h : ∀ e, e < 72 → R e = true → inc e c = false) : wk F m true c R = 0 := by
  cases m with
  | zero => rfl
  | succ m =>
    have := (wk_le (F := F) (m := m) (first := true) (c := c) (R := R) rfl 0).mpr (fun e he h1 h2 => by
      rw [h e he h1] at h2
      cases h2)
    omega
theorem isF_w (h : Cst I 9 (I 24)) {c p w : Nat} (hc : c < 54) (hw : I 24 (72 + c) = nI w) (hw12 : w ≤ 12) (hp : p < 4) : isF (I 11 c) p = Fm I p c := by
  unfold isF Fm
  rw [isMi_w hw hw12 hp, hw]
  have e1 : (I 11 c = nI p) = (w = p + 1) := by rw [h.bd hc, sub1_nI, hw, zz_eqN (by omega) (by omega)]
  have e2 : (I 11 c = nI (p + 8)) = (w = p + 9) := by rw [h.bd hc, sub1_nI, hw, zz_eqN (by omega) (by omega)]
  simp only [bd_m1 h hc hw hw12, e1, e2, nIpos (w := w) (by omega)]
  by_cases z : w = 0
  · simp [z]
  · have : 0 < w := by omega
    by_cases z1 : w = p + 1
    · simp [z1]
    · by_cases z2 : w = p + 9
      · simp [z2]
      · simp [z, z1, z2, this]
theorem r_chn (h : Cst I 9 (I 24)) (hW : ∀ c, c < 54 → I 24 (72 + c) = nI (W c) ∧ W c ≤ 12) {p : Nat} (hp : p < 4) : chn I p = chm I p := by
  unfold chn chm
  refine zz_fold_congr 54 0 0 (fun c a _ hc => ?_)
  have e1 : fart p 15 c I = chC I p c := by
    rw [fart_wk hp 15 (Nat.le_refl 15) c I (by omega), Nat.sub_self, Nat.zero_add]
    have e2 : wk (fun x => isF (I 11 x) p) 15 (decide (15 = 15)) c (fun e => decide (I 10 e = nI p)) = wk (Fm I p) 15 true c (fun e => decide (I 24 e = nI (p + 1))) := by
      refine wk_congr (fun c hc => isF_w h hc (hW c hc).1 (hW c hc).2 hp) 15 true c _ _ (by omega) (fun e he => ?_)
      simp only [h.rd he, sub1_nI]
    rw [e2]
    unfold chC
    cases hh : hRm I c p with
    | true => rfl
    | false =>
      rw [if_neg (by decide)]
      refine wk_none (fun e he h1 => ?_)
      cases hi : inc e c with
      | false => rfl
      | true =>
        unfold hRm at hh
        rw [fold_or_any, Bool.false_or] at hh
        have : zz_any (fun i => decide (I 24 i = nI (p + 1)) && (decide (ecN (2 * i) = c) || decide (ecN (2 * i + 1) = c))) 72 0 = true := (zz_any_iff 72 0).mpr ⟨e, by omega, by omega, by
          rw [h1]
          exact hi⟩
        rw [hh] at this
        cases this
  rw [e1]
-- the award
theorem aw_inv (h : Cst I 9 (I 24)) (hW : ∀ c, c < 54 → I 24 (72 + c) = nI (W c) ∧ W c ≤ 12) (ha : I 24 189 = -1 ∨ ∃ a, a < pc ∧ I 24 189 = nI a) : ∀ k, k ≤ 4 → (zz_fold (awS I) k 0 (none, true, 0, -1, false)).2.2.1 = (zz_fold (mwS I) k 0 (0, -1)).1 ∧ (zz_fold (awS I) k 0 (none, true, 0, -1, false)).2.2.2.1 = (zz_fold (mwS I) k 0 (0, -1)).2 ∧ ((zz_fold (awS I) k 0 (none, true, 0, -1, false)).2.2.2.2 = true ↔ ∃ a, a < k ∧ I 24 189 = nI a ∧ chm I a = (zz_fold (mwS I) k 0 (0, -1)).1) ∧ (∀ a, a < k → chm I a ≤ (zz_fold (mwS I) k 0 (0, -1)).1) := fun k => by
  induction k with
  | zero =>
    intro _
    refine ⟨rfl, rfl, ?_, fun a ha => by omega⟩
    constructor
    · intro z
      cases z
    · rintro ⟨a, ha, -⟩
      omega
  | succ k ih =>
    intro hk
    obtain ⟨i1, i2, i3, i4⟩ := ih (by omega)
    rw [zz_fold_succ, zz_fold_succ, Nat.zero_add]
    generalize zz_fold (awS I) k 0 (none, true, 0, -1, false) = A at *
    generalize zz_fold (mwS I) k 0 (0, -1) = M at *
    obtain ⟨a1, a2, a3, a4, a5⟩ := A
    obtain ⟨m1, m2⟩ := M
    dsimp only at i1 i2 i3 i4
    subst i1 i2
    unfold awS mwS
    dsimp only
    rw [r_chn h hW (show k < 4 by omega), h.aw]
    have hki : ∀ a, a < 4 → (nI k = nI a) = (k = a) := fun a ha => zz_eqN (by omega) (by omega)
    refine ⟨rfl, rfl, ?_, ?_⟩
    · rcases Nat.lt_trichotomy a3 (chm I k) with z | z | z
      · simp only [z, if_true]
        rw [decide_eq_true_eq]
        constructor
        · intro y
          exact ⟨k, by omega, y.symm, rfl⟩
        · rintro ⟨a, y1, y2, y3⟩
          rcases Nat.lt_or_ge a k with x | x
          · have := i4 a x
            omega
          · have : a = k := by omega
            rw [y2, this]
      · have z1 : ¬ a3 < chm I k := by omega
        rw [if_neg z1, if_neg z1, if_pos z.symm, Bool.or_eq_true, i3, decide_eq_true_eq]
        constructor
        · rintro (⟨a, y1, y2, y3⟩ | y)
          · exact ⟨a, by omega, y2, y3⟩
          · exact ⟨k, by omega, y.symm, z.symm⟩
        · rintro ⟨a, y1, y2, y3⟩
          rcases Nat.lt_or_ge a k with x | x
          · exact Or.inl ⟨a, x, y2, y3⟩
          · have : a = k := by omega
            exact Or.inr (by rw [y2, this])
      · have z1 : ¬ a3 < chm I k := by omega
        have z2 : ¬ chm I k = a3 := by omega
        rw [if_neg z1, if_neg z1, if_neg z2, i3]
        constructor
        · rintro ⟨a, y1, y2, y3⟩
          exact ⟨a, by omega, y2, y3⟩
        · rintro ⟨a, y1, y2, y3⟩
          rcases Nat.lt_or_ge a k with x | x
          · exact ⟨a, x, y2, y3⟩
          · have : a = k := by omega
            subst this
            omega
    · intro a ha
      rcases Nat.lt_or_ge a k with x | x
      · have := i4 a x
        split <;> omega
      · have : a = k := by omega
        subst this
        split <;> omega
theorem r_sAw (h : Cst I 9 (I 24)) (hW : ∀ c, c < 54 → I 24 (72 + c) = nI (W c) ∧ W c ≤ 12) (hpc : pc ≤ 4) (ha : I 24 189 = -1 ∨ ∃ a, a < pc ∧ I 24 189 = nI a) : sAw I pc 9 10 = awM I pc ∧ (∀ b j, ¬ (b = 9 ∧ j = 10) → sAw I pc b j = I b j) := by
  obtain ⟨i1, i2, i3, i4⟩ := aw_inv h hW ha pc hpc
  have hne : ∀ v b j, ¬ (b = 9 ∧ j = 10) → zz_up I 9 10 v b j = I b j := fun v b j hb => by
    by_cases z : b = 9
    · exact up_nf (fun y => hb ⟨z, y⟩)
    · exact up_ne z
  have hk : kpM I pc = (awF I pc).2.2.2.2 ∨ (mW I pc).1 < 5 := by
    rcases Nat.lt_or_ge (mW I pc).1 5 with z | z
    · exact Or.inr z
    · left
      have e1 : (awF I pc).2.2.2.2 = true ↔ ∃ a, a < pc ∧ I 24 189 = nI a ∧ chm I a = (mW I pc).1 := i3
      have e2 : kpM I pc = true ↔ ∃ a, a < pc ∧ I 24 189 = nI a ∧ chm I a = (mW I pc).1 := by
        unfold kpM
        rw [Bool.and_eq_true, decide_eq_true_eq, decide_eq_true_eq]
        constructor
        · rintro ⟨y1, y2⟩
          rcases ha with y | ⟨a, g1, g2⟩
          · rw [y] at y1
            exact absurd y1 (by decide)
          · rw [g2, zz_nI_ix (by omega)] at y2
            have := i4 a g1
            have e0 : (zz_fold (mwS I) pc 0 (0, -1)).1 = (mW I pc).1 := rfl
            exact ⟨a, g1, g2, by omega⟩
        · rintro ⟨a, g1, g2, g3⟩
          rw [g2, zz_nI_ix (by omega)]
          exact ⟨(zz_nI_le (a := 0) (by decide) (by omega)).mpr (by omega), by omega⟩
      cases hx : kpM I pc with
      | true => exact (e1.mpr (e2.mp hx)).symm
      | false =>
        cases hy : (awF I pc).2.2.2.2 with
        | false => rfl
        | true =>
          have := e2.mpr (e1.mp hy)
          rw [hx] at this
          cases this
  have j1 : (awF I pc).2.2.1 = (mW I pc).1 := i1
  have j2 : (awF I pc).2.2.2.1 = (mW I pc).2 := i2
  unfold sAw awM
  rw [j1, j2]
  by_cases z : (mW I pc).1 < 5
  · rw [if_pos z, if_pos z]
    exact ⟨up_eq, hne _⟩
  · rw [if_neg z, if_neg z, hk.resolve_right z]
    by_cases y : (awF I pc).2.2.2.2 = true
    · rw [if_pos y, if_pos y]
      exact ⟨h.aw, fun _ _ _ => rfl⟩
    · rw [if_neg y, if_neg y]
      exact ⟨up_eq, hne _⟩
end RR3
