def Prt (I : Nat → Nat → Int32) (P : Nat) (pe pk : Nat → Nat) : Prop := I 5 3 = nI P ∧ I 23 11 = nI P ∧ P ≤ 9 ∧ (∀ k, k < P → I 33 k = nI (pe k) ∧ pe k < 72 ∧ I 34 k = nI (pk k) ∧ pk k < 6) ∧ (∀ k c, k < P → c < 54 → inc (pe k) c = true → I 8 c = nI (pk k)) ∧ (∀ c, c < 54 → (∀ k, k < P → inc (pe k) c = false) → I 8 c = -1)
section RR5
variable {I : Nat → Nat → Int32} {s : Nat → Int32} {t pc : Nat} {W : Nat → Nat} {P : Nat} {pe pk : Nat → Nat}
theorem Bool_iff_eq {a b : Bool} (h : a = true ↔ b = true) : a = b := by
  cases a <;> cases b <;> simp_all
theorem r_hPm (hP : Prt I P pe pk) {c : Nat} (hc : c < 54) : (I 8 c = -1) = (hPm c P pe = false) := by
  unfold hPm
  rw [fold_or_any, Bool.false_or]
  apply propext
  constructor
  · intro h1
    cases hz : zz_any (fun i => decide (ecN (2 * pe i) = c) || decide (ecN (2 * pe i + 1) = c)) P 0 with
    | false => rfl
    | true =>
      obtain ⟨k, -, hk, g1⟩ := (zz_any_iff P 0).mp hz
      have := hP.2.2.2.2.1 k c (by omega) hc g1
      rw [h1] at this
      have g2 := (hP.2.2.2.1 k (by omega)).2.2.2
      have g3 := zz_nI_m1 (a := pk k) (by omega)
      rw [← this] at g3
      simp at g3
  · intro h1
    refine hP.2.2.2.2.2 c hc (fun k hk => ?_)
    cases hi : inc (pe k) c with
    | false => rfl
    | true =>
      have : zz_any (fun i => decide (ecN (2 * pe i) = c) || decide (ecN (2 * pe i + 1) = c)) P 0 = true := (zz_any_iff P 0).mpr ⟨k, by omega, by omega, hi⟩
      rw [h1] at this
      cases this
theorem r_bPr (h : Cst I 9 (I 24)) (hW : ∀ c, c < 54 → I 24 (72 + c) = nI (W c) ∧ W c ≤ 12) (hP : Prt I P pe pk) (ht : t < 4) {g : Nat} (hg : g < 5) : bPr I t (nI g) = nI (rtm I t (nI g) P pe) := by
  have own : ∀ c, c < 54 → (!decide (wth I (nI t) c = 0)) = isMi I c (nI t) := fun c hc => by
    obtain ⟨g1, g2⟩ := hW c hc
    rw [wth_w h hc g1 g2 ht, isMi_w g1 g2 ht]
    by_cases z1 : W c = t + 1
    · simp [z1]
    · by_cases z2 : W c = t + 9
      · simp [z2]
      · simp [z1, z2]
  have key : ∀ x, x < 6 → zz_any (fun c => !decide (wth I (nI t) c = 0) && decide (I 8 c = nI x)) 54 0 = zz_any (fun k => rtH I t pe k && decide (I 34 k = nI x)) P 0 := fun x hx => by
    refine Bool_iff_eq ?_
    rw [zz_any_iff, zz_any_iff]
    constructor
    · rintro ⟨c, -, hc, h1⟩
      rw [Bool.and_eq_true, own c (by omega), decide_eq_true_eq] at h1
      have hex : ∃ k, k < P ∧ inc (pe k) c = true := by
        by_cases hz : ∀ k, k < P → inc (pe k) c = false
        · have h2 := hP.2.2.2.2.2 c (by omega) hz
          rw [h1.2] at h2
          have g3 := zz_nI_m1 (a := x) (by omega)
          rw [h2] at g3
          simp at g3
        · obtain ⟨k, hk⟩ := Classical.not_forall.mp hz
          have hk' := Classical.not_imp.mp hk
          exact ⟨k, hk'.1, by simpa using hk'.2⟩
      obtain ⟨k, hk, hi⟩ := hex
      have h2 := hP.2.2.2.2.1 k c hk (by omega) hi
      obtain ⟨-, -, h3, h4⟩ := hP.2.2.2.1 k hk
      refine ⟨k, by omega, by omega, ?_⟩
      rw [Bool.and_eq_true, decide_eq_true_eq, h3]
      refine ⟨?_, by rw [← h2, h1.2]⟩
      unfold rtH
      unfold inc at hi
      rw [Bool.or_eq_true, decide_eq_true_eq, decide_eq_true_eq] at hi
      rcases hi with z | z
      · rw [z, h1.1]; rfl
      · rw [z, h1.1, Bool.or_true]
    · rintro ⟨k, -, hk, h1⟩
      rw [Bool.and_eq_true, decide_eq_true_eq] at h1
      obtain ⟨-, h2, h3, h4⟩ := hP.2.2.2.1 k (by omega)
      have h5 := h1.1
      unfold rtH at h5
      rw [Bool.or_eq_true] at h5
      rcases h5 with z | z
      · have hl := ecN_lt (j := 2 * pe k) (by omega)
        refine ⟨ecN (2 * pe k), by omega, by omega, ?_⟩
        rw [Bool.and_eq_true, own _ hl, decide_eq_true_eq, hP.2.2.2.2.1 k (ecN (2 * pe k)) (by omega) hl (by unfold inc; simp), ← h3]
        exact ⟨z, h1.2⟩
      · have hl := ecN_lt (j := 2 * pe k + 1) (by omega)
        refine ⟨ecN (2 * pe k + 1), by omega, by omega, ?_⟩
        rw [Bool.and_eq_true, own _ hl, decide_eq_true_eq, hP.2.2.2.2.1 k (ecN (2 * pe k + 1)) (by omega) hl (by unfold inc; simp), ← h3]
        exact ⟨z, h1.2⟩
  unfold bPr rtm
  have hb := bPr_wh (f := fun c => !decide (wth I (nI t) c = 0)) (c2 := fun c => decide (I 8 c = nI g)) (c3 := fun c => decide (I 8 c = 5)) 54 0 4
  have hb2 : zz_wh (fun c (_ : Int32) => !decide (wth I (nI t) c = 0) && decide (I 8 c = nI g)) (fun _ _ => (2 : Int32)) (fun c p => if (!decide (wth I (nI t) c = 0) && decide (I 8 c = 5)) = true then 3 else p) (fun p => p) 54 0 4 = _ := hb
  rw [hb2]
  have hr := rt_fold (H := rtH I t pe) (X := rtX I (nI g)) (fun k => by
    unfold rtX
    (repeat' split) <;> omega) P
  have hr2 : zz_fold (rtS I t (nI g) pe) P 0 4 = _ := hr
  rw [hr2]
  have k2 : zz_any (fun k => rtH I t pe k && decide (rtX I (nI g) k = 2)) P 0 = zz_any (fun k => rtH I t pe k && decide (I 34 k = nI g)) P 0 := by
    refine zz_any_congr P 0 (fun k _ _ => ?_)
    congr 2
    unfold rtX
    apply propext
    (repeat' split) <;> simp_all
  have k3 : zz_any (fun k => rtH I t pe k && decide (rtX I (nI g) k = 3)) P 0 = zz_any (fun k => rtH I t pe k && decide (I 34 k = nI 5)) P 0 := by
    refine zz_any_congr P 0 (fun k _ hk => ?_)
    congr 2
    unfold rtX
    apply propext
    have hne : ¬ nI g = nI 5 := fun z => by
      have := (zz_nI_eq (a := g) (b := 5) (by omega) (by omega)).mp z
      omega
    have e5 : (5 : Int32) = nI 5 := rfl
    rw [e5]
    by_cases z1 : I 34 k = nI g
    · rw [if_pos z1, z1]
      simp [hne]
    · rw [if_neg z1]
      by_cases z2 : I 34 k = nI 5
      · simp [z2]
      · simp [z2]
  have e5 : (fun c => !decide (wth I (nI t) c = 0) && decide (I 8 c = 5)) = (fun c => !decide (wth I (nI t) c = 0) && decide (I 8 c = nI 5)) := rfl
  rw [k2, k3, key g (by omega), e5, key 5 (by omega)]
  (repeat' split) <;> rfl
theorem r_fold_deck : True := trivial
end RR5
