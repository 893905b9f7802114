def bq (c q : Nat) : Bool := zz_any (fun k => decide (hcN (6 * q + k) = c)) 6 0
theorem bq_all : (List.range 54).all (fun c => decide (cN (bq c) 19 ≤ 3)) = true := by decide +kernel
section OL
variable {d n t pc s : Nat} {I X I1 W A B : Nat → Nat → Int32} {J : Nat → Nat → Int64} {ex : List (Nat × Nat)} {y : Int64} {S : Nat → Int32}
theorem isBm_bq (hT : Tm I) {c q : Nat} (hc : c < 54) (hq : q < 19) : isBm I (nI c) q = bq c q := by
  unfold isBm bq
  rw [fold_or_any, Bool.false_or]
  refine zz_any_congr 6 0 (fun k _ hk => ?_)
  rw [hT.2.2.1 _ (by omega)]
  congr 1
  have := hcN_lt (j := 6 * q + k) (by omega)
  exact zz_eqN (by omega) (by omega)
def gF (be : Nat → Bool) (gd : Nat → Nat) (t k : Nat) (S : Nat → Int32) : Nat → Int32 := zz_fold (fun q S => if ¬ gd q = 5 ∧ be q = true then mvS S 4 t (gd q) 1 else S) k 0 S
theorem gF_s {be : Nat → Bool} {gd : Nat → Nat} {k : Nat} : gF be gd t (k + 1) S = if ¬ gd k = 5 ∧ be k = true then mvS (gF be gd t k S) 4 t (gd k) 1 else gF be gd t k S := by
  unfold gF
  rw [zz_fold_succ, Nat.zero_add]
theorem gF_sup {be : Nat → Bool} {gd : Nat → Nat} (ht : t < 4) (hg : ∀ q, q < 19 → gd q ≤ 5) {i : Nat} {v : Int32} (hi : ¬ (126 ≤ i ∧ i < 151)) : ∀ k, k ≤ 19 → sup (gF be gd t k S) i v = gF be gd t k (sup S i v) := fun k => by
  induction k with
  | zero => exact fun _ => rfl
  | succ k ih =>
    intro hk
    rw [gF_s, gF_s, ← ih (by omega)]
    have := hg k (by omega)
    by_cases z : ¬ gd k = 5 ∧ be k = true
    · rw [if_pos z, if_pos z, mvS_fn (s' := S) (by omega) (by omega) (by omega) (by omega), mvS_fn (s' := S) (by omega) (by omega) (by omega) (by omega), sup_ne (by omega), sup_ne (by omega), sup_comm (j := i) (by omega), sup_comm (j := i) (by omega)]
    · rw [if_neg z, if_neg z]
theorem gF_V {N : Nat → Nat} {D : Nat} {be : Nat → Bool} {gd : Nat → Nat} (ht : t < 4) (hg : ∀ q, q < 19 → gd q ≤ 5) (hN : ∀ j, j < 180 → S j = nI (N j)) (hV : Vn pc D N) (hbe : cN be 19 ≤ 3) (hbk : ∀ g, g < 5 → 10 ≤ N (126 + (4 * 5 + g))) : ∀ k, k ≤ 19 → ∃ N' : Nat → Nat, (∀ j, j < 180 → gF be gd t k S j = nI (N' j)) ∧ Vn pc D N' ∧ (∀ j, ¬ (126 ≤ j ∧ j < 151) → N' j = N j ∧ gF be gd t k S j = S j) ∧ (∀ g, g < 5 → N (126 + (4 * 5 + g)) ≤ N' (126 + (4 * 5 + g)) + cN be k) := fun k => by
  induction k with
  | zero => exact fun _ => ⟨N, hN, hV, fun _ _ => ⟨rfl, rfl⟩, fun g hg => by rw [cN_0]; omega⟩
  | succ k ih =>
    intro hk
    obtain ⟨N', i1, i2, i3, i4⟩ := ih (by omega)
    have hgk := hg k (by omega)
    have hmn := cN_mn (P := be) (n := k + 1) (19 - (k + 1))
    rw [show k + 1 + (19 - (k + 1)) = 19 by omega, cN_s] at hmn
    rw [gF_s, cN_s]
    by_cases z : ¬ gd k = 5 ∧ be k = true
    · rw [if_pos z]
      rw [if_pos z.2] at hmn ⊢
      have hc : 1 ≤ N' (126 + (4 * 5 + gd k)) := by
        have h1 := i4 (gd k) (by omega)
        have h2 := hbk (gd k) (by omega)
        omega
      have r := rep_mv i1 (f := 4) (t := t) (g := gd k) (c := 1) (by omega) (by omega) (by omega) hc
      refine ⟨mvN N' 4 t (gd k) 1, r, i2.upd (fun j hj => mvN_ne (by omega) (by omega)) (fun g' hg' => by
        rw [mvN_sum (by omega) (by omega) (by omega) hc hg']
        exact i2.2.2.1 g' hg') (fun j j1 j2 => by
        rw [mvN_ne (by omega) (by omega)]
        exact i2.2.2.2.1 j j1 j2) (fun j j1 j2 => by
        rw [mvN_ne (by omega) (by omega)]
        exact i2.2.2.2.2.1 j j1 j2), fun j hj => ⟨by rw [mvN_ne (by omega) (by omega)]; exact (i3 j hj).1, by rw [mvS_ne (by omega) (by omega)]; exact (i3 j hj).2⟩, fun g hg' => ?_⟩
      have h1 := i4 g hg'
      by_cases w : g = gd k
      · subst w
        unfold mvN
        rw [nup_ne (by omega), nup_eq]
        omega
      · rw [mvN_ne (by omega) (by omega)]
        omega
    · rw [if_neg z]
      refine ⟨N', i1, i2, i3, fun g hg' => ?_⟩
      have := i4 g hg'
      split <;> omega
theorem bFG_C {be : Nat → Bool} {gd : Nat → Nat} (ht : t < 4) (hg : ∀ q, q < 19 → gd q ≤ 5) (h : Cst (zz_up A 9 0 2) 9 S) {b0 : Bool} : ∀ k, k ≤ 19 → Cst (zz_up (zz_fold (fun q (X : Bool × (Nat → Nat → Int32)) => if ¬ gd q = 5 ∧ be q = true then (false, mv X.2 4 t (gd q) 1) else X) k 0 (b0, A)).2 9 0 2) 9 (gF be gd t k S) ∧ ∀ b j, ¬ b = 12 → (zz_fold (fun q (X : Bool × (Nat → Nat → Int32)) => if ¬ gd q = 5 ∧ be q = true then (false, mv X.2 4 t (gd q) 1) else X) k 0 (b0, A)).2 b j = A b j := fun k => by
  induction k with
  | zero => exact fun _ => ⟨h, fun _ _ _ => rfl⟩
  | succ k ih =>
    intro hk
    obtain ⟨i1, i2⟩ := ih (by omega)
    have hgk := hg k (by omega)
    rw [zz_fold_succ, Nat.zero_add, gF_s]
    generalize zz_fold (fun q (X : Bool × (Nat → Nat → Int32)) => if ¬ gd q = 5 ∧ be q = true then (false, mv X.2 4 t (gd q) 1) else X) k 0 (b0, A) = Y at *
    by_cases z : ¬ gd k = 5 ∧ be k = true
    · rw [if_pos z, if_pos z]
      refine ⟨?_, fun b j hb => by show mv Y.2 4 t (gd k) 1 b j = A b j; rw [mv_ne hb]; exact i2 b j hb⟩
      have e : zz_up (mv Y.2 4 t (gd k) 1) 9 0 2 = mv (zz_up Y.2 9 0 2) 4 t (gd k) 1 := by
        have q : ∀ i, zz_up Y.2 9 0 2 12 i = Y.2 12 i := fun i => up_ne (by decide)
        unfold mv
        rw [q]
        funext b j
        unfold zz_up
        by_cases w : b = 9
        · simp [w]
        · simp [w]
      show Cst (zz_up (mv Y.2 4 t (gd k) 1) 9 0 2) 9 _
      rw [e]
      exact i1.mv (by omega) (by omega) (by omega) 1
    · rw [if_neg z, if_neg z]
      exact ⟨i1, i2⟩
theorem sHS_24 {Y X0 : Nat → Nat → Int32} {gd : Nat → Nat} {c : Nat} (hT : Tm Y) (ht : t < 4) (hc : c < 54) (hg : ∀ q, q < 19 → gd q ≤ 5) : ∀ k, k ≤ 19 → zz_fold (sHS Y t gd c) k 0 X0 24 = gF (bq c) gd t k (X0 24) ∧ ∀ b j, ¬ b = 24 → zz_fold (sHS Y t gd c) k 0 X0 b j = X0 b j := fun k => by
  induction k with
  | zero => exact fun _ => ⟨rfl, fun _ _ _ => rfl⟩
  | succ k ih =>
    intro hk
    obtain ⟨i1, i2⟩ := ih (by omega)
    have hgk := hg k (by omega)
    rw [zz_fold_succ, Nat.zero_add, gF_s]
    generalize zz_fold (sHS Y t gd c) k 0 X0 = Z at *
    unfold sHS
    rw [isBm_bq hT hc (by omega)]
    by_cases z : ¬ gd k = 5 ∧ bq c k = true
    · rw [if_pos z, if_pos ⟨by omega, z.2⟩]
      refine ⟨?_, fun b j hb => by rw [up_ne hb, up_ne hb]; exact i2 b j hb⟩
      rw [up_sup, up_sup, ← i1, mvS_fn (s' := X0 24) (by omega) (by omega) (by omega) (by omega), sup_ne (j := 146 + gd k) (by omega), show 126 + 5 * t + gd k = 126 + (t * 5 + gd k) by omega, show 146 + gd k = 126 + (4 * 5 + gd k) by omega, sup_comm (by omega)]
    · rw [if_neg z, if_neg (fun w => z ⟨by omega, w.2⟩)]
      exact ⟨i1, i2⟩
theorem Cst.hut (h : Cst I 9 S) (h1 : S 180 = 1) (v : Int32) : Cst (zz_up (zz_up I 9 3 v) 9 0 2) 9 (sup (sup (sup S 192 v) 191 (S 191 + 1)) 180 2) := by
  obtain ⟨g1, g2, g3, g4, g5, g6, g7, g8, g9, g10, g11, g12, g13, g14, g15, g16, g17, g18, g19⟩ := h
  refine ⟨fun e he => ?_, fun e he => ?_, fun e he => ?_, fun e he => ?_, fun e he => ?_, fun e he => ?_, ?_, ?_, ?_, ?_, ?_, ?_, ?_, ?_, ?_, fun z => ?_, fun z => ?_, fun z => ?_, fun z => ?_⟩
  · rw [up_ne (by decide), up_ne (by decide), sup_ne (by omega), sup_ne (by omega), sup_ne (by omega)]; exact g1 e he
  · rw [up_ne (by decide), up_ne (by decide), sup_ne (by omega), sup_ne (by omega), sup_ne (by omega)]; exact g2 e he
  · rw [up_ne (by decide), up_ne (by decide), sup_ne (by omega), sup_ne (by omega), sup_ne (by omega)]; exact g3 e he
  · rw [up_ne (by decide), up_ne (by decide), sup_ne (by omega), sup_ne (by omega), sup_ne (by omega)]; exact g4 e he
  · rw [up_ne (by decide), up_ne (by decide), sup_ne (by omega), sup_ne (by omega), sup_ne (by omega)]; exact g5 e he
  · rw [up_ne (by decide), up_ne (by decide), sup_ne (by omega), sup_ne (by omega), sup_ne (by omega)]; exact g6 e he
  · rw [up_eq, sup_eq]
  · rw [up_nf (by decide), up_nf (by decide), sup_ne (by omega), sup_ne (by omega), sup_ne (by omega)]; exact g8
  · rw [up_nf (by decide), up_nf (by decide), sup_ne (by omega), sup_ne (by omega), sup_ne (by omega)]; exact g9
  · rw [up_nf (by decide), up_nf (by decide), sup_ne (by omega), sup_ne (by omega), sup_ne (by omega)]; exact g10
  · rw [up_nf (by decide), up_nf (by decide), sup_ne (by omega), sup_ne (by omega), sup_ne (by omega)]; exact g11
  · rw [up_nf (by decide), up_nf (by decide), sup_ne (by omega), sup_ne (by omega), sup_ne (by omega)]; exact g12
  · rw [up_nf (by decide), up_nf (by decide), sup_ne (by omega), sup_ne (by omega), sup_ne (by omega)]; exact g13
  · rw [up_nf (by decide), up_nf (by decide), sup_ne (by omega), sup_ne (by omega), sup_ne (by omega)]; exact g14
  · rw [up_nf (by decide), up_nf (by decide), sup_ne (by omega), sup_ne (by omega), sup_ne (by omega)]; exact g15
  · rw [sup_eq] at z; exact absurd z (by decide)
  · rw [up_nf (by decide), up_eq, sup_ne (by omega), sup_ne (by omega), sup_eq]
  · rw [sup_eq] at z; exact absurd z (by decide)
  · rw [up_nf (by decide), up_nf (by decide), sup_ne (by omega), sup_eq, g18 h1]
end OL
