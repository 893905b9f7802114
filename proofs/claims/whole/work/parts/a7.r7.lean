theorem fold_addz {f : Nat → Int32} : ∀ (n k : Nat) (a : Int32), zz_fold (fun i a => a + f i) n k a = a + zz_fold (fun i a => a + f i) n k 0
  | 0, k, a => (Int32.add_zero a).symm
  | n + 1, k, a => by
    show zz_fold (fun i a => a + f i) n (k + 1) (a + f k) = a + zz_fold (fun i a => a + f i) n (k + 1) (0 + f k)
    rw [fold_addz n (k + 1) (a + f k), fold_addz n (k + 1) (0 + f k), Int32.zero_add, Int32.add_assoc]
theorem fold_add2 {f g : Nat → Int32} : ∀ (n k : Nat), zz_fold (fun i a => a + (f i + g i)) n k 0 = zz_fold (fun i a => a + f i) n k 0 + zz_fold (fun i a => a + g i) n k 0
  | 0, k => rfl
  | n + 1, k => by
    show zz_fold (fun i a => a + (f i + g i)) n (k + 1) (0 + (f k + g k)) = zz_fold (fun i a => a + f i) n (k + 1) (0 + f k) + zz_fold (fun i a => a + g i) n (k + 1) (0 + g k)
    rw [fold_addz n (k + 1) (0 + (f k + g k)), fold_add2 n (k + 1), fold_addz n (k + 1) (0 + f k), fold_addz n (k + 1) (0 + g k), Int32.zero_add, Int32.zero_add, Int32.zero_add]
    generalize zz_fold (fun i a => a + f i) n (k + 1) 0 = x
    generalize zz_fold (fun i a => a + g i) n (k + 1) 0 = y
    rw [Int32.add_assoc, Int32.add_assoc, ← Int32.add_assoc (g k), Int32.add_comm (g k) x, Int32.add_assoc]
theorem fold_zero {g : Nat → Int32} : ∀ (n k : Nat), (∀ i, k ≤ i → i < k + n → g i = 0) → zz_fold (fun i a => a + g i) n k 0 = 0
  | 0, k, _ => rfl
  | n + 1, k, h => by
    show zz_fold (fun i a => a + g i) n (k + 1) (0 + g k) = 0
    rw [h k (Nat.le_refl k) (by omega), Int32.zero_add]
    exact fold_zero n (k + 1) (fun i h1 h2 => h i (by omega) (by omega))
theorem fold_single {g : Nat → Int32} : ∀ (n k k0 : Nat), k ≤ k0 → k0 < k + n → (∀ i, i < k + n → ¬ i = k0 → g i = 0) → zz_fold (fun i a => a + g i) n k 0 = g k0
  | 0, k, k0, h1, h2, _ => by omega
  | n + 1, k, k0, h1, h2, h => by
    show zz_fold (fun i a => a + g i) n (k + 1) (0 + g k) = g k0
    rw [fold_addz, Int32.zero_add]
    rcases Nat.eq_or_lt_of_le h1 with z | z
    · subst z
      rw [fold_zero n (k + 1) (fun i h3 h4 => h i (by omega) (by omega)), Int32.add_zero]
    · rw [h k (by omega) (by omega), Int32.zero_add]
      exact fold_single n (k + 1) k0 z (by omega) (fun i h3 h4 => h i (by omega) h4)
theorem wy_all : (List.range 11).all (fun k => decide (wyC (nI (2 + k)) = wyM (nI (2 + k)))) = true := by decide +kernel
section RR7
variable {I : Nat → Nat → Int32} {s : Nat → Int32} {t pc : Nat} {W : Nat → Nat}
theorem r_fc (h : Cst I 9 (I 24)) (hW : ∀ c, c < 54 → I 24 (72 + c) = nI (W c) ∧ W c ≤ 12) {gd nm : Nat → Nat} (h6 : ∀ q, q < 19 → I 6 q = nI (gd q) ∧ gd q ≤ 5) (h31 : ∀ q, q < 19 → I 31 q = nI (gd q)) (h7 : ∀ q, q < 19 → I 7 q = I 32 q) (hnm : ∀ q, q < 19 → gd q < 5 → I 32 q = nI (nm q) ∧ 2 ≤ nm q ∧ nm q ≤ 12) {p g : Nat} (hp : p < 4) (hg : g < 5) : fcC I (nI p) (nI g) = fcM I p (nI g) := by
  have e0 : fcC I (nI p) (nI g) = zz_fold (fun k a => a + wyM (nI (2 + k)) * nI (clN I gd (nI (2 + k)) p g 19)) 11 0 0 := by
    unfold fcC
    refine zz_fold_congr 11 0 0 (fun k a _ hk => ?_)
    have h1 := List.all_eq_true.mp wy_all k (List.mem_range.mpr (by omega))
    rw [of_decide_eq_true h1, r_clm h hW h6 h7 hp hg]
  rw [e0]
  have key : ∀ Q, Q ≤ 19 → zz_fold (fun k a => a + wyM (nI (2 + k)) * nI (clN I gd (nI (2 + k)) p g Q)) 11 0 0 = zz_fold (fcS I p (nI g)) Q 0 0 := fun Q => by
    induction Q with
    | zero =>
      intro _
      refine fold_zero 11 0 (fun i _ _ => ?_)
      show wyM (nI (2 + i)) * nI 0 = 0
      rw [show nI 0 = 0 from rfl, Int32.mul_zero]
    | succ Q ih =>
      intro hQ
      rw [zz_fold_succ (f := fcS I p (nI g)) Q 0 0, Nat.zero_add, ← ih (by omega)]
      have e1 : zz_fold (fun k a => a + wyM (nI (2 + k)) * nI (clN I gd (nI (2 + k)) p g (Q + 1))) 11 0 0 = zz_fold (fun k a => a + (wyM (nI (2 + k)) * nI (clN I gd (nI (2 + k)) p g Q) + (if (I 32 Q = nI (2 + k) ∧ ¬ nI Q = I 24 182) ∧ gd Q = g then wyM (nI (2 + k)) * nI (clh I p Q) else 0))) 11 0 0 := by
        refine zz_fold_congr 11 0 0 (fun k a _ hk => ?_)
        rw [clN_s]
        split
        · rw [← zz_nI_add (clN I gd (nI (2 + k)) p g Q) (clh I p Q), Int32.mul_add]
        · rw [Int32.add_zero]
      rw [e1, fold_add2]
      have e2 : ∀ z : Int32, fcS I p (nI g) Q z = z + (if I 31 Q = nI g ∧ ¬ nI Q = I 24 182 then wyM (I 32 Q) * nI (clh I p Q) else 0) := fun z => by
        unfold fcS
        split
        · rfl
        · rw [Int32.add_zero]
      rw [e2]
      generalize zz_fold (fun k a => a + wyM (nI (2 + k)) * nI (clN I gd (nI (2 + k)) p g Q)) 11 0 0 = A
      refine congrArg (fun z => A + z) ?_
      rw [h31 Q (by omega)]
      have e3 : (nI (gd Q) = nI g) = (gd Q = g) := zz_eqN (by have := (h6 Q (by omega)).2; omega) (by omega)
      simp only [e3]
      by_cases z1 : gd Q = g
      · by_cases z2 : nI Q = I 24 182
        · rw [if_neg (fun y => y.2 z2)]
          exact fold_zero 11 0 (fun i _ _ => if_neg (fun y => y.1.2 z2))
        · obtain ⟨g1, g2, g3⟩ := hnm Q (by omega) (by omega)
          rw [if_pos ⟨z1, z2⟩, fold_single 11 0 (nm Q - 2) (by omega) (by omega) (fun i hi2 hi => if_neg (fun y => hi (by
            have y1 := y.1.1
            rw [g1, zz_eqN (a := nm Q) (b := 2 + i) (by omega) (by omega)] at y1
            omega)))]
          rw [show 2 + (nm Q - 2) = nm Q by omega, if_pos ⟨⟨g1, z2⟩, z1⟩, g1]
      · rw [if_neg (fun y => z1 y.1)]
        exact fold_zero 11 0 (fun i _ _ => if_neg (fun y => z1 y.2))
  exact key 19 (Nat.le_refl 19)
end RR7
