section ON
variable {d n t pc s : Nat} {I X I1 W A B : Nat → Nat → Int32} {J : Nat → Nat → Int64} {ex : List (Nat × Nat)} {y : Int64} {S : Nat → Int32}
theorem Tm.cong2 (h : Tm I) (h1 : ∀ b j, (b = 28 ∨ b = 29 ∨ b = 30 ∨ b = 36) → X b j = I b j) : Tm X := ⟨fun j hj => by rw [h1 _ _ (by omega)]; exact h.1 j hj, fun j hj => by rw [h1 _ _ (by omega)]; exact h.2.1 j hj, fun j hj => by rw [h1 _ _ (by omega)]; exact h.2.2.1 j hj, fun j => by rw [h1 _ _ (by omega)]; exact h.2.2.2 j⟩
theorem isY_brs (g m : Int32) : isY g m = brs g m := by
  unfold isY brs isG
  by_cases z : g = 5
  · subst z
    rw [if_pos rfl]
    have : ¬ ((5 : Int32) < 5) := by decide
    simp [this]
  · rw [if_neg z]
    simp [z, Bool.and_assoc]
theorem brs_nat {g m : Int32} (h : brs g m = true) : ∃ a b : Nat, g = nI a ∧ m = nI b ∧ a ≤ 5 ∧ ((a = 5 ∧ b = 0) ∨ (a < 5 ∧ 2 ≤ b ∧ b ≤ 12)) := by
  unfold brs at h
  rw [Bool.or_eq_true] at h
  rcases h with h | h
  · simp only [Bool.and_eq_true, decide_eq_true_eq, Bool.not_eq_true', decide_eq_false_iff_not] at h
    obtain ⟨g1, g2, g3, g4, g5⟩ := h
    rw [Int32.le_iff_toInt_le, show (0 : Int32).toInt = 0 from rfl] at g1
    rw [Int32.lt_iff_toInt_lt, show (5 : Int32).toInt = 5 from rfl] at g2
    rw [Int32.le_iff_toInt_le, show (2 : Int32).toInt = 2 from rfl] at g3
    rw [Int32.le_iff_toInt_le, show (12 : Int32).toInt = 12 from rfl] at g4
    exact ⟨g.toInt.toNat, m.toInt.toNat, by apply Int32.toInt_inj.mp; rw [nI_toInt (by omega)]; omega, by apply Int32.toInt_inj.mp; rw [nI_toInt (by omega)]; omega, by omega, Or.inr ⟨by omega, by omega, by omega⟩⟩
  · simp only [Bool.and_eq_true, decide_eq_true_eq] at h
    obtain ⟨rfl, rfl⟩ := h
    exact ⟨5, 0, rfl, rfl, by omega, Or.inl ⟨rfl, rfl⟩⟩
theorem op_hex (h g m : Int32) : Opr 1 [.int h, .int g, .int m] 96 [.int h, .int g, .int m] (fun e => if e = 3 then 1 else if e = 4 then 2 else 0) := fun I y hR => by
  obtain ⟨pc, h5, h15, hpc, hC⟩ := hR.plc
  have hHx : isHx h = (decide (0 ≤ h) && decide (h ≤ 18)) := by
    unfold isHx
    congr 2
    rw [Int32.lt_iff_toInt_lt, Int32.le_iff_toInt_le, show (19 : Int32).toInt = 19 from rfl, show (18 : Int32).toInt = 18 from rfl]
    exact propext (by omega)
  by_cases h0 : I 24 180 = 0
  · have h09 : I 9 0 = 0 := hC.ph.trans h0
    cases hb : (isHx h && isY g m) with
    | false =>
      refine Or.inr ⟨4, fun d n J ex => c1f (d := d + 17) h09 h g m hb, by decide, none, OkM.ref' hR (fun d n J ex => ⟨false, ?_⟩)⟩
      have := c96n (d := d + 5) (n := n) (J := J) (ex := ex) (I := I) h g m (by
        rw [hHx, isY_brs] at hb
        by_cases z1 : 0 ≤ h
        · by_cases z2 : h ≤ 18
          · right; right; right
            simpa [z1, z2] using hb
          · exact Or.inr (Or.inr (Or.inl z2))
        · exact Or.inr (Or.inl z1))
      rw [if_pos h0] at this
      exact this
    | true =>
      rw [Bool.and_eq_true, hHx, Bool.and_eq_true, decide_eq_true_eq, decide_eq_true_eq, isY_brs] at hb
      obtain ⟨⟨b1, b2⟩, b3⟩ := hb
      obtain ⟨q, hq, rfl⟩ := rng_nat (k := 18) rfl b1 b2 (by decide)
      obtain ⟨a, b, rfl, rfl, e1, e2⟩ := brs_nat b3
      refine Or.inl ⟨zz_up (zz_up I 6 q (nI a)) 7 q (nI b), none, fun d n J ex _ => ⟨false, c1a (d := d + 17) h09 q (by omega) _ _ (by rw [isY_brs]; exact b3)⟩, fun d n J ex => ⟨_, false, c96a (d := d + 5) (I := zz_up (zz_up I 6 q (nI a)) 7 q (nI b)) (by rw [up_ne (by decide), up_ne (by decide), h0]) q (by omega) _ _ b3, ?_, ?_⟩⟩
      · rw [up_ne (by decide), up_ne (by decide), up_eq]
      · generalize hX : zz_up (zz_up (zz_up (zz_up (zz_up I 6 q (nI a)) 7 q (nI b)) 23 0 0) 31 q (nI a)) 32 q (nI b) = X
        have Xn : ∀ b' j, ¬ (b' = 6 ∨ b' = 7 ∨ b' = 31 ∨ b' = 32) → ¬ (b' = 23 ∧ j = 0) → X b' j = I b' j := fun b' j h1 h2 => by
          rw [← hX, up_ne (by omega), up_ne (by omega)]
          by_cases z : b' = 23
          · rw [up_nf (fun w => h2 ⟨z, w⟩), up_ne (by omega), up_ne (by omega)]
          · rw [up_ne z, up_ne (by omega), up_ne (by omega)]
        obtain ⟨g1, g2, ⟨gd, nm, g3⟩, ⟨P, pe, pk, g4⟩, g5, g6, g7, g8, pc', g9, g10, g11, g12, g13⟩ := hR
        have e24 : X 24 = I 24 := funext fun j => Xn 24 j (by omega) (by omega)
        refine ⟨g1.cong (fun b' j hb => Xn b' j (by omega) (by omega)), g2.cong2 (fun b' j hb => Xn b' j (by omega) (by omega)), ⟨fun z => if z = q then a else gd z, fun z => if z = q then b else nm z, fun z hz => ?_⟩, ⟨P, pe, pk, g4.cong (fun b' j hb => Xn b' j (by omega) (by omega)) (Xn _ _ (by omega) (by omega)) (Xn _ _ (by omega) (by omega))⟩, fun k hk => by rw [Xn _ _ (by omega) (by omega)]; exact g5 k hk, by rw [Xn _ _ (by omega) (by omega)]; exact g6, by rw [Xn _ _ (by omega) (by omega), Xn _ _ (by omega) (by omega)]; exact g7, by rw [Xn _ _ (by omega) (by omega), Xn _ _ (by omega) (by omega)]; exact g8, pc', by rw [Xn _ _ (by omega) (by omega)]; exact g9, by rw [Xn _ _ (by omega) (by omega)]; exact g10, g11, g12.cong (fun b' j h1 h2 => Xn b' j (by omega) (by omega)) (fun j => by rw [e24]), ?_⟩
        · by_cases w : z = q
          · subst w
            simp only [if_true]
            refine ⟨?_, e1, ?_, ?_, ?_, e2⟩
            · rw [← hX, up_ne (by decide), up_ne (by decide), up_ne (by decide), up_ne (by decide), up_eq]
            · rw [← hX, up_ne (by decide), up_eq]
            · rw [← hX, up_ne (by decide), up_ne (by decide), up_ne (by decide), up_eq, up_eq]
            · rw [← hX, up_ne (by decide), up_ne (by decide), up_ne (by decide), up_eq]
          · simp only [w, if_false]
            have hz' : ∀ b', ¬ b' = 23 → X b' z = I b' z := fun b' v => by rw [← hX, up_nf w, up_nf w, up_ne v, up_nf w, up_nf w]
            rw [hz' 6 (by decide), hz' 7 (by decide), hz' 31 (by decide), hz' 32 (by decide)]
            exact g3 z hz
        · rw [Xn 5 9 (by omega) (by omega), Xn 5 6 (by omega) (by omega), Xn 9 2 (by omega) (by omega), e24, show X 25 = I 25 from funext fun j => Xn 25 j (by omega) (by omega)]
          rcases g13 with z | ⟨z1, z2, z3⟩
          · exact Or.inl z
          · exact Or.inr ⟨z1, z2, fun w => ⟨(z3 w).1.cong (fun b' j h1 h2 => Xn b' j (by omega) (by omega)) (fun _ => rfl), (z3 w).2⟩⟩
  · refine Or.inr ⟨3, fun d n J ex => c1e (d := d + 17) (fun z => h0 (hC.ph.symm.trans z)) h g m, by decide, none, OkM.ref' hR (fun d n J ex => ⟨false, ?_⟩)⟩
    have := c96n (d := d + 5) (n := n) (J := J) (ex := ex) (I := I) h g m (Or.inl h0)
    rw [if_neg h0] at this
    exact this
end ON
