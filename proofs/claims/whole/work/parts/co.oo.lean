section OO
variable {d n t pc s : Nat} {I X I1 W A B : Nat → Nat → Int32} {J : Nat → Nat → Int64} {ex : List (Nat × Nat)} {y : Int64} {S : Nat → Int32}
theorem op_port (e k : Int32) : Opr 2 [.int e, .int k] 98 [.int e, .int k] (fun e => if e = 3 then 1 else if e = 4 then 2 else if e = 5 then 3 else 0) := fun I y hR => by
  obtain ⟨pc, h5, h15, hpc, hC⟩ := hR.plc
  obtain ⟨P, pe, pk, hP⟩ := hR.2.2.2.1
  obtain ⟨P1, P2, P3, P4, P5, P6⟩ := hP
  have hPq : ∀ c, c < 54 → (I 8 c = -1) = (hPm c P pe = false) := fun c hc => r_hPm ⟨P1, P2, P3, P4, P5, P6⟩ hc
  have e9 : (I 23 11 = 9) = (P = 9) := by
    rw [P2]
    exact propext (zz_nI_eq (b := 9) (by omega) (by decide))
  by_cases h0 : I 24 180 = 0
  · have h09 : I 9 0 = 0 := hC.ph.trans h0
    rcases Nat.lt_or_ge P 9 with hP9 | hP9
    · have n9 : ¬ I 23 11 = 9 := by rw [e9]; omega
      have e72 : (decide (0 ≤ e) && decide (e < 72)) = (decide (0 ≤ e) && decide (e ≤ 71)) := by
        congr 2
        rw [Int32.lt_iff_toInt_lt, Int32.le_iff_toInt_le, show (72 : Int32).toInt = 72 from rfl, show (71 : Int32).toInt = 71 from rfl]
        exact propext (by omega)
      by_cases hb : ¬ 0 ≤ e ∨ ¬ e ≤ 71 ∨ ¬ 0 ≤ k ∨ ¬ k ≤ 5
      · refine Or.inr ⟨4, fun d n J ex => c2g (d := d + 17) h09 P1 hP9 e k ?_, by decide, _, OkM.ref' hR (fun d n J ex => ⟨false, c98n2 (d := d + 3) h0 n9 e k hb⟩)⟩
        rw [e72]
        rcases hb with z | z | z | z
        · left; simp [z]
        · left; simp [z]
        · exact Or.inr (Or.inl z)
        · exact Or.inr (Or.inr z)
      · have b1 : 0 ≤ e := Classical.byContradiction fun z => hb (Or.inl z)
        have b2 : e ≤ 71 := Classical.byContradiction fun z => hb (Or.inr (Or.inl z))
        have b3 : 0 ≤ k := Classical.byContradiction fun z => hb (Or.inr (Or.inr (Or.inl z)))
        have b4 : k ≤ 5 := Classical.byContradiction fun z => hb (Or.inr (Or.inr (Or.inr z)))
        obtain ⟨q, hq, rfl⟩ := rng_nat (k := 71) rfl b1 b2 (by decide)
        obtain ⟨r, hr, rfl⟩ := rng_nat (k := 5) rfl b3 b4 (by decide)
        have c1 := ecN_lt (j := 2 * q) (by omega)
        have c2 := ecN_lt (j := 2 * q + 1) (by omega)
        have hsh := r_shr hR.tb hR.tm q
        by_cases hok : shm I q = 1 ∧ hPm (ecN (2 * q)) P pe = false ∧ hPm (ecN (2 * q + 1)) P pe = false
        · obtain ⟨o1, o2, o3⟩ := hok
          have d1 : I 8 (ecN (2 * q)) = -1 := by rw [hPq _ c1]; exact o2
          have d2 : I 8 (ecN (2 * q + 1)) = -1 := by rw [hPq _ c2]; exact o3
          generalize hI1 : zz_up (zz_up (zz_up I 8 (ecN (2 * q)) (nI r)) 8 (ecN (2 * q + 1)) (nI r)) 5 3 (nI (P + 1)) = I1
          have I1n : ∀ b j, ¬ b = 8 → ¬ (b = 5 ∧ j = 3) → I1 b j = I b j := fun b j g1 g2 => by
            rw [← hI1]
            by_cases z : b = 5
            · rw [up_nf (fun w => g2 ⟨z, w⟩), up_ne g1, up_ne g1]
            · rw [up_ne z, up_ne g1, up_ne g1]
          have T1 : Tm I1 := hR.tm.cong2 (fun b j hb => I1n b j (by omega) (by omega))
          have s1 : shm I1 q = 1 := by
            rw [← o1]
            unfold shm isBm
            rw [show I1 30 = I 30 from funext fun j => I1n 30 j (by omega) (by omega)]
          refine Or.inl ⟨I1, some (.int (nI (P + 1))), fun d n J ex _ => ⟨false, ?_⟩, fun d n J ex => ⟨_, false, c98a (d := d + 3) (I := I1) T1 (by rw [I1n _ _ (by omega) (by omega), h0]) (by rw [I1n _ _ (by omega) (by omega), P2]) hP9 (pe := pe) (fun k hk => by rw [I1n _ _ (by omega) (by omega)]; exact (P4 k hk).1) (fun k hk => (P4 k hk).2.1) q r (by omega) (by omega) s1 o2 o3, ?_, ?_⟩⟩
          · rw [← hI1]
            exact c2a (d := d + 17) hR.tb h09 P1 hP9 q r (by omega) (by omega) (hsh.trans o1) d1 d2
          · rw [up_nf (by decide), up_ne (by decide), up_ne (by decide), up_eq]
          · generalize hX : zz_up (zz_up (zz_up (zz_up I1 23 0 0) 33 P (nI q)) 34 P (nI r)) 23 11 (nI (P + 1)) = X
            have Xn1 : ∀ b j, ¬ b = 23 → ¬ b = 33 → ¬ b = 34 → X b j = I1 b j := fun b j g1 g2 g3 => by rw [← hX, up_ne g1, up_ne g3, up_ne g2, up_ne g1]
            have Xn : ∀ b j, ¬ b = 8 → ¬ (b = 5 ∧ j = 3) → ¬ b = 33 → ¬ b = 34 → ¬ (b = 23 ∧ (j = 0 ∨ j = 11)) → X b j = I b j := fun b j g1 g2 g3 g4 g5 => by
              by_cases z : b = 23
              · subst z
                rw [← hX, up_nf (by omega), up_ne (by decide), up_ne (by decide), up_nf (by omega), I1n 23 j (by omega) (by omega)]
              · rw [Xn1 b j z g3 g4, I1n b j g1 g2]
            have hRR := hR
            obtain ⟨g1, g2, ⟨gd, nm, g3⟩, -, g5, g6, g7, g8, pc', g9, g10, g11, g12, g13⟩ := hRR
            have e24 : X 24 = I 24 := funext fun j => Xn 24 j (by omega) (by omega) (by omega) (by omega) (by omega)
            refine ⟨g1.cong (fun b' j hb => Xn b' j (by omega) (by omega) (by omega) (by omega) (by omega)), g2.cong2 (fun b' j hb => Xn b' j (by omega) (by omega) (by omega) (by omega) (by omega)), ⟨gd, nm, g3.cong (fun b' j hb => Xn b' j (by omega) (by omega) (by omega) (by omega) (by omega))⟩, ⟨P + 1, fun z => if z = P then q else pe z, fun z => if z = P then r else pk z, ?_⟩, fun k hk => by rw [Xn _ _ (by omega) (by omega) (by omega) (by omega) (by omega)]; exact g5 k hk, by rw [Xn _ _ (by omega) (by omega) (by omega) (by omega) (by omega)]; exact g6, by rw [Xn _ _ (by omega) (by omega) (by omega) (by omega) (by omega), Xn _ _ (by omega) (by omega) (by omega) (by omega) (by omega)]; exact g7, by rw [Xn _ _ (by omega) (by omega) (by omega) (by omega) (by omega), Xn _ _ (by omega) (by omega) (by omega) (by omega) (by omega)]; exact g8, pc', by rw [Xn _ _ (by omega) (by omega) (by omega) (by omega) (by omega)]; exact g9, by rw [Xn _ _ (by omega) (by omega) (by omega) (by omega) (by omega)]; exact g10, g11, g12.cong (fun b' j h1 h2 => Xn b' j (by omega) (by omega) (by omega) (by omega) (by omega)) (fun j => by rw [e24]), ?_⟩
            · have x8 : ∀ c, X 8 c = if c = ecN (2 * q) ∨ c = ecN (2 * q + 1) then nI r else I 8 c := fun c => by
                rw [Xn1 8 c (by decide) (by decide) (by decide), ← hI1, up_ne (by decide)]
                by_cases z2 : c = ecN (2 * q + 1)
                · rw [z2, up_eq, if_pos (Or.inr rfl)]
                · rw [up_nf z2]
                  by_cases z1 : c = ecN (2 * q)
                  · rw [z1, up_eq, if_pos (Or.inl rfl)]
                  · rw [up_nf z1, if_neg (by omega)]
              have incq : ∀ c, inc q c = true ↔ (c = ecN (2 * q) ∨ c = ecN (2 * q + 1)) := fun c => by
                unfold inc
                rw [Bool.or_eq_true, decide_eq_true_eq, decide_eq_true_eq]
                constructor
                · rintro (z | z)
                  · exact Or.inl z.symm
                  · exact Or.inr z.symm
                · rintro (z | z)
                  · exact Or.inl z.symm
                  · exact Or.inr z.symm
              have nop : ∀ c, (c = ecN (2 * q) ∨ c = ecN (2 * q + 1)) → ∀ z, z < P → inc (pe z) c = false := fun c hc z hz => by
                cases hi : inc (pe z) c with
                | false => rfl
                | true =>
                  have hc54 : c < 54 := by rcases hc with w | w <;> omega
                  have e1 := P5 z c hz hc54 hi
                  have e2 : I 8 c = -1 := by rcases hc with w | w <;> rw [w] <;> assumption
                  rw [e2] at e1
                  have e3 := zz_nI_m1 (a := pk z) (by have := (P4 z hz).2.2.2; omega)
                  rw [← e1] at e3
                  simp at e3
              refine ⟨?_, ?_, by omega, fun z hz => ?_, fun z c hz hc hi => ?_, fun c hc hi => ?_⟩
              · rw [Xn1 5 3 (by decide) (by decide) (by decide), ← hI1, up_eq]
              · rw [← hX, up_eq]
              · by_cases w : z = P
                · subst w
                  simp only [if_true]
                  refine ⟨?_, by omega, ?_, by omega⟩
                  · rw [← hX, up_ne (by decide), up_ne (by decide), up_eq]
                  · rw [← hX, up_ne (by decide), up_eq]
                · simp only [w, if_false]
                  have e33 : X 33 z = I 33 z := by rw [← hX, up_ne (by decide), up_ne (by decide), up_nf w, up_ne (by decide), I1n 33 z (by omega) (by omega)]
                  have e34 : X 34 z = I 34 z := by rw [← hX, up_ne (by decide), up_nf w, up_ne (by decide), up_ne (by decide), I1n 34 z (by omega) (by omega)]
                  rw [e33, e34]
                  exact P4 z (by omega)
              · rw [x8]
                by_cases w : z = P
                · subst w
                  simp only [if_true] at hi ⊢
                  rw [if_pos ((incq c).mp hi)]
                · simp only [w, if_false] at hi ⊢
                  by_cases v : c = ecN (2 * q) ∨ c = ecN (2 * q + 1)
                  · have := nop c v z (by omega)
                    rw [this] at hi
                    cases hi
                  · rw [if_neg v]
                    exact P5 z c (by omega) hc hi
              · rw [x8]
                have hq' := hi P (by omega)
                simp only [if_true] at hq'
                rw [if_neg (fun v => by
                  have := (incq c).mpr v
                  rw [this] at hq'
                  cases hq')]
                refine P6 c hc (fun z hz => ?_)
                have := hi z (by omega)
                have w : ¬ z = P := by omega
                simp only [w, if_false] at this
                exact this
            · rw [Xn 5 9 (by omega) (by omega) (by omega) (by omega) (by omega), Xn 9 2 (by omega) (by omega) (by omega) (by omega) (by omega), Xn 5 6 (by omega) (by omega) (by omega) (by omega) (by omega), e24, show X 25 = I 25 from funext fun j => Xn 25 j (by omega) (by omega) (by omega) (by omega) (by omega)]
              rcases g13 with z | ⟨z1, z2, z3⟩
              · exact Or.inl z
              · exact Or.inr ⟨z1, z2, fun w => ⟨(z3 w).1.cong (fun b' j h1 h2 => Xn b' j (by omega) (by omega) (by omega) (by omega) (by omega)) (fun _ => rfl), (z3 w).2⟩⟩
        · refine Or.inr ⟨5, fun d n J ex => c2h (d := d + 17) hR.tb h09 P1 hP9 q r (by omega) (by omega) (fun z => hok ?_), by decide, _, OkM.ref' hR (fun d n J ex => ⟨false, c98n3 (d := d + 3) hR.tm h0 P2 hP9 (fun k hk => (P4 k hk).1) (fun k hk => (P4 k hk).2.1) q r (by omega) (by omega) hok⟩)⟩
          rw [hsh, hPq _ c1, hPq _ c2] at z
          exact z
    · exact Or.inr ⟨3, fun d n J ex => c2f (d := d + 17) h09 P1 P3 (by omega) e k, by decide, _, OkM.ref' hR (fun d n J ex => ⟨false, c98n1 (d := d + 3) e k (Or.inr (by rw [e9]; omega))⟩)⟩
  · exact Or.inr ⟨3, fun d n J ex => c2e (d := d + 17) (fun z => h0 (hC.ph.symm.trans z)) e k, by decide, _, OkM.ref' hR (fun d n J ex => ⟨false, c98n1 (d := d + 3) e k (Or.inl h0)⟩)⟩
end OO
