section OP
variable {d n t pc s : Nat} {I X I1 W A B : Nat → Nat → Int32} {J : Nat → Nat → Int64} {ex : List (Nat × Nat)} {y : Int64} {S : Nat → Int32}
theorem scan_congr {γ : Type} {c c' : Nat → Bool} {r : Nat → γ} {x x' : γ} (hx : x = x') : ∀ (n k : Nat), (∀ i, k ≤ i → i < k + n → c i = c' i) → zz_scan c r x n k = zz_scan c' r x' n k
  | 0, _, _ => hx
  | n + 1, k, h => by
    show (if c k = true then r k else zz_scan c r x n (k + 1)) = (if c' k = true then r k else zz_scan c' r x' n (k + 1))
    rw [h k (Nat.le_refl k) (by omega), scan_congr hx n (k + 1) (fun i h1 h2 => h i (by omega) (by omega))]
theorem plS_at : ∀ k, k ≤ 19 → zz_fold plS k 0 W 24 182 = zz_scan (fun h => decide (W 31 h = 5)) (fun h => nI h) (W 24 182) k (19 - k) ∧ ∀ b j, ¬ (b = 24 ∧ j = 182) → zz_fold plS k 0 W b j = W b j := fun k => by
  induction k with
  | zero => exact fun _ => ⟨rfl, fun _ _ _ => rfl⟩
  | succ k ih =>
    intro hk
    obtain ⟨i1, i2⟩ := ih (by omega)
    rw [zz_fold_succ, Nat.zero_add]
    generalize zz_fold plS k 0 W = Z at *
    unfold plS
    refine ⟨?_, fun b j hb => ?_⟩
    · rw [up_eq, i1, i2 31 (18 - k) (by omega), show 19 - (k + 1) = 18 - k by omega]
      show _ = (if decide (W 31 (18 - k) = 5) = true then nI (18 - k) else zz_scan (fun h => decide (W 31 h = 5)) (fun h => nI h) (W 24 182) k (18 - k + 1))
      rw [show 18 - k + 1 = 19 - k by omega]
      by_cases z : W 31 (18 - k) = 5
      · rw [if_pos z, if_pos (decide_eq_true z)]
      · rw [if_neg z, if_neg (by rw [decide_eq_false z]; decide)]
    · by_cases z : b = 24
      · rw [up_nf (fun w => hb ⟨z, w⟩), i2 b j hb]
      · rw [up_ne z, i2 b j hb]
theorem hRm_0 (h : ∀ e, e < 72 → I 24 e = 0) {c p : Nat} (hp : p < 4) : hRm I c p = false := by
  unfold hRm
  rw [fold_or_any, Bool.false_or]
  cases hz : zz_any (fun i => decide (I 24 i = nI (p + 1)) && (decide (ecN (2 * i) = c) || decide (ecN (2 * i + 1) = c))) 72 0 with
  | false => rfl
  | true =>
    obtain ⟨e, -, he, h1⟩ := (zz_any_iff 72 0).mp hz
    rw [Bool.and_eq_true, decide_eq_true_eq, h e (by omega)] at h1
    have := (zz_nI_eq (a := 0) (b := p + 1) (by omega) (by omega)).mp h1.1
    omega
theorem chm_0 (h : ∀ e, e < 72 → I 24 e = 0) {p : Nat} (hp : p < 4) : chm I p = 0 := by
  have hc : ∀ c, chC I p c = 0 := fun c => by
    unfold chC
    rw [hRm_0 h hp]
    rfl
  have : ∀ m, zz_fold (fun c a => if a < chC I p c then chC I p c else a) m 0 0 = 0 := fun m => by
    induction m with
    | zero => rfl
    | succ m ih => rw [zz_fold_succ, ih, hc, if_neg (by omega)]
  exact this 54
theorem awM_0 (h : ∀ e, e < 72 → I 24 e = 0) (hpc : pc ≤ 4) : awM I pc = -1 := by
  have hm : ∀ k, k ≤ 4 → (zz_fold (mwS I) k 0 (0, -1)).1 = 0 := fun k => by
    induction k with
    | zero => exact fun _ => rfl
    | succ k ih =>
      intro hk
      rw [zz_fold_succ, Nat.zero_add]
      unfold mwS at ih ⊢
      rw [ih (by omega), chm_0 h (by omega)]
      rfl
  unfold awM
  rw [if_pos (by
    have := hm pc hpc
    unfold mW
    omega)]
theorem op_players (a tg : Int32) : Opr 4 [.int a, .int tg] 100 [.int a, .int tg] (fun e => if e = 3 then 1 else if e = 4 then 2 else 0) := fun I y hR => by
  obtain ⟨pc, h5, h15, hpc, hC⟩ := hR.plc
  by_cases h0 : I 24 180 = 0
  · have h09 : I 9 0 = 0 := hC.ph.trans h0
    by_cases hb : 2 ≤ a ∧ a ≤ 4 ∧ 3 ≤ tg ∧ tg ≤ 12
    · obtain ⟨b1, b2, b3, b4⟩ := hb
      have hRR := hR
      obtain ⟨g1, g2, ⟨gd, nm, g3⟩, ⟨P, pe, pk, g4⟩, g5, g6, g7, g8, pc', g9, g10, g11, g12, g13⟩ := hRR
      have hL : I 9 2 = 0 ∧ I 5 9 = 0 ∧ L0 (I 24) := by
        rcases g13 with ⟨⟨-, z0⟩, z1, z2⟩ | ⟨-, ⟨N, f, t, D, x, -, -, a3, -⟩, -⟩
        · exact ⟨z0, z1, z2⟩
        · have := a3.1
          rw [h0] at this
          have := (zz_nI_eq (a := 0) (b := f) (by omega) (by have := a3.2.2.1; omega)).mp this
          have := a3.2.1
          omega
      obtain ⟨hL2, hL9, l1, l180, l181, l182, l183, l184, l185, l186, l187, l188, l189, l190, l191, l192⟩ := hL
      obtain ⟨p, hp2, hp4, rfl⟩ : ∃ p, 2 ≤ p ∧ p ≤ 4 ∧ a = nI p := by
        rw [Int32.le_iff_toInt_le, show (2 : Int32).toInt = 2 from rfl] at b1
        rw [Int32.le_iff_toInt_le, show (4 : Int32).toInt = 4 from rfl] at b2
        exact ⟨a.toInt.toNat, by omega, by omega, by apply Int32.toInt_inj.mp; rw [nI_toInt (by omega)]; omega⟩
      generalize hI1 : zz_up (zz_up (zz_up (zz_up (zz_up I 5 5 (nI p)) 5 6 tg) 9 4 (fBar I)) 9 1 0) 9 0 1 = I1
      have I1n : ∀ b j, ¬ (b = 5 ∧ (j = 5 ∨ j = 6)) → ¬ (b = 9 ∧ (j = 0 ∨ j = 1 ∨ j = 4)) → I1 b j = I b j := fun b j h1 h2 => by
        rw [← hI1]
        by_cases z : b = 9
        · subst z
          rw [up_nf (by omega), up_nf (by omega), up_nf (by omega), up_ne (by decide), up_ne (by decide)]
        · rw [up_ne z, up_ne z, up_ne z]
          by_cases w : b = 5
          · subst w
            rw [up_nf (by omega), up_nf (by omega)]
          · rw [up_ne w, up_ne w]
      refine Or.inl ⟨I1, none, fun d n J ex _ => ⟨false, ?_⟩, fun d n J ex => ⟨_, false, c100a (d := d + 5) (I := I1) (by rw [I1n _ _ (by omega) (by omega), h0]) (nI p) tg b1 b2 b3 b4, ?_, ?_⟩⟩
      · rw [← hI1]
        exact c4a (d := d + 18) h09 (nI p) tg b1 b2 b3 b4
      · rw [(plS_at 19 (Nat.le_refl 19)).2 23 0 (by omega)]
        unfold plW
        rw [up_ne (by decide), up_ne (by decide), up_nf (by decide), up_nf (by decide), up_eq]
      · obtain ⟨q1, q2⟩ := plS_at (W := plW I1 (nI p) tg) 19 (Nat.le_refl 19)
        generalize hX : zz_fold plS 19 0 (plW I1 (nI p) tg) = X at *
        have pw : ∀ b j, ¬ (b = 23 ∧ (j = 0 ∨ j = 15 ∨ j = 16)) → ¬ (b = 24 ∧ (j = 180 ∨ j = 181)) → plW I1 (nI p) tg b j = I1 b j := fun b j h1 h2 => by
          unfold plW
          by_cases z : b = 24
          · subst z
            rw [up_nf (by omega), up_nf (by omega), up_ne (by decide), up_ne (by decide), up_ne (by decide)]
          · rw [up_ne z, up_ne z]
            by_cases w : b = 23
            · subst w
              rw [up_nf (by omega), up_nf (by omega), up_nf (by omega)]
            · rw [up_ne w, up_ne w, up_ne w]
        have Xn : ∀ b j, ¬ b = 24 → ¬ (b = 23 ∧ (j = 0 ∨ j = 15 ∨ j = 16)) → ¬ (b = 5 ∧ (j = 5 ∨ j = 6)) → ¬ (b = 9 ∧ (j = 0 ∨ j = 1 ∨ j = 4)) → X b j = I b j := fun b j h1 h2 h3 h4 => by rw [q2 b j (by omega), pw b j h2 (by omega), I1n b j h3 h4]
        have x24 : ∀ j, ¬ j = 180 → ¬ j = 181 → ¬ j = 182 → X 24 j = I 24 j := fun j j1 j2 j3 => by rw [q2 24 j (by omega), pw 24 j (by omega) (by omega), I1n 24 j (by omega) (by omega)]
        have x180 : X 24 180 = 1 := by
          rw [q2 24 180 (by omega)]
          unfold plW
          rw [up_nf (by decide), up_eq]
        have x181 : X 24 181 = 0 := by
          rw [q2 24 181 (by omega)]
          unfold plW
          rw [up_eq]
        have x182 : X 24 182 = fBar I := by
          rw [q1]
          unfold fBar
          refine scan_congr ?_ 19 0 (fun h _ hh => ?_)
          · rw [pw 24 182 (by omega) (by omega), I1n 24 182 (by omega) (by omega), l182]
          · rw [pw 31 h (by omega) (by omega), I1n 31 h (by omega) (by omega), (g3 h (by omega)).2.2.1, (g3 h (by omega)).1]
        have x55 : X 5 5 = nI p := by rw [q2 5 5 (by omega), pw 5 5 (by omega) (by omega), ← hI1, up_ne (by decide), up_ne (by decide), up_ne (by decide), up_nf (by decide), up_eq]
        have x56 : X 5 6 = tg := by rw [q2 5 6 (by omega), pw 5 6 (by omega) (by omega), ← hI1, up_ne (by decide), up_ne (by decide), up_ne (by decide), up_eq]
        have x2315 : X 23 15 = nI p := by
          rw [q2 23 15 (by omega)]
          unfold plW
          rw [up_ne (by decide), up_ne (by decide), up_nf (by decide), up_eq]
        have x2316 : X 23 16 = tg := by
          rw [q2 23 16 (by omega)]
          unfold plW
          rw [up_ne (by decide), up_ne (by decide), up_eq]
        have x59 : X 5 9 = 0 := by rw [Xn 5 9 (by omega) (by omega) (by omega) (by omega), hL9]
        have e24 : X 24 = sup (sup (sup (I 24) 182 (fBar I)) 181 0) 180 1 := by
          funext j
          by_cases j1 : j = 180
          · subst j1
            rw [x180, sup_eq]
          · rw [sup_ne j1]
            by_cases j2 : j = 181
            · subst j2
              rw [x181, sup_eq]
            · rw [sup_ne j2]
              by_cases j3 : j = 182
              · subst j3
                rw [x182, sup_eq]
              · rw [sup_ne j3, x24 j j1 j2 j3]
        have hCI : Cst I1 9 (X 24) := by
          rw [e24, ← hI1]
          have hC0 : Cst (zz_up (zz_up I 5 5 (nI p)) 5 6 tg) 9 (I 24) := hC.cong (fun b j h1 h2 => by rw [up_ne (by omega), up_ne (by omega)]) (fun _ => rfl)
          exact ((hC0.v4 (fBar I)).v1 0).v0 1 (fun z => absurd z (by decide)) (fun z => absurd z (by decide)) (fun _ => by
            rw [up_nf (by decide), up_nf (by decide), up_ne (by decide), up_ne (by decide), hL2, sup_ne (by omega), sup_ne (by omega), l191]) (fun z => absurd z (by decide))
        refine ⟨g1.cong (fun b' j hb => Xn b' j (by omega) (by omega) (by omega) (by omega)), g2.cong2 (fun b' j hb => Xn b' j (by omega) (by omega) (by omega) (by omega)), ⟨gd, nm, g3.cong (fun b' j hb => Xn b' j (by omega) (by omega) (by omega) (by omega))⟩, ⟨P, pe, pk, g4.cong (fun b' j hb => Xn b' j (by omega) (by omega) (by omega) (by omega)) (Xn _ _ (by omega) (by omega) (by omega) (by omega)) (Xn _ _ (by omega) (by omega) (by omega) (by omega))⟩, fun k hk => by rw [Xn _ _ (by omega) (by omega) (by omega) (by omega)]; exact g5 k hk, Or.inl x59, by rw [Xn 23 3 (by omega) (by omega) (by omega) (by omega), x59, g7, hL9], by rw [x2316, x56], p, x55, x2315, hp4, hCI.cong (fun b' j h1 h2 => by rw [q2 b' j (by omega), pw b' j (by omega) (by omega)]) (fun _ => rfl), Or.inr ⟨hp2, ?_, fun w => by rw [x59] at w; exact absurd w (by decide)⟩⟩
        rw [x56]
        have hN : ∀ j, j < 180 → X 24 j = nI ((fun j => if 146 ≤ j ∧ j < 151 then 19 else 0) j) := fun j hj => by rw [x24 j (by omega) (by omega) (by omega)]; exact l1 j hj
        have hz : ∀ j, ¬ (146 ≤ j ∧ j < 151) → (fun j => if 146 ≤ j ∧ j < 151 then 19 else 0) j = 0 := fun j hj => if_neg hj
        have hz2 : ∀ j, 146 ≤ j → j < 151 → (fun j => if 146 ≤ j ∧ j < 151 then 19 else 0) j = 19 := fun j h1 h2 => if_pos ⟨h1, h2⟩
        generalize hNe : (fun j => if 146 ≤ j ∧ j < 151 then 19 else 0) = N at *
        have hr0 : ∀ q, roadN N q = 0 := fun q => by
          unfold roadN
          have : ∀ m, m ≤ 72 → cN (fun e => decide (N e = q + 1)) m = 0 := fun m => by
            induction m with
            | zero => exact fun _ => rfl
            | succ m ih =>
              intro hm
              rw [cN_s, ih (by omega), hz m (by omega), decide_eq_false (by omega)]
              rfl
          exact this 72 (Nat.le_refl 72)
        have hh0 : ∀ q, hutN N q = 0 := fun q => by
          unfold hutN
          have : ∀ m, m ≤ 54 → cN (fun c => decide (N (72 + c) = q + 1)) m = 0 := fun m => by
            induction m with
            | zero => exact fun _ => rfl
            | succ m ih =>
              intro hm
              rw [cN_s, ih (by omega), hz (72 + m) (by omega), decide_eq_false (by omega)]
              rfl
          exact this 54 (Nat.le_refl 54)
        refine ⟨N, 1, 0, 0, 0, hN, ⟨fun e he => by rw [hz e (by omega)]; omega, fun c hc => by rw [hz _ (by omega)]; exact Or.inl rfl, fun g hg => by rw [hz _ (by omega), hz _ (by omega), hz _ (by omega), hz _ (by omega), hz2 _ (by omega) (by omega)], fun j j1 j2 => by rw [hz j (by omega)]; omega, fun j j1 j2 => by rw [hz j (by omega)]; omega, fun q hq => by rw [hr0]; omega⟩, ⟨x180, by decide, by decide, x181, by omega, ?_, by decide, ?_, ?_, ?_, ?_, ?_, by omega⟩, ⟨fun _ => ⟨by omega, ?_⟩, fun z => absurd z (by decide), fun _ => ⟨fun q hq => ⟨by rw [hh0]; omega, by rw [hr0]; omega⟩, fun g hg => by rw [hz2 _ (by omega) (by omega)]; omega⟩⟩, ?_, fun z => absurd z (by decide)⟩
        · rw [x24 _ (by omega) (by omega) (by omega), l183]; rfl
        · rw [x24 _ (by omega) (by omega) (by omega)]; exact Or.inl l184
        · rw [x24 _ (by omega) (by omega) (by omega)]; exact Or.inl l186
        · rw [x24 _ (by omega) (by omega) (by omega)]; exact Or.inl l189
        · rw [x24 _ (by omega) (by omega) (by omega), l190, if_neg (by decide)]
        · rw [x24 _ (by omega) (by omega) (by omega), l191]; rfl
        · unfold ord
          rw [if_pos (by omega)]
        · unfold Vaw
          rw [awM_0 (I := fun _ => X 24) (fun e he => by
            show X 24 e = 0
            rw [hN e (by omega), hz e (by omega)]
            rfl) hp4, x24 _ (by omega) (by omega) (by omega), l189]
    · refine Or.inr ⟨4, fun d n J ex => c4f (d := d + 18) h09 a tg hb, by decide, none, OkM.ref' hR (fun d n J ex => ⟨false, ?_⟩)⟩
      have := c100n (d := d + 5) (n := n) (J := J) (ex := ex) (I := I) a tg (Or.inr hb)
      rw [if_pos h0] at this
      exact this
  · refine Or.inr ⟨3, fun d n J ex => c4e (d := d + 18) (fun z => h0 (hC.ph.symm.trans z)) a tg, by decide, none, OkM.ref' hR (fun d n J ex => ⟨false, ?_⟩)⟩
    have := c100n (d := d + 5) (n := n) (J := J) (ex := ex) (I := I) a tg (Or.inl h0)
    rw [if_neg h0] at this
    exact this
end OP
