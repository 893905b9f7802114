theorem and15 (x : Int32) : ∃ b, b < 16 ∧ x &&& 15 = nI b := by
  refine ⟨x.toBitVec.toNat % 16, by omega, ?_⟩
  apply Int32.toBitVec_inj.mp
  apply BitVec.eq_of_toNat_eq
  rw [Int32.toBitVec_and, BitVec.toNat_and]
  have e1 : (15 : Int32).toBitVec.toNat = 2 ^ 4 - 1 := by decide
  rw [e1, Nat.and_two_pow_sub_one_eq_mod]
  have : (nI (x.toBitVec.toNat % 16)).toBitVec.toNat = x.toBitVec.toNat % 16 := by
    show (BitVec.ofNat 32 (x.toBitVec.toNat % 16)).toNat = _
    rw [BitVec.toNat_ofNat]
    omega
  rw [this]
section O6
variable {d n t pc s : Nat} {I X I1 W : Nat → Nat → Int32} {J : Nat → Nat → Int64} {ex : List (Nat × Nat)} {y : Int64} {S : Nat → Int32}
theorem mvF_at {c : Nat → Int32} {f t : Nat} (hft : ¬ f = t) (hf : f < 5) (ht : t < 5) : ∀ k, k ≤ 5 → (∀ j, ¬ (126 ≤ j ∧ j < 151) → zz_fold (fun g s => mvS s f t g (c g)) k 0 S j = S j) ∧ (∀ h g, h < 5 → g < 5 → zz_fold (fun g s => mvS s f t g (c g)) k 0 S (126 + (h * 5 + g)) = if g < k ∧ h = f then S (126 + (h * 5 + g)) - c g else if g < k ∧ h = t then S (126 + (h * 5 + g)) + c g else S (126 + (h * 5 + g))) := fun k => by
  induction k with
  | zero =>
    intro _
    refine ⟨fun _ _ => rfl, fun h g _ _ => ?_⟩
    rw [if_neg (by omega), if_neg (by omega)]
    rfl
  | succ k ih =>
    intro hk
    obtain ⟨i1, i2⟩ := ih (by omega)
    rw [zz_fold_succ, Nat.zero_add]
    generalize zz_fold (fun g s => mvS s f t g (c g)) k 0 S = Z at *
    refine ⟨fun j hj => by rw [mvS_ne (by omega) (by omega)]; exact i1 j hj, fun h g hh hg => ?_⟩
    rw [mvS_fn (s' := S) hft hf ht (by omega)]
    by_cases zg : g = k
    · subst zg
      by_cases zt : h = t
      · subst zt
        rw [sup_eq, i2 h g hh hg, if_neg (by omega), if_neg (by omega), if_neg (by omega), if_pos ⟨by omega, rfl⟩]
      · rw [sup_ne (by omega)]
        by_cases zf : h = f
        · subst zf
          rw [sup_eq, i2 h g hh hg, if_neg (by omega), if_neg (by omega), if_pos ⟨by omega, rfl⟩]
        · rw [sup_ne (by omega), i2 h g hh hg, if_neg (by omega), if_neg (by omega), if_neg (by omega), if_neg (by omega)]
    · rw [sup_ne (by omega), sup_ne (by omega), i2 h g hh hg]
      by_cases z1 : g < k ∧ h = f
      · rw [if_pos z1, if_pos (show g < k + 1 ∧ h = f from ⟨by omega, z1.2⟩)]
      · rw [if_neg z1, if_neg (show ¬ (g < k + 1 ∧ h = f) by omega)]
        by_cases z2 : g < k ∧ h = t
        · rw [if_pos z2, if_pos (show g < k + 1 ∧ h = t from ⟨by omega, z2.2⟩)]
        · rw [if_neg z2, if_neg (show ¬ (g < k + 1 ∧ h = t) by omega)]
def acT (p q : Nat) (a b : Int32) (g : Nat) (S : Nat → Int32) : Nat → Int32 := sup (sup S (126 + (p * 5 + g)) (S (126 + (p * 5 + g)) + (mBt b g - mBt a g))) (126 + (q * 5 + g)) (sup S (126 + (p * 5 + g)) (S (126 + (p * 5 + g)) + (mBt b g - mBt a g)) (126 + (q * 5 + g)) + (mBt a g - mBt b g))
theorem acS_24 {p q : Nat} {a b : Int32} {Y : Nat → Nat → Int32} : ∀ k, k ≤ 5 → zz_fold (acS p q a b) k 0 Y 24 = zz_fold (acT p q a b) k 0 (Y 24) ∧ ∀ b' j, ¬ b' = 24 → zz_fold (acS p q a b) k 0 Y b' j = Y b' j := fun k => by
  induction k with
  | zero => exact fun _ => ⟨rfl, fun _ _ _ => rfl⟩
  | succ k ih =>
    intro hk
    obtain ⟨i1, i2⟩ := ih (by omega)
    rw [zz_fold_succ, zz_fold_succ, Nat.zero_add, ← i1]
    unfold acS acT at *
    refine ⟨?_, fun b' j hb => ?_⟩
    · rw [up_sup, up_sup, show 126 + 5 * p + k = 126 + (p * 5 + k) by omega, show 126 + 5 * q + k = 126 + (q * 5 + k) by omega]
    · rw [up_ne hb, up_ne hb]
      exact i2 b' j hb
theorem acT_at {p q : Nat} {a b : Int32} (hpq : ¬ p = q) (hp : p < 4) (hq : q < 4) : ∀ k, k ≤ 5 → (∀ j, ¬ (126 ≤ j ∧ j < 151) → zz_fold (acT p q a b) k 0 S j = S j) ∧ (∀ h g, h < 5 → g < 5 → zz_fold (acT p q a b) k 0 S (126 + (h * 5 + g)) = if g < k ∧ h = p then S (126 + (h * 5 + g)) + (mBt b g - mBt a g) else if g < k ∧ h = q then S (126 + (h * 5 + g)) + (mBt a g - mBt b g) else S (126 + (h * 5 + g))) := fun k => by
  induction k with
  | zero =>
    intro _
    refine ⟨fun _ _ => rfl, fun h g _ _ => ?_⟩
    rw [if_neg (by omega), if_neg (by omega)]
    rfl
  | succ k ih =>
    intro hk
    obtain ⟨i1, i2⟩ := ih (by omega)
    rw [zz_fold_succ, Nat.zero_add]
    generalize zz_fold (acT p q a b) k 0 S = Z at *
    unfold acT
    refine ⟨fun j hj => by rw [sup_ne (by omega), sup_ne (by omega)]; exact i1 j hj, fun h g hh hg => ?_⟩
    rw [sup_ne (j := 126 + (q * 5 + k)) (by omega)]
    by_cases zg : g = k
    · subst zg
      by_cases zt : h = q
      · subst zt
        rw [sup_eq, i2 h g hh hg, if_neg (by omega), if_neg (by omega), if_neg (by omega), if_pos ⟨by omega, rfl⟩]
      · rw [sup_ne (by omega)]
        by_cases zf : h = p
        · subst zf
          rw [sup_eq, i2 h g hh hg, if_neg (by omega), if_neg (by omega), if_pos ⟨by omega, rfl⟩]
        · rw [sup_ne (by omega), i2 h g hh hg, if_neg (by omega), if_neg (by omega), if_neg (by omega), if_neg (by omega)]
    · rw [sup_ne (by omega), sup_ne (by omega), i2 h g hh hg]
      by_cases z1 : g < k ∧ h = p
      · rw [if_pos z1, if_pos (show g < k + 1 ∧ h = p from ⟨by omega, z1.2⟩)]
      · rw [if_neg z1, if_neg (show ¬ (g < k + 1 ∧ h = p) by omega)]
        by_cases z2 : g < k ∧ h = q
        · rw [if_pos z2, if_pos (show g < k + 1 ∧ h = q from ⟨by omega, z2.2⟩)]
        · rw [if_neg z2, if_neg (show ¬ (g < k + 1 ∧ h = q) by omega)]
theorem inB_mBt (b : Int32) (g : Nat) : inB b g = mBt b g := by
  unfold inB mBt
  rw [Nat.mul_comm]
def mBS (S : Nat → Int32) (f t : Nat) (b : Int32) : Nat → Int32 := zz_fold (fun g s => mvS s f t g (inB b g)) 5 0 S
theorem r_mvB (h : Cst I 9 S) {f t : Nat} (hf : f < 5) (ht : t < 5) (b : Int32) : Cst (mvB I f t b) 9 (mBS S f t b) := by
  unfold mvB mBS
  exact fold_rel' (P := fun (A : Nat → Nat → Int32) (b : Nat → Int32) => Cst A 9 b) 5 0 I S (fun g A b' _ hg hP => hP.mv hf ht (by omega) _) h
theorem mvB_nf {f t a j : Nat} {b : Int32} (h : ¬ a = 12) : mvB I f t b a j = I a j := by
  unfold mvB mv
  simp only [zz_fold, up_ne h]
theorem ac_eq {p q : Nat} {a b : Int32} (hp : p < 4) (hq : q < 4) : sup (zz_fold (acT p q a b) 5 0 S) 186 (-1) = mBS (mBS (sup S 186 (-1)) p q a) q p b := by
  by_cases hpq : p = q
  · subst hpq
    have e1 : ∀ (Z : Nat → Int32) b, mBS Z p p b = Z := fun Z b => by
      unfold mBS
      have : ∀ k, zz_fold (fun g s => mvS s p p g (inB b g)) k 0 Z = Z := fun k => by
        induction k with
        | zero => rfl
        | succ k ih =>
          rw [zz_fold_succ, ih]
          funext j
          unfold mvS
          rw [sup_eq, Int32.sub_add_cancel]
          by_cases z : j = 126 + (p * 5 + (0 + k))
          · subst z
            rw [sup_eq]
          · rw [sup_ne z, sup_ne z]
      exact this 5
    have e2 : ∀ k, zz_fold (acT p p a b) k 0 S = S := fun k => by
      induction k with
      | zero => rfl
      | succ k ih =>
        rw [zz_fold_succ, ih]
        funext j
        unfold acT
        rw [sup_eq, Int32.add_assoc, show (mBt b (0 + k) - mBt a (0 + k)) + (mBt a (0 + k) - mBt b (0 + k)) = 0 by
          rw [Int32.sub_eq_add_neg, Int32.sub_eq_add_neg, Int32.add_assoc, ← Int32.add_assoc (-mBt a (0 + k)), Int32.add_left_neg, Int32.zero_add, Int32.add_right_neg], Int32.add_zero]
        by_cases z : j = 126 + (p * 5 + (0 + k))
        · subst z
          rw [sup_eq]
        · rw [sup_ne z, sup_ne z]
    rw [e1, e1, e2]
  · funext j
    obtain ⟨m1, m2⟩ := acT_at (S := S) (a := a) (b := b) hpq hp hq 5 (Nat.le_refl 5)
    obtain ⟨k1, k2⟩ := mvF_at (S := sup S 186 (-1)) (c := fun g => inB a g) hpq (by omega) (by omega) 5 (Nat.le_refl 5)
    obtain ⟨l1, l2⟩ := mvF_at (S := mBS (sup S 186 (-1)) p q a) (c := fun g => inB b g) (fun z => hpq z.symm) (by omega) (by omega) 5 (Nat.le_refl 5)
    by_cases hj : 126 ≤ j ∧ j < 151
    · obtain ⟨h, g, hh, hg, rfl⟩ : ∃ h g, h < 5 ∧ g < 5 ∧ j = 126 + (h * 5 + g) := ⟨(j - 126) / 5, (j - 126) % 5, by omega, by omega, by omega⟩
      rw [sup_ne (by omega), m2 h g hh hg]
      show _ = zz_fold (fun g s => mvS s q p g (inB b g)) 5 0 (mBS (sup S 186 (-1)) p q a) (126 + (h * 5 + g))
      rw [l2 h g hh hg]
      have k2' : mBS (sup S 186 (-1)) p q a (126 + (h * 5 + g)) = _ := k2 h g hh hg
      rw [k2', sup_ne (by omega), inB_mBt, inB_mBt]
      by_cases z1 : h = p
      · subst z1
        rw [if_pos ⟨hg, rfl⟩, if_neg (by omega), if_pos ⟨hg, rfl⟩, if_pos ⟨hg, rfl⟩, Int32.sub_eq_add_neg, Int32.sub_eq_add_neg, Int32.add_assoc, Int32.add_comm (mBt b g)]
      · rw [if_neg (by omega), if_neg (show ¬ (g < 5 ∧ h = p) by omega), if_neg (show ¬ (g < 5 ∧ h = p) by omega)]
        by_cases z2 : h = q
        · subst z2
          rw [if_pos ⟨hg, rfl⟩, if_pos ⟨hg, rfl⟩, if_pos ⟨hg, rfl⟩, Int32.sub_eq_add_neg, Int32.sub_eq_add_neg, Int32.add_assoc]
        · rw [if_neg (by omega), if_neg (by omega), if_neg (by omega)]
    · show _ = zz_fold (fun g s => mvS s q p g (inB b g)) 5 0 (mBS (sup S 186 (-1)) p q a) j
      rw [l1 j hj]
      have k1' : mBS (sup S 186 (-1)) p q a j = _ := k1 j hj
      rw [k1']
      by_cases z : j = 186
      · subst z
        rw [sup_eq, sup_eq]
      · rw [sup_ne z, sup_ne z, m1 j hj]
theorem ac_val (a b : Int32) : szB a + szB b = acN a b := by
  unfold szB acN
  rw [← fold_add2]
  refine zz_fold_congr 5 0 0 (fun g z _ _ => ?_)
  rw [inB_mBt, inB_mBt, Int32.add_assoc]
theorem hBm_le {N : Nat → Nat} {D p : Nat} (a1 : ∀ j, j < 180 → I 24 j = nI (N j)) (a2 : Vn pc D N) (hp : p < 4) {b : Int32} (h : hBm I p b = true) : ∃ cn : Nat → Nat, ∀ g, g < 5 → inB b g = nI (cn g) ∧ cn g ≤ N (126 + (p * 5 + g)) := by
  refine ⟨fun g => (mBt b g).toNatClampNeg, fun g hg => ?_⟩
  obtain ⟨c, hc, e⟩ := and15 (b >>> (nI (4 * g) &&& 31))
  have e' : mBt b g = nI c := e
  unfold hBm at h
  rw [fold_and_any, Bool.true_and, Bool.not_eq_true'] at h
  have h2 : decide (((b >>> (nI (4 * g) &&& 31)) &&& 15) ≤ I 24 (126 + 5 * p + g)) = true := by
    cases hz : decide (((b >>> (nI (4 * g) &&& 31)) &&& 15) ≤ I 24 (126 + 5 * p + g)) with
    | true => rfl
    | false =>
      have := (zz_any_iff (c := fun g => !decide (((b >>> (nI (4 * g) &&& 31)) &&& 15) ≤ I 24 (126 + 5 * p + g))) 5 0).mpr ⟨g, by omega, by omega, by rw [hz]; rfl⟩
      rw [h] at this
      cases this
  have h3 := of_decide_eq_true h2
  have hh := V_hand a2 (j := 126 + (p * 5 + g)) (by omega) (by omega)
  rw [e, show 126 + 5 * p + g = 126 + (p * 5 + g) by omega, a1 _ (by omega)] at h3
  show inB b g = nI (mBt b g).toNatClampNeg ∧ (mBt b g).toNatClampNeg ≤ N (126 + (p * 5 + g))
  rw [inB_mBt, e', zz_nI_ix (by omega)]
  exact ⟨rfl, (zz_nI_le (by omega) (by omega)).mp h3⟩
theorem op_accept : Opr 11 [] 137 [] (fun e => if e = 3 then 1 else 0) := fun I y hR => by
  obtain ⟨pc, h5, h15, hpc, hC⟩ := hR.plc
  by_cases h6 : I 24 180 = 6
  · obtain ⟨pc, N, t, D, x, h5, h15, hp2, hpc, hC, a1, a2, a3, a4, a5, a6⟩ := hR.ph_dat (k := 6) (by decide) (by decide) h6
    have h69 : I 9 0 = 6 := hC.ph.trans h6
    have ht : I 24 181 = nI t := a3.2.2.2.1
    have ht9 : I 9 1 = nI t := hC.on.trans ht
    have ht4 : t < pc := a3.2.2.2.2.1
    rcases a3.2.2.2.2.2.2.2.2.1 with ho | ⟨q, hq, ho⟩
    · exact Or.inr ⟨3, fun d n J ex => c11f (d := d + 17) h69 (hC.of.trans ho), by decide, _, OkM.ref' hR (fun d n J ex => ⟨false, c137n (d := d) (Or.inr (Or.inl ho))⟩)⟩
    · have ho9 : I 9 7 = nI q := hC.of.trans ho
      have e1 := r_hB hC (p := t) (by omega) (I 9 8)
      have e2 := r_hB hC (p := q) (by omega) (I 9 9)
      have g8 := hC.gi
      have g9 := hC.ge
      cases hb : (hBm I t (I 24 187) && hBm I q (I 24 188)) with
      | false =>
        exact Or.inr ⟨3, fun d n J ex => c11g (d := d + 17) h69 ho9 (by omega) ht9 (by omega) (by rw [e1, e2, g8, g9]; exact hb), by decide, _, OkM.ref' hR (fun d n J ex => ⟨false, c137n (d := d) (Or.inr (Or.inr ⟨t, q, by omega, by omega, ht, ho, hb⟩))⟩)⟩
      | true =>
        rw [Bool.and_eq_true] at hb
        obtain ⟨b1, b2⟩ := hb
        have hI : ∀ b' j, ¬ (9 ≤ b' ∧ b' ≤ 15) → mvB (mvB (zz_up (rmb I) 9 7 (-1)) t q (I 24 187)) q t (I 24 188) b' j = rmb I b' j := fun b' j hb => by rw [mvB_nf (by omega), mvB_nf (by omega), up_ne (by omega)]
        have hCI := r_mvB (r_mvB (hC.rmb.v7 (-1)) (f := t) (t := q) (by omega) (by omega) (I 24 187)) (f := q) (t := t) (by omega) (by omega) (I 24 188)
        generalize hI1 : mvB (mvB (zz_up (rmb I) 9 7 (-1)) t q (I 24 187)) q t (I 24 188) = I1 at *
        have m := f_c4 hI
        obtain ⟨s1, s2⟩ := acS_24 (p := t) (q := q) (a := I1 24 187) (b := I1 24 188) (Y := rmM I1) 5 (Nat.le_refl 5)
        have hW24 : acM I1 t q 24 = mBS (mBS (sup (I 24) 186 (-1)) t q (I 24 187)) q t (I 24 188) := by
          unfold acM
          rw [up_sup, s1, f_r24 hI, m 24 187 (by omega), m 24 188 (by omega), ac_eq (by omega) (by omega)]
        have hv : Vst pc (I 5 6) (mBS (mBS (sup (I 24) 186 (-1)) t q (I 24 187)) q t (I 24 188)) := by
          obtain ⟨cA, hA⟩ := hBm_le a1 a2 (p := t) (by omega) b1
          obtain ⟨cB, hB'⟩ := hBm_le a1 a2 (p := q) (by omega) b2
          have fin : ∀ (S' : Nat → Int32) (N' : Nat → Nat), (∀ j, j < 180 → S' j = nI (N' j)) → Vn pc D N' → (∀ j, ¬ (126 ≤ j ∧ j < 151) → S' j = sup (I 24) 186 (-1) j) → Vst pc (I 5 6) S' := fun S' N' r v sn => by
            have sn' : ∀ j, ¬ (126 ≤ j ∧ j < 151) → ¬ j = 186 → S' j = I 24 j := fun j j1 j2 => by rw [sn j j1, sup_ne j2]
            exact Vst.qg (f' := 6) a3 a5 a6 (by decide) (by decide) r v (by rw [sn' _ (by omega) (by omega), h6]; rfl) (by decide) (by decide) (by rw [sn' _ (by omega) (by omega)]; exact a3.2.2.2.2.2.1) a3.2.2.2.2.2.2.1 (by rw [sn' _ (by omega) (by omega)]; exact a3.pl) (Or.inl (by rw [sn _ (by omega), sup_eq])) (fun j hj => sn' j (by omega) (by omega)) (sn' _ (by omega) (by omega)) (sn' _ (by omega) (by omega)) (sn' _ (by omega) (by omega)) (sn' _ (by omega) (by omega)) (sn' _ (by omega) (by omega))
          have r0 := rep_sup2 a1 (i := 186) (x := -1) (by omega)
          by_cases htq : t = q
          · subst htq
            have e0 := ac_eq (S := I 24) (a := I 24 187) (b := I 24 188) (p := t) (q := t) (by omega) (by omega)
            rw [← e0]
            have e3 : ∀ k, zz_fold (acT t t (I 24 187) (I 24 188)) k 0 (I 24) = I 24 := fun k => by
              induction k with
              | zero => rfl
              | succ k ih =>
                rw [zz_fold_succ, ih]
                funext j
                unfold acT
                rw [sup_eq, Int32.add_assoc, show (mBt (I 24 188) (0 + k) - mBt (I 24 187) (0 + k)) + (mBt (I 24 187) (0 + k) - mBt (I 24 188) (0 + k)) = 0 by
                  rw [Int32.sub_eq_add_neg, Int32.sub_eq_add_neg, Int32.add_assoc, ← Int32.add_assoc (-mBt (I 24 187) (0 + k)), Int32.add_left_neg, Int32.zero_add, Int32.add_right_neg], Int32.add_zero]
                by_cases z : j = 126 + (t * 5 + (0 + k))
                · subst z
                  rw [sup_eq]
                · rw [sup_ne z, sup_ne z]
            rw [e3]
            exact fin _ N r0 a2 (fun _ _ => rfl)
          · obtain ⟨N1, v1, v2, v3, v4, v5, v6⟩ := mvF_V (s := sup (I 24) 186 (-1)) (f := t) (t := q) (c := fun g => inB (I 24 187) g) (cn := cA) (by omega) (by omega) htq r0 a2 (fun g hg => hA g hg) 5 (Nat.le_refl 5)
            obtain ⟨N2, w1, w2, w3, w4, w5, w6⟩ := mvF_V (s := mBS (sup (I 24) 186 (-1)) t q (I 24 187)) (f := q) (t := t) (c := fun g => inB (I 24 188) g) (cn := cB) (by omega) (by omega) (fun z => htq z.symm) v1 v2 (fun g hg => ⟨(hB' g hg).1, by have := (hB' g hg).2; have := v5 g hg; omega⟩) 5 (Nat.le_refl 5)
            exact fin _ N2 w1 w2 (fun j hj => (w6 j hj).trans (v6 j hj))
        refine Or.inl ⟨I1, some (.int (acN (I 24 187) (I 24 188))), fun d n J ex _ => ⟨false, ?_⟩, fun d n J ex => ?_⟩
        · have := c11a (d := d + 17) (n := n) (J := J) (ex := ex) (by rw [hC.pl]; exact a3.pl) h69 ho9 (by omega) ht9 (by omega) (by rw [e1, g8]; exact b1) (by rw [e2, g9]; exact b2)
          rw [g8, g9, hI1, ac_val] at this
          exact this
        · obtain ⟨X, l1, l2, l3, l4⟩ := opq' (I1 := I1) hR h5 hpc hp2 hI (W := acM I1 t q) (fun b' j hb => by unfold acM; rw [up_ne hb, s2 b' j hb]) (by rw [hW24]; exact hCI) (by rw [hW24]; exact hv) d n J ex
          refine ⟨X, false, ?_, l2, l3⟩
          have e24 : I1 24 = I 24 := funext fun j => m 24 j (by omega)
          have f1 : hBm I1 t (I1 24 187) = true := by
            unfold hBm at b1 ⊢
            rw [e24]
            exact b1
          have f2 : hBm I1 q (I1 24 188) = true := by
            unfold hBm at b2 ⊢
            rw [e24]
            exact b2
          have := c137a (d := d) (n := n) (J := J) (ex := ex) (I := I1) (X := X) ((m 24 181 (by omega)).trans ht) (by omega) ((m 24 180 (by omega)).trans h6) ((m 24 186 (by omega)).trans ho) (by omega) f1 f2 l1
          rw [e24] at this
          exact this
  · exact Or.inr ⟨3, fun d n J ex => c11e (d := d + 17) (fun z => h6 (hC.ph.symm.trans z)), by decide, _, OkM.ref' hR (fun d n J ex => ⟨false, c137n (d := d) (Or.inl h6)⟩)⟩
end O6
