section OE
variable {d n t pc s : Nat} {I X I1 W A B : Nat → Nat → Int32} {J : Nat → Nat → Int64} {ex : List (Nat × Nat)} {y : Int64} {S : Nat → Int32}
def bF (a : Nat → Nat) (g k : Nat) (S : Nat → Int32) : Nat → Int32 := zz_fold (fun p S => mvS S 4 p g (nI (a p))) k 0 S
theorem bF_s {a : Nat → Nat} {g k : Nat} : bF a g (k + 1) S = mvS (bF a g k S) 4 k g (nI (a k)) := by
  unfold bF
  rw [zz_fold_succ, Nat.zero_add]
theorem bF_at {a : Nat → Nat} {g : Nat} (hg : g < 5) : ∀ k, k ≤ 4 → (∀ j, ¬ j = 126 + (4 * 5 + g) → (∀ p, p < k → ¬ j = 126 + (p * 5 + g)) → bF a g k S j = S j) ∧ (∀ p, p < k → bF a g k S (126 + (p * 5 + g)) = S (126 + (p * 5 + g)) + nI (a p)) ∧ bF a g k S (126 + (4 * 5 + g)) = S (126 + (4 * 5 + g)) - nI (zz_fold (fun p z => z + a p) k 0 0) := fun k => by
  induction k with
  | zero =>
    intro _
    refine ⟨fun _ _ _ => rfl, fun p hp => by omega, ?_⟩
    show S _ = S _ - nI 0
    rw [show nI 0 = 0 from rfl, Int32.sub_zero]
  | succ k ih =>
    intro hk
    obtain ⟨i1, i2, i3⟩ := ih (by omega)
    rw [bF_s, zz_fold_succ, Nat.zero_add]
    rw [mvS_fn (s' := S) (by omega) (by omega) (by omega) hg]
    refine ⟨fun j h1 h2 => ?_, fun p hp => ?_, ?_⟩
    · rw [sup_ne (h2 k (by omega)), sup_ne h1]
      exact i1 j h1 (fun p hp => h2 p (by omega))
    · by_cases z : p = k
      · subst z
        rw [sup_eq, i1 _ (by omega) (fun q hq => by omega)]
      · rw [sup_ne (by omega), sup_ne (by omega), i2 p (by omega)]
    · rw [sup_ne (by omega), sup_eq, i3, ← zz_nI_add, Int32.sub_eq_add_neg, Int32.sub_eq_add_neg, Int32.sub_eq_add_neg, Int32.neg_add, Int32.add_assoc, Int32.sub_eq_add_neg]
theorem bF_V {N : Nat → Nat} {D : Nat} {a : Nat → Nat} {g : Nat} (hg : g < 5) (hN : ∀ j, j < 180 → S j = nI (N j)) (hV : Vn pc D N) (K : Nat) (hK : K ≤ 4) (hs : zz_fold (fun p z => z + a p) K 0 0 ≤ N (126 + (4 * 5 + g))) : ∀ k, k ≤ K → ∃ N' : Nat → Nat, (∀ j, j < 180 → bF a g k S j = nI (N' j)) ∧ Vn pc D N' ∧ (∀ j, ¬ (126 ≤ j ∧ j < 151) → N' j = N j) ∧ (∀ g', g' < 5 → ¬ g' = g → N' (126 + (4 * 5 + g')) = N (126 + (4 * 5 + g'))) ∧ N' (126 + (4 * 5 + g)) + zz_fold (fun p z => z + a p) k 0 0 = N (126 + (4 * 5 + g)) := fun k => by
  have mono : ∀ i j, i ≤ j → zz_fold (fun p z => z + a p) i 0 0 ≤ zz_fold (fun p z => z + a p) j 0 0 := fun i j hij => by
    induction j with
    | zero =>
      have : i = 0 := by omega
      subst this
      exact Nat.le_refl _
    | succ j ih =>
      rcases Nat.lt_or_ge i (j + 1) with z | z
      · rw [zz_fold_succ]
        have := ih (by omega)
        omega
      · have : i = j + 1 := by omega
        subst this
        exact Nat.le_refl _
  induction k with
  | zero => exact fun _ => ⟨N, hN, hV, fun _ _ => rfl, fun _ _ _ => rfl, rfl⟩
  | succ k ih =>
    intro hk
    obtain ⟨N', i1, i2, i3, i4, i5⟩ := ih (by omega)
    have m1 := mono (k + 1) K hk
    rw [zz_fold_succ, Nat.zero_add] at m1
    rw [bF_s, zz_fold_succ, Nat.zero_add]
    have hc : a k ≤ N' (126 + (4 * 5 + g)) := by omega
    refine ⟨mvN N' 4 k g (a k), rep_mv i1 (by omega) (by omega) hg hc, i2.upd (fun j hj => mvN_ne (by omega) (by omega)) (fun g' hg' => by
      rw [mvN_sum (by omega) (by omega) hg hc hg']
      exact i2.2.2.1 g' hg') (fun j j1 j2 => by
      rw [mvN_ne (by omega) (by omega)]
      exact i2.2.2.2.1 j j1 j2) (fun j j1 j2 => by
      rw [mvN_ne (by omega) (by omega)]
      exact i2.2.2.2.2.1 j j1 j2), fun j hj => by rw [mvN_ne (by omega) (by omega)]; exact i3 j hj, fun g' hg' hne => by rw [mvN_ne (by omega) (by omega)]; exact i4 g' hg' hne, ?_⟩
    unfold mvN
    rw [nup_ne (by omega), nup_eq]
    omega
theorem mgW_hand {Y : Nat → Nat → Int32} {cl : Nat → Nat} {g kk got : Nat} (hg : g < 5) : ∀ pc, pc ≤ 4 → ∀ p, p < pc → mgW Y cl g pc kk got 24 (126 + (p * 5 + g)) = if 0 < cl p then Y 24 (126 + (p * 5 + g)) + nI (if kk = 1 then got else cl p) else Y 24 (126 + (p * 5 + g)) := fun pc => by
  induction pc with
  | zero => intro _ p hp; omega
  | succ k ih =>
    intro hk p hp
    have e : mgW Y cl g (k + 1) kk got = mgS cl g kk got k (mgW Y cl g k kk got) := by
      unfold mgW
      rw [zz_fold_succ, Nat.zero_add]
    rw [e]
    unfold mgS
    by_cases z : p = k
    · subst z
      have hat := mgW_at (Y := Y) (cl := cl) (kk := kk) (got := got) (a := 24) (j := 126 + (p * 5 + g)) hg p (by omega) (fun q hq w => by omega)
      rw [show 126 + 5 * p + g = 126 + (p * 5 + g) by omega]
      by_cases w : 0 < cl p
      · rw [if_pos w, if_pos w, up_eq, hat]
      · rw [if_neg w, if_neg w, hat]
    · have := ih (by omega) p (by omega)
      by_cases w : 0 < cl k
      · rw [if_pos w, up_nf (by omega), this]
      · rw [if_neg w, this]
theorem mg_eq {Y : Nat → Nat → Int32} {cl : Nat → Nat} {g bk : Nat} (hg : g < 5) (hp2 : 2 ≤ pc) (hpc : pc ≤ 4) (hn : ¬ (bk < mgC cl pc ∧ 1 < mgK cl pc)) : mgR Y cl g pc bk 24 = bF (fun p => min (cl p) bk) g pc (Y 24) := by
  obtain ⟨b1, b2⟩ := br_core hp2 hpc hn
  obtain ⟨f1, f2, f3⟩ := bF_at (S := Y 24) (a := fun p => min (cl p) bk) hg pc hpc
  funext j
  unfold mgR
  by_cases z : j = 126 + (4 * 5 + g)
  · subst z
    rw [show 146 + g = 126 + (4 * 5 + g) by omega, up_eq, f3, b2, mgW_at hg pc hpc (fun p hp w => by omega)]
  · rw [up_nf (by omega)]
    by_cases w : ∃ p, p < pc ∧ j = 126 + (p * 5 + g)
    · obtain ⟨p, hp, rfl⟩ := w
      rw [f2 p hp, mgW_hand hg pc hpc p hp, b1 p hp]
      by_cases q : 0 < cl p
      · rw [if_pos q, if_pos q]
      · rw [if_neg q, if_neg q, show nI 0 = 0 from rfl, Int32.add_zero]
    · rw [f1 j z (fun p hp q => w ⟨p, hp, q⟩), mgW_at hg pc hpc (fun p hp q => w ⟨p, hp, by omega⟩)]
def rG (cl : Nat → Nat → Nat) (bk : Nat → Nat) (pc g : Nat) (Z : (Nat → Int32) × Int32) : (Nat → Int32) × Int32 := if grR cl bk pc g = true then Z else (bF (fun p => min (cl p g) (bk g)) g pc Z.1, Z.2 + nI (min (mgC (fun p => cl p g) pc) (bk g)))
def rGk (S : Nat → Int32) (cl : Nat → Nat → Nat) (bk : Nat → Nat) (pc k : Nat) : (Nat → Int32) × Int32 := zz_fold (rG cl bk pc) k 0 (S, 0)
theorem rGk_s {cl : Nat → Nat → Nat} {bk : Nat → Nat} {k : Nat} : rGk S cl bk pc (k + 1) = rG cl bk pc k (rGk S cl bk pc k) := by
  unfold rGk
  rw [zz_fold_succ, Nat.zero_add]
theorem grR_iff {cl : Nat → Nat → Nat} {bk : Nat → Nat} {g : Nat} : grR cl bk pc g = true ↔ (bk g < mgC (fun p => cl p g) pc ∧ 1 < mgK (fun p => cl p g) pc) := by
  unfold grR
  rw [Bool.and_eq_true, decide_eq_true_eq, decide_eq_true_eq]
theorem gr_24 {cl : Nat → Nat → Nat} {bk : Nat → Nat} (hp2 : 2 ≤ pc) (hpc : pc ≤ 4) : ∀ k, k ≤ 5 → (grM I cl bk pc k).1 24 = (rGk (rmM I 24) cl bk pc k).1 ∧ (grM I cl bk pc k).2 = (rGk (rmM I 24) cl bk pc k).2 ∧ ∀ b j, ¬ b = 24 → (grM I cl bk pc k).1 b j = rmM I b j := fun k => by
  induction k with
  | zero => exact fun _ => ⟨rfl, rfl, fun _ _ _ => rfl⟩
  | succ k ih =>
    intro hk
    obtain ⟨i1, i2, i3⟩ := ih (by omega)
    rw [grM_s, rGk_s]
    unfold grS rG
    by_cases z : grR cl bk pc k = true
    · rw [if_pos z, if_pos z]
      exact ⟨i1, i2, i3⟩
    · rw [if_neg z, if_neg z]
      dsimp only
      refine ⟨?_, by rw [i2], fun b j hb => ?_⟩
      · rw [mg_eq (by omega) hp2 hpc (fun w => z (grR_iff.mpr w)), i1]
      · rw [mgR_at (by omega) hpc (fun _ _ w => hb w.1) (fun w => hb w.1)]
        exact i3 b j hb
theorem rGk_V {N : Nat → Nat} {D : Nat} {cl : Nat → Nat → Nat} {bk : Nat → Nat} (hp2 : 2 ≤ pc) (hpc : pc ≤ 4) (hN : ∀ j, j < 180 → S j = nI (N j)) (hV : Vn pc D N) (hbk : ∀ g, g < 5 → bk g = N (126 + (4 * 5 + g))) : ∀ k, k ≤ 5 → ∃ N' : Nat → Nat, (∀ j, j < 180 → (rGk S cl bk pc k).1 j = nI (N' j)) ∧ Vn pc D N' ∧ (∀ j, ¬ (126 ≤ j ∧ j < 151) → N' j = N j ∧ (rGk S cl bk pc k).1 j = S j) ∧ (∀ g, g < 5 → k ≤ g → N' (126 + (4 * 5 + g)) = bk g) := fun k => by
  induction k with
  | zero => exact fun _ => ⟨N, hN, hV, fun _ _ => ⟨rfl, rfl⟩, fun g hg _ => (hbk g hg).symm⟩
  | succ k ih =>
    intro hk
    obtain ⟨N', i1, i2, i3, i4⟩ := ih (by omega)
    rw [rGk_s]
    unfold rG
    by_cases z : grR cl bk pc k = true
    · rw [if_pos z]
      exact ⟨N', i1, i2, i3, fun g hg hkg => i4 g hg (by omega)⟩
    · rw [if_neg z]
      dsimp only
      obtain ⟨b1, b2⟩ := br_core (cl := fun p => cl p k) hp2 hpc (fun w => z (grR_iff.mpr w))
      have hk' := i4 k (by omega) (Nat.le_refl k)
      obtain ⟨N'', j1, j2, j3, j4, j5⟩ := bF_V (a := fun p => min (cl p k) (bk k)) (g := k) (by omega) i1 i2 pc hpc (by rw [b2, hk']; omega) pc (Nat.le_refl pc)
      refine ⟨N'', j1, j2, fun j hj => ⟨(j3 j hj).trans (i3 j hj).1, ?_⟩, fun g hg hkg => by rw [j4 g hg (by omega)]; exact i4 g hg (by omega)⟩
      rw [(bF_at (S := (rGk S cl bk pc k).1) (a := fun p => min (cl p k) (bk k)) (by omega) pc hpc).1 j (by omega) (fun p hp => by omega)]
      exact (i3 j hj).2
theorem mnI_n {a b : Nat} (ha : a < 100000) (hb : b < 100000) : mnI (nI a) (nI b) = nI (min a b) := by
  unfold mnI
  simp only [zz_ltN (a := b) (b := a) (by omega) (by omega)]
  split
  · rw [Nat.min_eq_right (by omega)]
  · rw [Nat.min_eq_left (by omega)]
theorem rl_C {cl : Nat → Nat → Nat} {bk : Nat → Nat} {m : Int32} (hp2 : 2 ≤ pc) (hpc : pc ≤ 4) (hC : Cst (zz_up (rmb I) 9 0 6) 9 S) (hcl : ∀ Y : Nat → Nat → Int32, (∀ b j, ¬ b = 12 → Y b j = zz_up (rmb I) 9 0 6 b j) → ∀ p g, p < pc → g < 5 → clm Y (nI p) (nI g) m = cl p g) (hcl2 : ∀ p g, cl p g ≤ 228) {N : Nat → Nat} {D : Nat} (hN : ∀ j, j < 180 → S j = nI (N j)) (hV : Vn pc D N) (hbk : ∀ g, g < 5 → bk g = N (126 + (4 * 5 + g))) : ∀ k, k ≤ 5 → Cst (rlM I m pc k).1 9 (rGk S cl bk pc k).1 ∧ (rlM I m pc k).2 = (rGk S cl bk pc k).2 := fun k => by
  induction k with
  | zero => exact fun _ => ⟨hC, rfl⟩
  | succ k ih =>
    intro hk
    obtain ⟨i1, i2⟩ := ih (by omega)
    obtain ⟨N', v1, v2, v3, v4⟩ := rGk_V (S := S) (cl := cl) (bk := bk) hp2 hpc hN hV hbk k (by omega)
    have hbk19 : bk k ≤ 19 := by
      rw [hbk k (by omega)]
      exact V_hand hV (by omega) (by omega)
    have hst : (rlM I m pc k).1 12 (4 * 5 + k) = nI (bk k) := by rw [i1.hd (by omega), v1 _ (by omega), v4 k (by omega) (Nat.le_refl k)]
    have hcY := hcl (rlM I m pc k).1 (fun b j hb => rlM_ne hb k)
    rw [rlM_s, rGk_s]
    generalize rlM I m pc k = Y at *
    generalize rGk S cl bk pc k = Z at *
    obtain ⟨y1, y2⟩ := Y
    obtain ⟨z1, z2⟩ := Z
    dsimp only at *
    unfold rlS rG
    dsimp only
    have eC : brC y1 pc k m = mgC (fun p => cl p k) pc := by
      unfold brC mgC
      exact zz_fold_congr pc 0 0 (fun p a _ hp => by rw [hcY p k (by omega) (by omega)])
    have eK : brK y1 pc k m = mgK (fun p => cl p k) pc := by
      unfold brK mgK
      exact zz_fold_congr pc 0 0 (fun p a _ hp => by rw [hcY p k (by omega) (by omega)])
    have hCb : mgC (fun p => cl p k) pc ≤ 1000 := by
      have := fold_le (f := fun p a => a + (if cl p k ≤ 228 then cl p k else 0)) (b := 228) (fun p a => by split <;> omega) pc 0 0
      have e : mgC (fun p => cl p k) pc = zz_fold (fun p a => a + (if cl p k ≤ 228 then cl p k else 0)) pc 0 0 := by
        unfold mgC
        exact zz_fold_congr pc 0 0 (fun p a _ _ => by rw [if_pos (hcl2 p k)])
      omega
    simp only [eC, eK, hst, mnI_n (a := mgC (fun p => cl p k) pc) (b := bk k) (by omega) (by omega)]
    have econd : (¬ nI (mgC (fun p => cl p k) pc) ≤ nI (bk k) ∧ 1 < mgK (fun p => cl p k) pc) ↔ grR cl bk pc k = true := by
      rw [grR_iff]
      have e := zz_leN (a := mgC (fun p => cl p k) pc) (b := bk k) (by omega) (by omega)
      constructor
      · rintro ⟨w1, w2⟩
        rw [e] at w1
        exact ⟨by omega, w2⟩
      · rintro ⟨w1, w2⟩
        refine ⟨?_, w2⟩
        rw [e]
        omega
    by_cases z : grR cl bk pc k = true
    · rw [if_pos z, if_pos (econd.mpr z)]
      exact ⟨i1, i2⟩
    · rw [if_neg z, if_neg (fun w => z (econd.mp w))]
      dsimp only
      refine ⟨?_, by rw [i2]⟩
      unfold brI bF
      have := fold_rel' (P := fun (A : Bool × (Nat → Nat → Int32)) (b : Nat → Int32) => Cst A.2 9 b) (f := fun p X => (false, mv X.2 4 p k (mnI (nI (clm y1 (nI p) (nI k) m)) (y1 12 (4 * 5 + k))))) (g := fun p S => mvS S 4 p k (nI (min (cl p k) (bk k)))) pc 0 (true, y1) z1 (fun p A b _ hp hP => by
        show Cst (mv A.2 4 p k (mnI (nI (clm y1 (nI p) (nI k) m)) (y1 12 (4 * 5 + k)))) 9 _
        have h228 := hcl2 p k
        rw [hcY p k (by omega) (by omega), hst, mnI_n (by omega) (by omega)]
        exact hP.mv (by omega) (by omega) (by omega) _) i1
      exact this
theorem op_roll (m : Int32) : Opr 6 [.int m] 126 [.int m] (fun e => if e = 3 then 1 else if e = 4 then 2 else 0) := fun I y hR => by
  obtain ⟨pc, h5, h15, hpc, hC⟩ := hR.plc
  by_cases h3 : I 24 180 = 3
  · have h39 : I 9 0 = 3 := hC.ph.trans h3
    by_cases hm : 2 ≤ m ∧ m ≤ 12
    · by_cases h7 : m = 7
      · subst h7
        exact Or.inl (roll7 hR h3)
      · obtain ⟨pc, N, t, D, x, h5, h15, hp2, hpc, hC, a1, a2, a3, a4, a5, a6⟩ := hR.ph_dat (k := 3) (by decide) (by decide) h3
        have hzz : I 9 11 = 0 ∨ I 9 11 = 1 := by rw [hC.pl]; exact a3.pl
        have htp : t < pc := a3.2.2.2.2.1
        obtain ⟨gd, nm, hH⟩ := hR.2.2.1
        have hcor := V_corners a1 a2 hpc
        have hclI := fun (p g : Nat) (hp : p < 4) (hg : g < 5) => r_clm (I := I) hC hcor (gd := gd) (fun q hq => ⟨(hH q hq).1, (hH q hq).2.1⟩) (fun q hq => (hH q hq).2.2.2.1) (p := p) (g := g) hp hg m
        have hC6 := hC.rmb.v0p 6 (by decide) (by decide) (by decide)
        have hN6 := rep_sup2 a1 (i := 180) (x := 6) (by omega)
        have hcl : ∀ Y : Nat → Nat → Int32, (∀ b j, ¬ b = 12 → Y b j = zz_up (rmb I) 9 0 6 b j) → ∀ p g, p < pc → g < 5 → clm Y (nI p) (nI g) m = clN I gd m p g 19 := fun Y hY p g hp hg => by
          rw [← hclI p g (by omega) hg]
          have yb : ∀ b j, ¬ b = 12 → ¬ (b = 9 ∧ j = 0) → ¬ b = 5 → ¬ (16 ≤ b ∧ b ≤ 22) → Y b j = I b j := fun b j h1 h2 h3 h4 => by
            rw [hY b j h1]
            by_cases w : b = 9
            · rw [up_nf (fun q => h2 ⟨w, q⟩), rmb_ne h4 (Or.inl h3)]
            · rw [up_ne w, rmb_ne h4 (Or.inl h3)]
          unfold clm wb wth
          rw [show Y 6 = I 6 from funext fun j => yb 6 j (by omega) (by omega) (by omega) (by omega), show Y 7 = I 7 from funext fun j => yb 7 j (by omega) (by omega) (by omega) (by omega), show Y 11 = I 11 from funext fun j => yb 11 j (by omega) (by omega) (by omega) (by omega), yb 9 4 (by omega) (by omega) (by omega) (by omega)]
        have hbkN : ∀ g, g < 5 → (fun g => N (126 + (4 * 5 + g))) g = N (126 + (4 * 5 + g)) := fun g _ => rfl
        obtain ⟨c1, c2⟩ := rl_C (cl := fun p g => clN I gd m p g 19) (bk := fun g => N (126 + (4 * 5 + g))) hp2 hpc hC6 hcl (fun p g => clN_le (by omega)) hN6 a2 hbkN 5 (Nat.le_refl 5)
        obtain ⟨N', v1, v2, v3, -⟩ := rGk_V (S := sup (I 24) 180 6) (cl := fun p g => clN I gd m p g 19) (bk := fun g => N (126 + (4 * 5 + g))) hp2 hpc hN6 a2 hbkN 5 (Nat.le_refl 5)
        have hI : ∀ b' j, ¬ (9 ≤ b' ∧ b' ≤ 15) → (rlM I m pc 5).1 b' j = rmb I b' j := fun b' j hb => by rw [rlM_ne (by omega), up_ne (by omega)]
        have hc6b := fun d n J ex => c6b (d := d) (n := n) (J := J) (ex := ex) hR.tb hzz h39 h5 hpc m hm.1 hm.2 h7
        generalize hI1 : (rlM I m pc 5).1 = I1 at *
        have f := f_c4 hI
        have e24 : I1 24 = I 24 := funext fun j => f 24 j (by omega)
        have ecl : (fun p g => clN I1 gd m p g 19) = (fun p g => clN I gd m p g 19) := by
          funext p g
          unfold clN clh
          rw [e24, show I1 32 = I 32 from funext fun j => f 32 j (by omega)]
        obtain ⟨g1, g2, g3⟩ := gr_24 (I := I1) (cl := fun p g => clN I gd m p g 19) (bk := fun g => N (126 + (4 * 5 + g))) hp2 hpc 5 (Nat.le_refl 5)
        rw [f_r24 hI] at g1 g2
        have hcm : ∀ k, k ≤ 5 → (rGk (sup (I 24) 180 6) (fun p g => clN I gd m p g 19) (fun g => N (126 + (4 * 5 + g))) pc k).2 = (rGk (I 24) (fun p g => clN I gd m p g 19) (fun g => N (126 + (4 * 5 + g))) pc k).2 ∧ (rGk (sup (I 24) 180 6) (fun p g => clN I gd m p g 19) (fun g => N (126 + (4 * 5 + g))) pc k).1 = sup (rGk (I 24) (fun p g => clN I gd m p g 19) (fun g => N (126 + (4 * 5 + g))) pc k).1 180 6 := fun k => by
          induction k with
          | zero => exact fun _ => ⟨rfl, rfl⟩
          | succ k ih =>
            intro hk
            obtain ⟨j1, j2⟩ := ih (by omega)
            rw [rGk_s, rGk_s]
            unfold rG
            split
            · exact ⟨j1, j2⟩
            · dsimp only
              refine ⟨by rw [j1], ?_⟩
              rw [j2]
              generalize (rGk (I 24) (fun p g => clN I gd m p g 19) (fun g => N (126 + (4 * 5 + g))) pc k).1 = Z
              have : ∀ q, q ≤ 4 → bF (fun p => min (clN I gd m p k 19) (N (126 + (4 * 5 + k)))) k q (sup Z 180 6) = sup (bF (fun p => min (clN I gd m p k 19) (N (126 + (4 * 5 + k)))) k q Z) 180 6 := fun q => by
                induction q with
                | zero => exact fun _ => rfl
                | succ q iq =>
                  intro hq
                  rw [bF_s, bF_s, iq (by omega)]
                  rw [mvS_fn (s' := Z) (by omega) (by omega) (by omega) (by omega), mvS_fn (s' := Z) (by omega) (by omega) (by omega) (by omega), sup_ne (by omega), sup_ne (by omega), sup_comm (i := 180) (by omega), sup_comm (i := 180) (by omega)]
              exact this pc hpc
        obtain ⟨hc2, hc1⟩ := hcm 5 (Nat.le_refl 5)
        refine Or.inl ⟨I1, some (.int (rGk (I 24) (fun p g => clN I gd m p g 19) (fun g => N (126 + (4 * 5 + g))) pc 5).2), fun d n J ex _ => ⟨false, ?_⟩, fun d n J ex => ?_⟩
        · have := hc6b (d + 14) n J ex
          rw [c2, hc2] at this
          exact this
        · have hsn : ∀ j, ¬ (126 ≤ j ∧ j < 151) → ¬ j = 180 → (rGk (sup (I 24) 180 6) (fun p g => clN I gd m p g 19) (fun g => N (126 + (4 * 5 + g))) pc 5).1 j = I 24 j := fun j j1 j2 => by rw [(v3 j j1).2, sup_ne j2]
          have hVst : Vst pc (I 5 6) (rGk (sup (I 24) 180 6) (fun p g => clN I gd m p g 19) (fun g => N (126 + (4 * 5 + g))) pc 5).1 := Vst.qg (f' := 6) a3 a5 a6 (by decide) (by decide) v1 v2 (by rw [(v3 180 (by omega)).2, sup_eq]; rfl) (by decide) (by decide) (by rw [hsn _ (by omega) (by omega)]; exact a3.2.2.2.2.2.1) a3.2.2.2.2.2.2.1 (by rw [hsn _ (by omega) (by omega)]; exact a3.pl) (by rw [hsn _ (by omega) (by omega)]; exact a3.2.2.2.2.2.2.2.2.1) (fun j hj => hsn j (by omega) (by omega)) (hsn _ (by omega) (by omega)) (hsn _ (by omega) (by omega)) (hsn _ (by omega) (by omega)) (hsn _ (by omega) (by omega)) (hsn _ (by omega) (by omega))
          have key := c126b (d := d) (n := n) (J := J) (ex := ex) (I := I1) (pc := pc) (hR.tm.cong (fun b' j h1 h2 => f b' j (by omega))) ((f 24 180 (by omega)).trans h3) ((f 23 15 (by omega)).trans h15) (by omega) hpc m hm.1 hm.2 h7 (gd := gd) (fun q hq => (f 31 q (by omega)).trans (hH q hq).2.2.1) (fun q hq hqm => by
            obtain ⟨k1, k2, k3, k4, k5, k6⟩ := hH q hq
            rw [f 32 q (by omega), ← k4, k5] at hqm
            rcases k6 with w | w
            · exfalso
              rw [w.2] at hqm
              rw [← hqm] at hm
              exact absurd hm.1 (by decide)
            · exact w.1) (bk := fun g => N (126 + (4 * 5 + g))) (fun g hg => ⟨by
              show I1 24 (146 + g) = nI (N (126 + (4 * 5 + g)))
              rw [e24, a1 _ (by omega), show 126 + (4 * 5 + g) = 146 + g by omega], by
              show N (126 + (4 * 5 + g)) ≤ 1000
              have := V_hand a2 (j := 126 + (4 * 5 + g)) (by omega) (by omega)
              omega⟩) (Q := fun X => X 23 0 = 0 ∧ Rel X y) (fun Y hY => by
            rw [ecl] at hY
            obtain ⟨X, l1, l2, l3, l4⟩ := opq (I1 := I1) hR h5 hpc hp2 (W := Y) (f_c1 hI) (f_c2 hI) (f_c3 hI) f (fun b' j hb hb2 => by rw [hY b' (by omega) j, up_ne hb2, g3 b' j hb2]) (by
              rw [hY.f24, up_sup, g1, ← hc1]
              exact c1) (by
              rw [hY.f24, up_sup, g1, ← hc1]
              exact hVst) d n J ex
            exact ⟨X, l1, l2, l3⟩)
          obtain ⟨X, k1, k2, k3⟩ := key
          rw [ecl, g2] at k1
          exact ⟨X, false, k1, k2, k3⟩
    · exact Or.inr ⟨4, fun d n J ex => c6f (d := d + 14) h39 m hm, by decide, _, OkM.ref' hR (fun d n J ex => ⟨false, c126n2 (d := d) h3 m hm⟩)⟩
  · exact Or.inr ⟨3, fun d n J ex => c6e (d := d + 14) (fun z => h3 (hC.ph.symm.trans z)) m, by decide, _, OkM.ref' hR (fun d n J ex => ⟨false, c126n1 (d := d) h3 m⟩)⟩
end OE
