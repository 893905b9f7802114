def inc (e c : Nat) : Bool := decide (ecN (2 * e) = c) || decide (ecN (2 * e + 1) = c)
theorem ce_inc : (List.range 162).all (fun j => !ceB j || (inc (ceN j) (j / 3) && decide (ceN j < 72))) = true := by decide +kernel
theorem inc_ce : (List.range 72).all (fun e => (List.range 54).all (fun c => !inc e c || (decide (ceB (c * 3) = true ∧ ceN (c * 3) = e) || (decide (ceB (c * 3 + 1) = true ∧ ceN (c * 3 + 1) = e) || decide (ceB (c * 3 + 2) = true ∧ ceN (c * 3 + 2) = e))))) = true := by decide +kernel
theorem inc_iff {e c : Nat} (hc : c < 54) (he : e < 72) : inc e c = true ↔ ∃ k, k < 3 ∧ ceB (c * 3 + k) = true ∧ ceN (c * 3 + k) = e := by
  constructor
  · intro h
    have h1 := List.all_eq_true.mp (List.all_eq_true.mp inc_ce e (List.mem_range.mpr he)) c (List.mem_range.mpr hc)
    rw [h] at h1
    simp only [Bool.not_true, Bool.false_or, Bool.or_eq_true, decide_eq_true_eq] at h1
    rcases h1 with h1 | h1 | h1
    · exact ⟨0, by omega, h1⟩
    · exact ⟨1, by omega, h1⟩
    · exact ⟨2, by omega, h1⟩
  · rintro ⟨k, hk, h1, h2⟩
    have h3 := List.all_eq_true.mp ce_inc (c * 3 + k) (List.mem_range.mpr (by omega))
    rw [h1, h2, show (c * 3 + k) / 3 = c by omega] at h3
    simp only [Bool.not_true, Bool.false_or, Bool.and_eq_true] at h3
    exact h3.1
theorem fold_mx {P : Nat → Bool} {f : Nat → Nat} {B : Nat} : ∀ (n k a : Nat), zz_fold (fun i a => if P i = true then max a (f i) else a) n k a ≤ B ↔ a ≤ B ∧ ∀ i, k ≤ i → i < k + n → P i = true → f i ≤ B
  | 0, k, a => by
    constructor
    · intro h
      exact ⟨h, fun i h1 h2 => by omega⟩
    · exact fun h => h.1
  | n + 1, k, a => by
    show zz_fold (fun i a => if P i = true then max a (f i) else a) n (k + 1) (if P k = true then max a (f k) else a) ≤ B ↔ _
    rw [fold_mx n (k + 1)]
    constructor
    · rintro ⟨h1, h2⟩
      refine ⟨?_, fun i hi hj hP => ?_⟩
      · split at h1 <;> omega
      · rcases Nat.eq_or_lt_of_le hi with z | z
        · subst z
          rw [if_pos hP] at h1
          omega
        · exact h2 i z (by omega) hP
    · rintro ⟨h1, h2⟩
      refine ⟨?_, fun i hi hj hP => h2 i (by omega) (by omega) hP⟩
      split
      · rename_i z
        have := h2 k (Nat.le_refl k) (by omega) z
        omega
      · exact h1
def wk (F : Nat → Bool) : Nat → Bool → Nat → (Nat → Bool) → Nat
  | 0, _, _, _ => 0
  | m + 1, first, c, R => if !first && F c then 0 else zz_fold (fun e a => if (R e && inc e c) = true then max a (1 + wk F m false (oE e c) (fun x => R x && !decide (x = e))) else a) 72 0 0
theorem wk_le {F : Nat → Bool} {m : Nat} {first : Bool} {c : Nat} {R : Nat → Bool} (h : (!first && F c) = false) (B : Nat) : wk F (m + 1) first c R ≤ B ↔ ∀ e, e < 72 → R e = true → inc e c = true → 1 + wk F m false (oE e c) (fun x => R x && !decide (x = e)) ≤ B := by
  rw [wk, h, if_neg (by decide), fold_mx]
  constructor
  · intro h1 e he h2 h3
    exact h1.2 e (by omega) (by omega) (by rw [h2, h3]; rfl)
  · intro h1
    refine ⟨by omega, fun e _ he h2 => ?_⟩
    rw [Bool.and_eq_true] at h2
    exact h1 e (by omega) h2.1 h2.2
theorem nat_eq_of_le {a b : Nat} (h : ∀ B, a ≤ B ↔ b ≤ B) : a = b := Nat.le_antisymm ((h b).mpr (Nat.le_refl b)) ((h a).mp (Nat.le_refl a))
theorem fart_wk {p : Nat} (hp : p < 4) : ∀ (m : Nat), m ≤ 15 → ∀ (c : Nat) (I : Nat → Nat → Int32), c < 54 → fart p m c I = (15 - m) + wk (fun x => isF (I 11 x) p) m (decide (m = 15)) c (fun e => decide (I 10 e = nI p))
  | 0, _, c, I, _ => rfl
  | m + 1, hm, c, I, hc => by
    have hg : ((!decide (m + 1 = 15)) && isF (I 11 c) p) = true ↔ (¬ 14 - m = 0 ∧ isF (I 11 c) p = true) := by
      rw [Bool.and_eq_true, Bool.not_eq_true', decide_eq_false_iff_not]
      constructor
      · exact fun h => ⟨by omega, h.2⟩
      · exact fun h => ⟨by omega, h.2⟩
    rw [fart]
    by_cases hF : ¬ 14 - m = 0 ∧ isF (I 11 c) p = true
    · rw [if_pos hF, wk, hg.mpr hF, if_pos rfl]
      omega
    · rw [if_neg hF]
      have hF2 : ((!decide (m + 1 = 15)) && isF (I 11 c) p) = false := by
        cases hz : ((!decide (m + 1 = 15)) && isF (I 11 c) p) with
        | false => rfl
        | true => exact absurd (hg.mp hz) hF
      have e0 : ∀ e, fart p m (oE e c) (zz_up I 10 e (-1)) = (15 - m) + wk (fun x => isF (I 11 x) p) m false (oE e c) (fun x => decide (I 10 x = nI p) && !decide (x = e)) ∨ ¬ e < 72 := by
        intro e
        rcases Nat.lt_or_ge e 72 with he | he
        · left
          rw [fart_wk hp m (by omega) (oE e c) (zz_up I 10 e (-1)) (oE_lt he), show decide (m = 15) = false from decide_eq_false (by omega)]
          have g1 : (fun x => isF (zz_up I 10 e (-1) 11 x) p) = (fun x => isF (I 11 x) p) := by
            funext x
            rw [up_ne (by decide)]
          have g2 : (fun x => decide (zz_up I 10 e (-1) 10 x = nI p)) = (fun x => decide (I 10 x = nI p) && !decide (x = e)) := by
            funext x
            by_cases hx : x = e
            · subst hx
              rw [up_eq]
              have : ¬ ((-1 : Int32) = nI p) := fun z => by
                have := zz_nI_m1 (a := p) (by omega)
                rw [← z] at this
                simp at this
              simp [this]
            · rw [up_nf hx]
              simp [hx]
          rw [g1, g2]
        · exact Or.inr (by omega)
      have e1 : zz_fold (fun k a => if ceB (c * 3 + k) = true ∧ I 10 (ceN (c * 3 + k)) = nI p then (if a < fart p m (oE (ceN (c * 3 + k)) c) (zz_up I 10 (ceN (c * 3 + k)) (-1)) then fart p m (oE (ceN (c * 3 + k)) c) (zz_up I 10 (ceN (c * 3 + k)) (-1)) else a) else a) 3 0 (14 - m) = zz_fold (fun k a => if (ceB (c * 3 + k) && decide (I 10 (ceN (c * 3 + k)) = nI p)) = true then max a (fart p m (oE (ceN (c * 3 + k)) c) (zz_up I 10 (ceN (c * 3 + k)) (-1))) else a) 3 0 (14 - m) := by
        refine zz_fold_congr 3 0 (14 - m) (fun k a _ _ => ?_)
        by_cases z : ceB (c * 3 + k) = true ∧ I 10 (ceN (c * 3 + k)) = nI p
        · simp only [z.1, z.2, and_self, if_true, decide_true, Bool.and_self]
          split <;> omega
        · rw [if_neg z, if_neg (fun y => z (by simpa using y))]
      rw [e1]
      refine nat_eq_of_le (fun B => ?_)
      rw [fold_mx]
      rcases Nat.lt_or_ge B (15 - (m + 1)) with hB | hB
      · constructor
        · intro h
          omega
        · intro h
          omega
      · have : 15 - (m + 1) + wk (fun x => isF (I 11 x) p) (m + 1) (decide (m + 1 = 15)) c (fun e => decide (I 10 e = nI p)) ≤ B ↔ wk (fun x => isF (I 11 x) p) (m + 1) (decide (m + 1 = 15)) c (fun e => decide (I 10 e = nI p)) ≤ B - (15 - (m + 1)) := by omega
        rw [this, wk_le (F := fun x => isF (I 11 x) p) (c := c) hF2]
        constructor
        · rintro ⟨h1, h2⟩ e he h3 h4
          obtain ⟨k, hk, g1, g2⟩ := (inc_iff hc he).mp h4
          have g3 := h2 k (by omega) (by omega) (by rw [g1, g2, h3]; rfl)
          rw [g2] at g3
          rcases e0 e with g4 | g4
          · rw [g4] at g3
            omega
          · omega
        · intro h1
          refine ⟨by omega, fun k _ hk h2 => ?_⟩
          rw [Bool.and_eq_true] at h2
          have g5 := List.all_eq_true.mp ce_inc (c * 3 + k) (List.mem_range.mpr (by omega))
          rw [h2.1, show (c * 3 + k) / 3 = c by omega] at g5
          simp only [Bool.not_true, Bool.false_or, Bool.and_eq_true, decide_eq_true_eq] at g5
          have g6 := h1 (ceN (c * 3 + k)) g5.2 h2.2 g5.1
          rcases e0 (ceN (c * 3 + k)) with g4 | g4
          · rw [g4]
            omega
          · exact absurd g5.2 g4
def wm (F : Nat → Bool) (own : Nat → Nat) (r : Nat) : Nat → Bool → Nat → (Nat → Bool) → Nat
  | 0, _, _, _ => 0
  | m + 1, first, c, U => if !first && F c then 0 else zz_fold (fun k a => if (!U k && inc (own k) c) = true then max a (1 + wm F own r m false (oE (own k) c) (fun x => U x || decide (x = k))) else a) r 0 0
theorem wm_wk {F : Nat → Bool} {own : Nat → Nat} {r : Nat} (h1 : ∀ k, k < r → own k < 72) (h2 : ∀ i j, i < r → j < r → own i = own j → i = j) : ∀ (m : Nat) (first : Bool) (c : Nat) (U R : Nat → Bool), (∀ e, e < 72 → (R e = true ↔ ∃ k, k < r ∧ own k = e ∧ U k = false)) → wm F own r m first c U = wk F m first c R
  | 0, _, _, _, _, _ => rfl
  | m + 1, first, c, U, R, hR => by
    cases hF : (!first && F c) with
    | true => rw [wm, wk, hF, if_pos rfl, if_pos rfl]
    | false =>
      refine nat_eq_of_le (fun B => ?_)
      rw [wk_le hF, wm, hF, if_neg (by decide), fold_mx]
      have key : ∀ k, k < r → U k = false → wm F own r m false (oE (own k) c) (fun x => U x || decide (x = k)) = wk F m false (oE (own k) c) (fun x => R x && !decide (x = own k)) := fun k hk hU => by
        refine wm_wk h1 h2 m false (oE (own k) c) _ _ (fun e he => ?_)
        rw [Bool.and_eq_true, hR e he, Bool.not_eq_true', decide_eq_false_iff_not]
        constructor
        · rintro ⟨⟨i, g1, g2, g3⟩, g4⟩
          refine ⟨i, g1, g2, ?_⟩
          have : ¬ i = k := fun z => g4 (by rw [← g2, z])
          simp [g3, this]
        · rintro ⟨i, g1, g2, g3⟩
          simp only [Bool.or_eq_false_iff, decide_eq_false_iff_not] at g3
          exact ⟨⟨i, g1, g2, g3.1⟩, fun z => g3.2 (h2 i k g1 hk (by rw [g2, z]))⟩
      constructor
      · rintro ⟨-, g1⟩ e he g2 g3
        obtain ⟨k, g4, g5, g6⟩ := (hR e he).mp g2
        have g7 := g1 k (by omega) (by omega) (by rw [g6, g5, g3]; rfl)
        rw [key k g4 g6, g5] at g7
        exact g7
      · intro g1
        refine ⟨by omega, fun k _ g2 g3 => ?_⟩
        simp only [Bool.and_eq_true, Bool.not_eq_true'] at g3
        rw [key k (by omega) g3.1]
        exact g1 (own k) (h1 k (by omega)) ((hR _ (h1 k (by omega))).mpr ⟨k, by omega, rfl, g3.1⟩) g3.2
def bit (u : Int32) (k : Nat) : Bool := u.toBitVec.getLsbD k
theorem bv_one {x : BitVec 32} : x &&& 1 = 0 ↔ x.getLsbD 0 = false := by
  constructor
  · intro h
    have := congrArg (fun z => BitVec.getLsbD z 0) h
    simpa using this
  · intro h
    apply BitVec.eq_of_getLsbD_eq
    intro i hi
    rw [BitVec.getLsbD_and]
    cases i with
    | zero =>
      rw [h]
      rfl
    | succ j => simp
theorem bit_test {u : Int32} {k : Nat} (h : k < 15) : ((u >>> (nI k &&& 31)) &&& 1 = 0) ↔ bit u k = false := by
  have hs : ((nI k &&& 31).toBitVec.smod 32) = BitVec.ofNat 32 k := by
    match k, h with
    | 0, _ | 1, _ | 2, _ | 3, _ | 4, _ | 5, _ | 6, _ | 7, _ | 8, _ | 9, _ | 10, _ | 11, _ | 12, _ | 13, _ | 14, _ => decide
  unfold bit
  rw [← Int32.toBitVec_inj, Int32.toBitVec_and, Int32.toBitVec_shiftRight, hs]
  refine bv_one.trans ?_
  have : k % 4294967296 = k := by omega
  unfold BitVec.sshiftRight'
  rw [BitVec.toNat_ofNat, this, BitVec.getLsbD_sshiftRight]
  simp [show k < 32 by omega]
theorem bit_one {k : Nat} (h : k < 15) (j : Nat) (hj : j < 15) : bit (1 <<< (nI k &&& 31)) j = decide (j = k) := by
  have hs : ((nI k &&& 31).toBitVec.smod 32) = BitVec.ofNat 32 k := by
    match k, h with
    | 0, _ | 1, _ | 2, _ | 3, _ | 4, _ | 5, _ | 6, _ | 7, _ | 8, _ | 9, _ | 10, _ | 11, _ | 12, _ | 13, _ | 14, _ => decide
  unfold bit
  rw [Int32.toBitVec_shiftLeft, hs]
  have : k % 4294967296 = k := by omega
  simp [BitVec.getLsbD_shiftLeft, this]
  by_cases z : j = k
  · subst z
    simp; omega
  · by_cases y : j < k
    · simp [z, y]
    · have : ¬ (j - k = 0) := by omega
      simp [z, y, this]
theorem bit_or {u : Int32} {k : Nat} (h : k < 15) {j : Nat} (hj : j < 15) : bit (u ||| (1 <<< (nI k &&& 31))) j = (bit u j || decide (j = k)) := by
  rw [← bit_one h j hj]
  unfold bit
  rw [Int32.toBitVec_or, BitVec.getLsbD_or]
theorem bit_clr {u : Int32} {k : Nat} (h : k < 15) {j : Nat} (hj : j < 15) : bit (u &&& ((1 <<< (nI k &&& 31)) ^^^ (-1))) j = (bit u j && !decide (j = k)) := by
  rw [← bit_one h j hj]
  unfold bit
  rw [Int32.toBitVec_and, Int32.toBitVec_xor, BitVec.getLsbD_and, BitVec.getLsbD_xor]
  have : (-1 : Int32).toBitVec.getLsbD j = true := by
    match j, hj with
    | 0, _ | 1, _ | 2, _ | 3, _ | 4, _ | 5, _ | 6, _ | 7, _ | 8, _ | 9, _ | 10, _ | 11, _ | 12, _ | 13, _ | 14, _ => decide
  rw [this, Bool.xor_true]
theorem zz_fold_succ {α : Type} {f : Nat → α → α} : ∀ (n k : Nat) (a : α), zz_fold f (n + 1) k a = f (k + n) (zz_fold f n k a)
  | 0, k, a => rfl
  | n + 1, k, a => by
    show zz_fold f (n + 1) (k + 1) (f k a) = f (k + (n + 1)) (zz_fold f n (k + 1) (f k a))
    rw [zz_fold_succ n (k + 1), show k + 1 + n = k + (n + 1) by omega]
def cN (P : Nat → Bool) (n : Nat) : Nat := zz_fold (fun k a => if P k = true then a + 1 else a) n 0 0
theorem cN_0 {P : Nat → Bool} : cN P 0 = 0 := rfl
theorem cN_s {P : Nat → Bool} {n : Nat} : cN P (n + 1) = if P n = true then cN P n + 1 else cN P n := by
  unfold cN
  rw [zz_fold_succ, Nat.zero_add]
theorem cN_le {P : Nat → Bool} : ∀ n, cN P n ≤ n
  | 0 => Nat.le_refl 0
  | n + 1 => by
    have := cN_le (P := P) n
    rw [cN_s]
    split <;> omega
theorem cN_lt {P : Nat → Bool} : ∀ n k, k < n → P k = false → cN P n < n
  | 0, k, h, _ => by omega
  | n + 1, k, h, hk => by
    rw [cN_s]
    rcases Nat.lt_or_ge k n with z | z
    · have := cN_lt (P := P) n k z hk
      split <;> omega
    · have : k = n := by omega
      subst this
      rw [if_neg (by rw [hk]; decide)]
      have := cN_le (P := P) k
      omega
theorem cN_congr {P Q : Nat → Bool} : ∀ n, (∀ k, k < n → P k = Q k) → cN P n = cN Q n
  | 0, _ => rfl
  | n + 1, h => by rw [cN_s, cN_s, cN_congr n (fun k hk => h k (by omega)), h n (by omega)]
theorem cN_up {P Q : Nat → Bool} : ∀ n k, k < n → P k = false → Q k = true → (∀ j, ¬ j = k → Q j = P j) → cN Q n = cN P n + 1
  | 0, k, h, _, _, _ => by omega
  | n + 1, k, h, h1, h2, h3 => by
    rw [cN_s, cN_s]
    rcases Nat.lt_or_ge k n with z | z
    · rw [cN_up n k z h1 h2 h3, h3 n (by omega)]
      split <;> omega
    · have : k = n := by omega
      subst this
      rw [h1, h2, cN_congr (P := Q) (Q := P) k (fun j hj => h3 j (by omega))]
      rfl
theorem cN_mono {P Q : Nat → Bool} : ∀ n, (∀ k, k < n → P k = true → Q k = true) → cN P n ≤ cN Q n
  | 0, _ => Nat.le_refl 0
  | n + 1, h => by
    have := cN_mono n (fun k hk => h k (by omega))
    rw [cN_s, cN_s]
    by_cases z : P n = true
    · rw [if_pos z, if_pos (h n (by omega) z)]
      omega
    · rw [if_neg z]
      split <;> omega
theorem fold_mx0 {P : Nat → Bool} {f : Nat → Nat} {n k a : Nat} : zz_fold (fun i a => if P i = true then max a (f i) else a) n k a = max a (zz_fold (fun i a => if P i = true then max a (f i) else a) n k 0) := by
  refine nat_eq_of_le (fun B => ?_)
  have e : max a (zz_fold (fun i a => if P i = true then max a (f i) else a) n k 0) ≤ B ↔ a ≤ B ∧ zz_fold (fun i a => if P i = true then max a (f i) else a) n k 0 ≤ B := by omega
  rw [e, fold_mx, fold_mx]
  constructor
  · exact fun h => ⟨h.1, by omega, h.2⟩
  · exact fun h => ⟨h.1, h.2.2⟩
def wmP (F : Nat → Bool) (own : Nat → Nat) (r : Nat) (m : Nat) (first : Bool) (c : Nat) (U : Nat → Bool) (j : Nat) : Nat := match m with
  | 0 => 0
  | m + 1 => if !first && F c then 0 else zz_fold (fun k a => if (!U k && inc (own k) c) = true then max a (1 + wm F own r m false (oE (own k) c) (fun x => U x || decide (x = k))) else a) (r - j) j 0
theorem wmP_0 {F : Nat → Bool} {own : Nat → Nat} {r m : Nat} {first : Bool} {c : Nat} {U : Nat → Bool} : wmP F own r m first c U 0 = wm F own r m first c U := by
  cases m <;> rfl
theorem wmP_r {F : Nat → Bool} {own : Nat → Nat} {r m : Nat} {first : Bool} {c : Nat} {U : Nat → Bool} : wmP F own r m first c U r = 0 := by
  cases m with
  | zero => rfl
  | succ m =>
    unfold wmP
    dsimp only
    rw [Nat.sub_self]
    split <;> rfl
theorem wmP_no {F : Nat → Bool} {own : Nat → Nat} {r m : Nat} {first : Bool} {c : Nat} {U : Nat → Bool} {j : Nat} (hj : j < r) (h : (!(!first && F c) && (!U j && inc (own j) c)) = false) : wmP F own r m first c U j = wmP F own r m first c U (j + 1) := by
  cases m with
  | zero => rfl
  | succ m =>
    unfold wmP
    dsimp only
    cases hF : (!first && F c) with
    | true => rfl
    | false =>
      rw [hF] at h
      simp only [Bool.not_false, Bool.true_and] at h
      rw [show r - j = (r - (j + 1)) + 1 by omega]
      show (if false = true then 0 else zz_fold _ (r - (j + 1)) (j + 1) (if (!U j && inc (own j) c) = true then _ else 0)) = _
      rw [h]
      rfl
theorem wmP_yes {F : Nat → Bool} {own : Nat → Nat} {r m : Nat} {first : Bool} {c : Nat} {U : Nat → Bool} {j : Nat} (hj : j < r) (h1 : (!first && F c) = false) (h2 : (!U j && inc (own j) c) = true) : wmP F own r (m + 1) first c U j = max (1 + wm F own r m false (oE (own j) c) (fun x => U x || decide (x = j))) (wmP F own r (m + 1) first c U (j + 1)) := by
  unfold wmP
  dsimp only
  rw [h1, if_neg (by decide), if_neg (by decide), show r - j = (r - (j + 1)) + 1 by omega]
  show zz_fold _ (r - (j + 1)) (j + 1) (if (!U j && inc (own j) c) = true then _ else 0) = _
  rw [h2, if_pos rfl, fold_mx0, Nat.zero_max]
