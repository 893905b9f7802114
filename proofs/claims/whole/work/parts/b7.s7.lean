section SS7
variable {I X : Nat → Nat → Int32} {s s' : Nat → Int32} {t pc : Nat} {y : Int64}
theorem fold_rel {α β : Type} {P : α → β → Prop} {f : Nat → α → α} {g : Nat → β → β} (h : ∀ k a b, P a b → P (f k a) (g k b)) : ∀ (n k : Nat) (a : α) (b : β), P a b → P (zz_fold f n k a) (zz_fold g n k b)
  | 0, _, _, _, h0 => h0
  | n + 1, k, a, b, h0 => fold_rel h n (k + 1) (f k a) (g k b) (h k a b h0)
theorem fold_rel' {α β : Type} {P : α → β → Prop} {f : Nat → α → α} {g : Nat → β → β} : ∀ (n k : Nat) (a : α) (b : β), (∀ i a b, k ≤ i → i < k + n → P a b → P (f i a) (g i b)) → P a b → P (zz_fold f n k a) (zz_fold g n k b)
  | 0, _, _, _, _, h0 => h0
  | n + 1, k, a, b, h, h0 => fold_rel' n (k + 1) (f k a) (g k b) (fun i a b h1 h2 => h i a b (by omega) (by omega)) (h k a b (Nat.le_refl k) (by omega) h0)
def payS (s : Nat → Int32) (t x : Nat) : Nat → Int32 := zz_fold (fun g s => mvS s t 4 g (zz_t1.getD (x * 5 + g) 0)) 5 0 s
theorem r_pay (hb : Tb I) (h : Cst I 9 s) {t x : Nat} (ht : t < 4) : Cst (payI I t x) 9 (payS s t x) := by
  have : (Cst (payI I t x) 9 (payS s t x)) ∧ ∀ j, payI I t x 1 j = zz_t1.getD j 0 := by
    unfold payI payS
    refine fold_rel' (P := fun (A : Nat → Nat → Int32) (b : Nat → Int32) => Cst A 9 b ∧ ∀ j, A 1 j = zz_t1.getD j 0) 5 0 I s (fun g A b _ hg hP => ?_) ⟨h, hb.1⟩
    refine ⟨?_, fun j => ?_⟩
    · rw [hP.2]
      exact hP.1.mv (by omega) (by omega) (by omega) _
    · unfold mv
      rw [up_ne (by decide), up_ne (by decide)]
      exact hP.2 j
  exact this.1
theorem pym_s {Y : Nat → Nat → Int32} (hT : ∀ j, Y 36 j = zz_t1.getD j 0) {p k : Nat} (hp : p < 4) : pym Y p k 24 = payS (Y 24) p k := by
  unfold pym payS
  have : ∀ n m (A : Nat → Nat → Int32), m + n = 5 → zz_fold (fun g X => pyS Y p k g X) n m A 24 = zz_fold (fun g s => mvS s p 4 g (zz_t1.getD (k * 5 + g) 0)) n m (A 24) := fun n => by
    induction n with
    | zero => intros; rfl
    | succ n ih =>
      intro m A hm
      show zz_fold (fun g X => pyS Y p k g X) n (m + 1) (pyS Y p k m A) 24 = zz_fold _ n (m + 1) (mvS (A 24) p 4 m (zz_t1.getD (k * 5 + m) 0))
      rw [ih (m + 1) _ (by omega)]
      congr 1
      unfold pyS mvS
      rw [up_sup, up_sup, hT, show 5 * k + m = k * 5 + m by omega, show 126 + 5 * p + m = 126 + (p * 5 + m) by omega, show 146 + m = 126 + (4 * 5 + m) by omega]
  exact this 5 0 Y rfl
-- moves of many goods
theorem mvF_V {N : Nat → Nat} {D f t : Nat} {c : Nat → Int32} {cn : Nat → Nat} (hf : f < 5) (ht : t < 5) (hft : ¬ f = t) (hN : ∀ j, j < 180 → s j = nI (N j)) (hV : Vn pc D N) (hc : ∀ g, g < 5 → c g = nI (cn g) ∧ cn g ≤ N (126 + (f * 5 + g))) : ∀ k, k ≤ 5 → ∃ N', (∀ j, j < 180 → zz_fold (fun g s => mvS s f t g (c g)) k 0 s j = nI (N' j)) ∧ Vn pc D N' ∧ (∀ j, ¬ (126 ≤ j ∧ j < 151) → N' j = N j) ∧ (∀ g, g < 5 → k ≤ g → N' (126 + (f * 5 + g)) = N (126 + (f * 5 + g))) ∧ (∀ g, g < 5 → N (126 + (t * 5 + g)) ≤ N' (126 + (t * 5 + g))) ∧ (∀ j, ¬ (126 ≤ j ∧ j < 151) → zz_fold (fun g s => mvS s f t g (c g)) k 0 s j = s j) := fun k => by
  induction k with
  | zero => exact fun _ => ⟨N, hN, hV, fun _ _ => rfl, fun _ _ _ => rfl, fun _ _ => Nat.le_refl _, fun _ _ => rfl⟩
  | succ k ih =>
    intro hk
    obtain ⟨N', h1, h2, h3, h4, h5, h6⟩ := ih (by omega)
    obtain ⟨c1, c2⟩ := hc k (by omega)
    have c3 : cn k ≤ N' (126 + (f * 5 + k)) := by rw [h4 k (by omega) (Nat.le_refl k)]; exact c2
    rw [zz_fold_succ, Nat.zero_add, c1]
    refine ⟨mvN N' f t k (cn k), rep_mv h1 hf ht (by omega) c3, h2.upd (fun j hj => mvN_ne (by omega) (by omega)) (fun g hg => by
      rw [mvN_sum hf ht (by omega) c3 hg]
      exact h2.2.2.1 g hg) (fun j j1 j2 => by
      rw [mvN_ne (by omega) (by omega)]
      exact h2.2.2.2.1 j j1 j2) (fun j j1 j2 => by
      rw [mvN_ne (by omega) (by omega)]
      exact h2.2.2.2.2.1 j j1 j2), fun j hj => ?_, fun g hg hkg => ?_, fun g hg => ?_, fun j hj => ?_⟩
    · rw [mvN_ne (by omega) (by omega), h3 j hj]
    · rw [mvN_ne (by omega) (by omega), h4 g hg (by omega)]
    · by_cases z : g = k
      · subst z
        unfold mvN
        rw [nup_eq, nup_ne (by omega)]
        have := h5 g hg
        omega
      · rw [mvN_ne (by omega) (by omega)]
        exact h5 g hg
    · rw [mvS_ne (by omega) (by omega), h6 j hj]
theorem t1_all : (List.range 4).all (fun k => (List.range 5).all (fun g => decide (zz_t1.getD (k * 5 + g) 0 = nI (zz_t1.getD (k * 5 + g) 0).toNatClampNeg) && decide ((zz_t1.getD (k * 5 + g) 0).toNatClampNeg ≤ 19))) = true := by decide +kernel
theorem t1_n {k g : Nat} (hk : k < 4) (hg : g < 5) : zz_t1.getD (k * 5 + g) 0 = nI (zz_t1.getD (k * 5 + g) 0).toNatClampNeg ∧ (zz_t1.getD (k * 5 + g) 0).toNatClampNeg ≤ 19 := by
  have := List.all_eq_true.mp (List.all_eq_true.mp t1_all k (List.mem_range.mpr hk)) g (List.mem_range.mpr hg)
  rw [Bool.and_eq_true, decide_eq_true_eq, decide_eq_true_eq] at this
  exact this
theorem cPm_le (hm : ∀ j, I 36 j = zz_t1.getD j 0) {N : Nat → Nat} {D : Nat} (hN : ∀ j, j < 180 → I 24 j = nI (N j)) (hV : Vn pc D N) {k : Nat} (ht : t < 4) (hk : k < 4) (h : cPm I t k = true) : ∀ g, g < 5 → (zz_t1.getD (k * 5 + g) 0).toNatClampNeg ≤ N (126 + (t * 5 + g)) := fun g hg => by
  unfold cPm at h
  rw [fold_and_any, Bool.true_and, Bool.not_eq_true'] at h
  have h2 : decide (I 36 (5 * k + g) ≤ I 24 (126 + 5 * t + g)) = true := by
    cases hz : decide (I 36 (5 * k + g) ≤ I 24 (126 + 5 * t + g)) with
    | true => rfl
    | false =>
      have := (zz_any_iff (c := fun i => !decide (I 36 (5 * k + i) ≤ I 24 (126 + 5 * t + i))) 5 0).mpr ⟨g, by omega, by omega, by rw [hz]; rfl⟩
      rw [h] at this
      cases this
  have h3 := of_decide_eq_true h2
  obtain ⟨g1, g2⟩ := t1_n hk hg
  rw [hm, show 5 * k + g = k * 5 + g by omega, show 126 + 5 * t + g = 126 + (t * 5 + g) by omega, g1, hN _ (by omega)] at h3
  have h4 := V_hand hV (j := 126 + (t * 5 + g)) (by omega) (by omega)
  exact (zz_nI_le (by omega) (by omega)).mp h3
theorem pay_V {N : Nat → Nat} {D x : Nat} (ht : t < 4) (hx : x < 4) (hN : ∀ j, j < 180 → s j = nI (N j)) (hV : Vn pc D N) (hc : ∀ g, g < 5 → (zz_t1.getD (x * 5 + g) 0).toNatClampNeg ≤ N (126 + (t * 5 + g))) : ∃ N', (∀ j, j < 180 → payS s t x j = nI (N' j)) ∧ Vn pc D N' ∧ (∀ j, ¬ (126 ≤ j ∧ j < 151) → N' j = N j) ∧ (∀ j, ¬ (126 ≤ j ∧ j < 151) → payS s t x j = s j) := by
  obtain ⟨N', h1, h2, h3, -, -, h6⟩ := mvF_V (f := t) (t := 4) (c := fun g => zz_t1.getD (x * 5 + g) 0) (cn := fun g => (zz_t1.getD (x * 5 + g) 0).toNatClampNeg) (by omega) (by omega) (by omega) hN hV (fun g hg => ⟨(t1_n hx hg).1, hc g hg⟩) 5 (Nat.le_refl 5)
  exact ⟨N', h1, h2, h3, h6⟩
end SS7
