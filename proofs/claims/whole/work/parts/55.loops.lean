def zz_fold {α : Type} (f : Nat → α → α) : Nat → Nat → α → α
  | 0, _, a => a
  | n + 1, k, a => zz_fold f n (k + 1) (f k a)
def zz_scan {γ : Type} (c : Nat → Bool) (r : Nat → γ) (d : γ) : Nat → Nat → γ
  | 0, _ => d
  | n + 1, k => if c k = true then r k else zz_scan c r d n (k + 1)
theorem zz_for_aux {α β γ : Type} {F : β → γ} {S : Nat → α → β} {f : Nat → α → α} {N : Nat} {Inv : Nat → α → Prop} (hstep : ∀ k a, k < N → Inv k a → F (S k a) = F (S (k + 1) (f k a)) ∧ Inv (k + 1) (f k a)) :
    ∀ (n k : Nat) (a : α), k + n = N → Inv k a → F (S k a) = F (S N (zz_fold f n k a)) ∧ Inv N (zz_fold f n k a)
  | 0, k, a, hk, hi => by
    have : k = N := by omega
    subst this
    exact ⟨rfl, hi⟩
  | n + 1, k, a, hk, hi => by
    obtain ⟨h1, h2⟩ := hstep k a (by omega) hi
    obtain ⟨h3, h4⟩ := zz_for_aux hstep n (k + 1) (f k a) (by omega) h2
    exact ⟨h1.trans h3, h4⟩
theorem zz_for {α β γ : Type} {F : β → γ} {S : Nat → α → β} {f : Nat → α → α} {N : Nat} {a : α} {Inv : Nat → α → Prop} (hi : Inv 0 a) (hstep : ∀ k a, k < N → Inv k a → F (S k a) = F (S (k + 1) (f k a)) ∧ Inv (k + 1) (f k a)) :
    F (S 0 a) = F (S N (zz_fold f N 0 a)) ∧ Inv N (zz_fold f N 0 a) := zz_for_aux hstep N 0 a (by omega) hi
theorem zz_for0 {α β γ : Type} {F : β → γ} {S : Nat → α → β} {f : Nat → α → α} {N : Nat} {a : α} (hstep : ∀ k a, k < N → F (S k a) = F (S (k + 1) (f k a))) : F (S 0 a) = F (S N (zz_fold f N 0 a)) :=
  (zz_for (Inv := fun _ _ => True) trivial (fun k a hk _ => ⟨hstep k a hk, trivial⟩)).1
theorem zz_find_aux {β γ : Type} {F : β → γ} {S : Nat → β} {c : Nat → Bool} {r : Nat → γ} {N : Nat} (hstep : ∀ k, k < N → F (S k) = if c k = true then r k else F (S (k + 1))) :
    ∀ (n k : Nat), k + n = N → F (S k) = zz_scan c r (F (S N)) n k
  | 0, k, hk => by
    have : k = N := by omega
    subst this
    rfl
  | n + 1, k, hk => by
    rw [hstep k (by omega), zz_find_aux hstep n (k + 1) (by omega)]
    rfl
theorem zz_scan_loop {β γ : Type} {F : β → γ} {S : Nat → β} {c : Nat → Bool} {r : Nat → γ} {N : Nat} (hstep : ∀ k, k < N → F (S k) = if c k = true then r k else F (S (k + 1))) : F (S 0) = zz_scan c r (F (S N)) N 0 :=
  zz_find_aux hstep N 0 (by omega)
theorem zz_fold_congr {α : Type} {f g : Nat → α → α} : ∀ (n k : Nat) (a : α), (∀ i a, k ≤ i → i < k + n → f i a = g i a) → zz_fold f n k a = zz_fold g n k a
  | 0, _, _, _ => rfl
  | n + 1, k, a, h => by
    show zz_fold f n (k + 1) (f k a) = zz_fold g n (k + 1) (g k a)
    rw [h k a (Nat.le_refl _) (by omega)]
    exact zz_fold_congr n (k + 1) _ (fun i a h1 h2 => h i a (by omega) (by omega))
def zz_any (c : Nat → Bool) : Nat → Nat → Bool
  | 0, _ => false
  | n + 1, k => c k || zz_any c n (k + 1)
theorem zz_any_iff {c : Nat → Bool} : ∀ (n k : Nat), zz_any c n k = true ↔ ∃ i, k ≤ i ∧ i < k + n ∧ c i = true
  | 0, k => by
    constructor
    · intro h
      cases h
    · rintro ⟨i, h1, h2, -⟩
      omega
  | n + 1, k => by
    show (c k || zz_any c n (k + 1)) = true ↔ _
    rw [Bool.or_eq_true, zz_any_iff n (k + 1)]
    constructor
    · rintro (h | ⟨i, h1, h2, h3⟩)
      · exact ⟨k, Nat.le_refl _, by omega, h⟩
      · exact ⟨i, by omega, by omega, h3⟩
    · rintro ⟨i, h1, h2, h3⟩
      rcases Nat.eq_or_lt_of_le h1 with h4 | h4
      · subst h4
        exact Or.inl h3
      · exact Or.inr ⟨i, h4, by omega, h3⟩
theorem zz_scan_any {γ : Type} {c : Nat → Bool} {t d : γ} : ∀ (n k : Nat), zz_scan c (fun _ => t) d n k = if zz_any c n k = true then t else d
  | 0, k => rfl
  | n + 1, k => by
    show (if c k = true then t else zz_scan c (fun _ => t) d n (k + 1)) = if (c k || zz_any c n (k + 1)) = true then t else d
    rw [zz_scan_any n (k + 1)]
    cases hk : c k with
    | true => simp
    | false => simp
theorem zz_fold_or {c : Nat → Bool} : ∀ (n k : Nat) (b : Bool), zz_fold (fun i b => b || c i) n k b = true ↔ (b = true ∨ ∃ i, k ≤ i ∧ i < k + n ∧ c i = true)
  | 0, k, b => by
    constructor
    · intro h
      exact Or.inl h
    · rintro (h | ⟨i, h1, h2, -⟩)
      · exact h
      · omega
  | n + 1, k, b => by
    show zz_fold (fun i b => b || c i) n (k + 1) (b || c k) = true ↔ _
    rw [zz_fold_or n (k + 1), Bool.or_eq_true]
    constructor
    · rintro ((h | h) | ⟨i, h1, h2, h3⟩)
      · exact Or.inl h
      · exact Or.inr ⟨k, Nat.le_refl _, by omega, h⟩
      · exact Or.inr ⟨i, by omega, by omega, h3⟩
    · rintro (h | ⟨i, h1, h2, h3⟩)
      · exact Or.inl (Or.inl h)
      · rcases Nat.eq_or_lt_of_le h1 with h4 | h4
        · subst h4
          exact Or.inl (Or.inr h3)
        · exact Or.inr ⟨i, h4, by omega, h3⟩
theorem zz_nI_ix {k : Nat} (h : k < 2147483648) : (nI k).toNatClampNeg = k := by
  have h1 : (nI k).toInt = (k : Int) := nI_toInt h
  show (nI k).toInt.toNat = k
  rw [h1]
  omega
theorem zz_nI_in {k n : Nat} (h : k < n) (hn : n ≤ 2147483648) : zz_in (nI k) n = true := by
  have h1 : (nI k).toInt = (k : Int) := nI_toInt (by omega)
  simp only [zz_in, Bool.and_eq_true, decide_eq_true_eq]
  refine ⟨Int32.le_iff_toInt_le.mpr (by rw [h1]; simp), ?_⟩
  rw [zz_nI_ix (by omega)]
  exact h
theorem zz_nI_le {a b : Nat} (ha : a < 2147483648) (hb : b < 2147483648) : nI a ≤ nI b ↔ a ≤ b := by
  rw [Int32.le_iff_toInt_le, nI_toInt ha, nI_toInt hb]
  omega
theorem zz_nI_lt {a b : Nat} (ha : a < 2147483648) (hb : b < 2147483648) : nI a < nI b ↔ a < b := by
  rw [Int32.lt_iff_toInt_lt, nI_toInt ha, nI_toInt hb]
  omega
theorem zz_nI_add (a b : Nat) : nI a + nI b = nI (a + b) := (Int32.ofNat_add a b).symm
theorem zz_nI_mul (a b : Nat) : nI a * nI b = nI (a * b) := (Int32.ofNat_mul a b).symm
theorem zz_nI_succ (k : Nat) : nI k + 1 = nI (k + 1) := zz_nI_add k 1
