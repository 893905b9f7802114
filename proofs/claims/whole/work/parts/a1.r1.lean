theorem i32_sub1 (x y : Int32) : (x - 1 = y) = (x = y + 1) := by
  apply propext
  constructor
  · intro h
    rw [← h, Int32.sub_add_cancel]
  · intro h
    rw [h, Int32.add_sub_cancel]
theorem sub1_nI (x : Int32) (t : Nat) : (x - 1 = nI t) = (x = nI (t + 1)) := by
  rw [i32_sub1, zz_nI_succ]
theorem sub1_m1 (x : Int32) : (x - 1 = -1) = (x = 0) := by
  rw [i32_sub1]
  rfl
def Cst (I : Nat → Nat → Int32) (a : Nat) (s : Nat → Int32) : Prop := (∀ e, e < 72 → I (a + 1) e = s e - 1) ∧ (∀ c, c < 54 → I (a + 2) c = s (72 + c) - 1) ∧ (∀ j, j < 25 → I (a + 3) j = s (126 + j)) ∧ (∀ j, j < 20 → I (a + 4) j = s (151 + j)) ∧ (∀ j, j < 5 → I (a + 5) j = s (171 + j)) ∧ (∀ j, j < 4 → I (a + 6) j = s (176 + j)) ∧ I a 0 = s 180 ∧ I a 1 = s 181 ∧ I a 4 = s 182 ∧ I a 5 = s 183 ∧ I a 7 = s 186 ∧ I a 8 = s 187 ∧ I a 9 = s 188 ∧ I a 10 = s 189 ∧ I a 11 = s 184 ∧ (s 180 = 7 → I a 6 = s 185) ∧ (s 180 = 2 → I a 3 = s 192) ∧ (s 180 = 1 → I a 2 = s 191) ∧ (s 180 = 2 → I a 2 + 1 = s 191)
section RR1
variable {I : Nat → Nat → Int32} {s : Nat → Int32} {t pc : Nat}
theorem Cst.rd (h : Cst I 9 s) {e : Nat} (he : e < 72) : I 10 e = s e - 1 := h.1 e he
theorem Cst.bd (h : Cst I 9 s) {c : Nat} (hc : c < 54) : I 11 c = s (72 + c) - 1 := h.2.1 c hc
theorem Cst.hd (h : Cst I 9 s) {j : Nat} (hj : j < 25) : I 12 j = s (126 + j) := h.2.2.1 j hj
theorem Cst.cd (h : Cst I 9 s) {j : Nat} (hj : j < 20) : I 13 j = s (151 + j) := h.2.2.2.1 j hj
theorem Cst.fr (h : Cst I 9 s) {j : Nat} (hj : j < 5) : I 14 j = s (171 + j) := h.2.2.2.2.1 j hj
theorem Cst.mu (h : Cst I 9 s) {j : Nat} (hj : j < 4) : I 15 j = s (176 + j) := h.2.2.2.2.2.1 j hj
theorem Cst.ph (h : Cst I 9 s) : I 9 0 = s 180 := h.2.2.2.2.2.2.1
theorem Cst.on (h : Cst I 9 s) : I 9 1 = s 181 := h.2.2.2.2.2.2.2.1
theorem Cst.bl (h : Cst I 9 s) : I 9 4 = s 182 := h.2.2.2.2.2.2.2.2.1
theorem Cst.dr (h : Cst I 9 s) : I 9 5 = s 183 := h.2.2.2.2.2.2.2.2.2.1
theorem Cst.of (h : Cst I 9 s) : I 9 7 = s 186 := h.2.2.2.2.2.2.2.2.2.2.1
theorem Cst.gi (h : Cst I 9 s) : I 9 8 = s 187 := h.2.2.2.2.2.2.2.2.2.2.2.1
theorem Cst.ge (h : Cst I 9 s) : I 9 9 = s 188 := h.2.2.2.2.2.2.2.2.2.2.2.2.1
theorem Cst.aw (h : Cst I 9 s) : I 9 10 = s 189 := h.2.2.2.2.2.2.2.2.2.2.2.2.2.1
theorem Cst.pl (h : Cst I 9 s) : I 9 11 = s 184 := h.2.2.2.2.2.2.2.2.2.2.2.2.2.2.1
theorem Cst.fe (h : Cst I 9 s) : s 180 = 7 → I 9 6 = s 185 := h.2.2.2.2.2.2.2.2.2.2.2.2.2.2.2.1
theorem Cst.lh (h : Cst I 9 s) : s 180 = 2 → I 9 3 = s 192 := h.2.2.2.2.2.2.2.2.2.2.2.2.2.2.2.2.1
theorem Cst.s1 (h : Cst I 9 s) : s 180 = 1 → I 9 2 = s 191 := h.2.2.2.2.2.2.2.2.2.2.2.2.2.2.2.2.2.1
theorem Cst.s2 (h : Cst I 9 s) : s 180 = 2 → I 9 2 + 1 = s 191 := h.2.2.2.2.2.2.2.2.2.2.2.2.2.2.2.2.2.2
theorem zz_any_congr {c c' : Nat → Bool} : ∀ (n k : Nat), (∀ i, k ≤ i → i < k + n → c i = c' i) → zz_any c n k = zz_any c' n k
  | 0, _, _ => rfl
  | n + 1, k, h => by
    show (c k || zz_any c n (k + 1)) = (c' k || zz_any c' n (k + 1))
    rw [h k (Nat.le_refl k) (by omega), zz_any_congr n (k + 1) (fun i h1 h2 => h i (by omega) (by omega))]
theorem fold_or_any {c : Nat → Bool} (n k : Nat) (b : Bool) : zz_fold (fun i b => b || c i) n k b = (b || zz_any c n k) := by
  have h1 := zz_fold_or (c := c) n k b
  have h2 := zz_any_iff (c := c) n k
  cases hb : zz_fold (fun i b => b || c i) n k b with
  | true =>
    rcases h1.mp hb with z | z
    · rw [z]; rfl
    · rw [h2.mpr z]; simp
  | false =>
    cases hz : (b || zz_any c n k) with
    | false => rfl
    | true =>
      have := h1.mpr (by
        rw [Bool.or_eq_true] at hz
        rcases hz with z | z
        · exact Or.inl z
        · exact Or.inr (h2.mp z))
      rw [hb] at this
      cases this
theorem fold_and_any {c : Nat → Bool} : ∀ (n k : Nat) (b : Bool), zz_fold (fun i b => b && c i) n k b = (b && !zz_any (fun i => !c i) n k)
  | 0, k, b => by
    show b = (b && !false)
    simp
  | n + 1, k, b => by
    show zz_fold (fun i b => b && c i) n (k + 1) (b && c k) = (b && !((!c k) || zz_any (fun i => !c i) n (k + 1)))
    rw [fold_and_any n (k + 1)]
    cases b <;> cases c k <;> simp
theorem r_cPay (hb : Tb I) (hm : Tm I) (h : Cst I 9 (I 24)) {k : Nat} (ht : t < 4) (hk : k < 4) : cPay I t k = cPm I t k := by
  unfold cPay cPm
  rw [fold_and_any 5 0 true, Bool.true_and]
  congr 1
  refine zz_any_congr 5 0 (fun g _ hg => ?_)
  rw [h.hd (by omega), hb.1, hm.2.2.2, show 126 + (t * 5 + g) = 126 + 5 * t + g by omega, show k * 5 + g = 5 * k + g by omega, ← decide_not]
  congr 1
  exact propext Int32.not_le.symm
theorem r_cnt0 (h : Cst I 9 (I 24)) : cnt I 10 72 (nI t) = cnt I 24 72 (nI (t + 1)) := by
  unfold cnt
  refine zz_fold_congr 72 0 0 (fun e a _ he => ?_)
  simp only [h.rd (e := e) (by omega), sub1_nI]
theorem r_cnt1 (h : Cst I 9 (I 24)) (k : Nat) (hk : k = 1 ∨ k = 2) : cnt I 11 54 (nI (if k = 1 then t else t + 8)) = pcm I t k := by
  have e0 : pcm I t k = zz_fold (fun c a => if I 24 (72 + c) = nI (if k = 1 then t + 1 else t + 9) then a + 1 else a) 54 0 0 := by
    unfold pcm
    rw [if_neg (by omega : ¬ k = 0)]
  rw [e0]
  unfold cnt
  refine zz_fold_congr 54 0 0 (fun e a _ he => ?_)
  simp only [h.bd (c := e) (by omega), sub1_nI]
  rcases hk with rfl | rfl <;> rfl
theorem r_hPL (h : Cst I 9 (I 24)) {k : Nat} (hk : k < 3) : hPL I t k = !decide ((if k = 0 then 15 else if k = 1 then 5 else 4) ≤ pcm I t k) := by
  unfold hPL
  have h3 : k = 0 ∨ k = 1 ∨ k = 2 := by omega
  rcases h3 with rfl | rfl | rfl
  · rw [r_cnt0 h]
    rfl
  · rw [← r_cnt1 h 1 (Or.inl rfl)]
    rfl
  · rw [← r_cnt1 h 2 (Or.inr rfl)]
    rfl
theorem r_hRd (h : Cst I 9 (I 24)) {c : Nat} (hc : c < 54) : hRd I t c = hRm I c t := by
  unfold hRd hRm
  rw [fold_or_any, Bool.false_or]
  cases hz : zz_any (fun i => decide (I 24 i = nI (t + 1)) && (decide (ecN (2 * i) = c) || decide (ecN (2 * i + 1) = c))) 72 0 with
  | true =>
    obtain ⟨e, -, he, h1⟩ := (zz_any_iff 72 0).mp hz
    rw [Bool.and_eq_true] at h1
    obtain ⟨k, hk, g1, g2⟩ := (inc_iff hc (by omega)).mp h1.2
    refine (zz_any_iff 3 0).mpr ⟨k, by omega, by omega, ?_⟩
    simp only [g1, g2, h.rd (e := e) (by omega), sub1_nI, h1.1, Bool.and_self]
  | false =>
    cases hy : zz_any (fun k => ceB (c * 3 + k) && decide (I 10 (ceN (c * 3 + k)) = nI t)) 3 0 with
    | false => rfl
    | true =>
      obtain ⟨k, -, hk, h1⟩ := (zz_any_iff 3 0).mp hy
      rw [Bool.and_eq_true] at h1
      have g5 := List.all_eq_true.mp ce_inc (c * 3 + k) (List.mem_range.mpr (by omega))
      rw [h1.1, show (c * 3 + k) / 3 = c by omega] at g5
      simp only [Bool.not_true, Bool.false_or, Bool.and_eq_true, decide_eq_true_eq] at g5
      have : zz_any (fun i => decide (I 24 i = nI (t + 1)) && (decide (ecN (2 * i) = c) || decide (ecN (2 * i + 1) = c))) 72 0 = true := (zz_any_iff 72 0).mpr ⟨ceN (c * 3 + k), by omega, by omega, by
        have h2 := h1.2
        simp only [h.rd g5.2, sub1_nI] at h2
        rw [h2]
        exact g5.1⟩
      rw [hz] at this
      cases this
end RR1
