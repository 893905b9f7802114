section SS4
variable {I X : Nat → Nat → Int32} {s s' : Nat → Int32} {t pc : Nat} {y : Int64}
theorem q_pcm (e : ∀ j, j < 126 → X 24 j = I 24 j) (p k : Nat) : pcm X p k = pcm I p k := by
  unfold pcm
  split
  · unfold cnt
    exact zz_fold_congr 72 0 0 (fun i a _ hi => by rw [e i (by omega)])
  · exact zz_fold_congr 54 0 0 (fun i a _ hi => by rw [e (72 + i) (by omega)])
theorem q_ptm (e : ∀ j, j < 126 → X 24 j = I 24 j) {p : Nat} (ec : X 24 (151 + 5 * p + 4) = I 24 (151 + 5 * p + 4)) (e9 : X 24 189 = I 24 189) : ptm X p = ptm I p := by
  unfold ptm
  rw [q_pcm e, q_pcm e, ec, e9]
theorem q_hRm (e : ∀ j, j < 126 → X 24 j = I 24 j) (c p : Nat) : hRm X c p = hRm I c p := by
  unfold hRm
  exact zz_fold_congr 72 0 false (fun i a _ hi => by rw [e i (by omega)])
theorem q_chm (e : ∀ j, j < 126 → X 24 j = I 24 j) (p : Nat) : chm X p = chm I p := by
  have : ∀ c, c < 54 → chC X p c = chC I p c := fun c hc => by
    unfold chC
    rw [q_hRm e, wk_congr (F := Fm X p) (G := Fm I p) (fun c hc => by unfold Fm isMi; rw [e _ (by omega)]) 15 true c _ _ hc (fun x hx => by rw [e x (by omega)])]
  unfold chm
  exact zz_fold_congr 54 0 0 (fun i a _ hi => by rw [this i (by omega)])
theorem q_awM (e : ∀ j, j < 126 → X 24 j = I 24 j) (e9 : X 24 189 = I 24 189) (pc : Nat) : awM X pc = awM I pc := by
  have hm : mW X pc = mW I pc := by
    unfold mW
    refine zz_fold_congr pc 0 (0, -1) (fun i a _ hi => ?_)
    unfold mwS
    rw [q_chm e]
  unfold awM kpM
  rw [hm, e9, q_chm e]
theorem Vaw.quiet (h : Vaw pc s) (e : ∀ j, j < 126 → s' j = s j) (e9 : s' 189 = s 189) : Vaw pc s' := by
  unfold Vaw at h ⊢
  rw [q_awM (X := fun _ => s') (I := fun _ => s) e e9, e9, h]
theorem up_self {a j : Nat} {v : Int32} (h : v = I a j) : zz_up I a j v = I := by
  subst h
  funext b i
  unfold zz_up
  split
  · split
    · simp_all
    · rfl
  · rfl
theorem lkA_id {f : Nat} (h1 : awM I pc = I 24 189) (h2 : I 24 180 = nI f) (hf : f ≤ 8) (h3 : 3 ≤ f → f ≤ 7 → ¬ I 23 16 ≤ ptm I t) : lkA I pc t = I := by
  unfold lkA
  rw [up_self h1, h2, if_neg]
  rintro ⟨z1, z2, z3⟩
  have y1 := (zz_nI_le (a := 3) (b := f) (by decide) (by omega)).mp z1
  have y2 := (zz_nI_le (a := f) (b := 7) (by omega) (by decide)).mp z2
  exact h3 y1 y2 z3
theorem fr_aw (e : X 24 = I 24) (pc : Nat) : awM X pc = awM I pc := q_awM (fun j _ => by rw [e]) (by rw [e]) pc
-- the end of a call that went through
theorem Rel.fin (h : Rel I y) {pc : Nat} (hp : I 5 5 = nI pc) (hpc : pc ≤ 4) (hp2 : 2 ≤ pc) {I1 W : Nat → Nat → Int32}
    (c1 : ∀ b j, b < 9 → ¬ (b = 5 ∧ j = 9) → I1 b j = I b j) (c2 : I1 5 9 = 1) (c3 : ∀ i j, i ≤ 6 → (i = 0 → j < 12) → I1 (16 + i) j = I (9 + i) j) (c4 : ∀ b j, 23 ≤ b → I1 b j = I b j)
    (m1 : ∀ b j, b < 39 → ¬ b = 24 → W b j = rmM I1 b j) (hX : Sm W X) (k6 : Cst I1 9 (W 24)) (k7 : Vst pc (I 5 6) (W 24)) : Rel X y ∧ X 23 0 = 0 := by
  have e0 : ∀ b j, b < 39 → ¬ b = 24 → X b j = rmM I1 b j := fun b j hb hb2 => (hX b (by omega) j).trans (m1 b j hb hb2)
  have e1 : ∀ b j, b < 23 → X b j = I1 b j := fun b j hb => (e0 b j (by omega) (by omega)).trans (rmM_ne (by omega) (Or.inl (by omega)))
  have e24 : X 24 = W 24 := funext (hX 24 (by omega))
  have r0 : rmM I1 23 0 = 0 := by
    unfold rmM
    rw [up_nf (by decide), cpm_ne (by decide), up_eq]
  refine ⟨Rel.step h hp hpc hp2 ?_ ?_ ?_ ?_ ?_ ?_ ?_ ?_ ?_, (e0 23 0 (by omega) (by omega)).trans r0⟩
  · intro b j hb h5 h9
    rcases Nat.lt_or_ge b 9 with z | z
    · rw [e1 b j (by omega), c1 b j z (by omega)]
    · rw [e0 b j hb (by omega), rmM_ne (by omega) (Or.inl (by omega)), c4 b j (by omega)]
  · intro j hj
    rw [e1 5 j (by omega), c1 5 j (by omega) (by omega)]
  · rw [e1 5 9 (by omega), c2]
  · intro j h1 h2
    rw [e0 23 j (by omega) (by omega), rmM_ne (by omega) (Or.inr ⟨h1, h2⟩), c4 23 j (by omega)]
  · rw [e0 23 3 (by omega) (by omega)]
    unfold rmM
    exact up_eq
  · intro i j hi hj
    rw [e1 (16 + i) j (by omega), c3 i j hi hj]
  · intro j hj
    rw [e0 25 j (by omega) (by omega), rmM_25 hj, c4 24 j (by omega)]
  · rw [e24]
    exact k6.cong (fun b j hb hb2 => e1 b j (by omega)) (fun _ => rfl)
  · rw [e24]
    exact k7
-- moving goods
def mvS (s : Nat → Int32) (f t g : Nat) (c : Int32) : Nat → Int32 := sup (sup s (126 + (f * 5 + g)) (s (126 + (f * 5 + g)) - c)) (126 + (t * 5 + g)) (sup s (126 + (f * 5 + g)) (s (126 + (f * 5 + g)) - c) (126 + (t * 5 + g)) + c)
theorem Cst.mv (h : Cst I 9 s) {f t g : Nat} (hf : f < 5) (ht : t < 5) (hg : g < 5) (c : Int32) : Cst (mv I f t g c) 9 (mvS s f t g c) := by
  have h1 := h.u12 (i := f * 5 + g) (by omega) (v := I 12 (f * 5 + g) - c) (w := s (126 + (f * 5 + g)) - c) (by rw [h.hd (by omega)])
  exact h1.u12 (i := t * 5 + g) (by omega) (by rw [h1.hd (by omega)])
def mvN (N : Nat → Nat) (f t g c : Nat) : Nat → Nat := nup (nup N (126 + (f * 5 + g)) (N (126 + (f * 5 + g)) - c)) (126 + (t * 5 + g)) (nup N (126 + (f * 5 + g)) (N (126 + (f * 5 + g)) - c) (126 + (t * 5 + g)) + c)
theorem nI_sub' {a b : Nat} (h : b ≤ a) : nI a - nI b = nI (a - b) := by
  have : nI a = nI (a - b) + nI b := by
    rw [zz_nI_add]
    congr 1
    omega
  rw [this, Int32.add_sub_cancel]
theorem rep_mv {N : Nat → Nat} (h : ∀ j, j < 180 → s j = nI (N j)) {f t g c : Nat} (hf : f < 5) (ht : t < 5) (hg : g < 5) (hc : c ≤ N (126 + (f * 5 + g))) : ∀ j, j < 180 → mvS s f t g (nI c) j = nI (mvN N f t g c j) := by
  have h1 := rep_sup h (i := 126 + (f * 5 + g)) (v := N (126 + (f * 5 + g)) - c) (x := s (126 + (f * 5 + g)) - nI c) (by rw [h _ (by omega), nI_sub' hc])
  exact rep_sup h1 (by rw [h1 _ (by omega), zz_nI_add])
theorem mvN_ne {N : Nat → Nat} {f t g c j : Nat} (h1 : ¬ j = 126 + (f * 5 + g)) (h2 : ¬ j = 126 + (t * 5 + g)) : mvN N f t g c j = N j := by
  unfold mvN
  rw [nup_ne h2, nup_ne h1]
theorem mvS_ne {f t g j : Nat} {c : Int32} (h1 : ¬ j = 126 + (f * 5 + g)) (h2 : ¬ j = 126 + (t * 5 + g)) : mvS s f t g c j = s j := by
  unfold mvS
  rw [sup_ne h2, sup_ne h1]
def sumG (N : Nat → Nat) (g : Nat) : Nat := N (126 + g) + N (131 + g) + N (136 + g) + N (141 + g) + N (146 + g)
theorem mvN_sum {N : Nat → Nat} {f t g c : Nat} (hf : f < 5) (ht : t < 5) (hg : g < 5) (hc : c ≤ N (126 + (f * 5 + g))) {g' : Nat} (hg' : g' < 5) : sumG (mvN N f t g c) g' = sumG N g' := by
  have hf5 : f = 0 ∨ f = 1 ∨ f = 2 ∨ f = 3 ∨ f = 4 := by omega
  have ht5 : t = 0 ∨ t = 1 ∨ t = 2 ∨ t = 3 ∨ t = 4 := by omega
  by_cases z : g' = g
  · subst z
    unfold sumG mvN nup
    rcases hf5 with rfl | rfl | rfl | rfl | rfl <;> rcases ht5 with rfl | rfl | rfl | rfl | rfl <;> simp only [Nat.zero_mul, Nat.zero_add, Nat.one_mul, Nat.reduceMul, ← Nat.add_assoc, Nat.reduceAdd] at hc ⊢ <;> simp <;> omega
  · unfold sumG
    rw [mvN_ne (by omega) (by omega), mvN_ne (by omega) (by omega), mvN_ne (by omega) (by omega), mvN_ne (by omega) (by omega), mvN_ne (by omega) (by omega)]
theorem roadN_c {N N' : Nat → Nat} (h : ∀ j, j < 72 → N' j = N j) (p : Nat) : roadN N' p = roadN N p := by
  unfold roadN
  exact cN_congr 72 (fun k hk => by rw [h k hk])
theorem hutN_c {N N' : Nat → Nat} (h : ∀ j, 72 ≤ j → j < 126 → N' j = N j) (p : Nat) : hutN N' p = hutN N p := by
  unfold hutN
  exact cN_congr 54 (fun k hk => by rw [h _ (by omega) (by omega)])
theorem Vn.upd {D D' : Nat} {N N' : Nat → Nat} (h : Vn pc D N) (h1 : ∀ j, j < 126 → N' j = N j) (h2 : ∀ g, g < 5 → sumG N' g = 19) (h3 : ∀ j, 151 ≤ j → j < 176 → N' j ≤ D') (h4 : ∀ j, 176 ≤ j → j < 180 → N' j ≤ 100) : Vn pc D' N' := by
  obtain ⟨g1, g2, g3, g4, g5, g6⟩ := h
  refine ⟨fun e he => by rw [h1 e (by omega)]; exact g1 e he, fun c hc => by rw [h1 _ (by omega)]; exact g2 c hc, h2, h3, h4, fun p hp => by rw [roadN_c (fun j hj => h1 j (by omega))]; exact g6 p hp⟩
end SS4
