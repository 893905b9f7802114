section SS2
variable {I X : Nat → Nat → Int32} {s s' : Nat → Int32} {t pc : Nat} {y : Int64}
theorem b_pcm (e : ∀ j, j < 193 → X 24 j = I 24 j) (p k : Nat) : pcm X p k = pcm I p k := by
  unfold pcm
  split
  · unfold cnt
    exact zz_fold_congr 72 0 0 (fun i a _ hi => by rw [e i (by omega)])
  · exact zz_fold_congr 54 0 0 (fun i a _ hi => by rw [e (72 + i) (by omega)])
theorem b_ptm (e : ∀ j, j < 193 → X 24 j = I 24 j) {p : Nat} (hp : p < 4) : ptm X p = ptm I p := by
  unfold ptm
  rw [b_pcm e, b_pcm e, e _ (by omega), e 189 (by omega)]
theorem b_hRm (e : ∀ j, j < 193 → X 24 j = I 24 j) (c p : Nat) : hRm X c p = hRm I c p := by
  unfold hRm
  exact zz_fold_congr 72 0 false (fun i a _ hi => by rw [e i (by omega)])
theorem b_Fm (e : ∀ j, j < 193 → X 24 j = I 24 j) {p c : Nat} (hc : c < 54) : Fm X p c = Fm I p c := by
  unfold Fm isMi
  rw [e _ (by omega)]
theorem b_chm (e : ∀ j, j < 193 → X 24 j = I 24 j) (p : Nat) : chm X p = chm I p := by
  have : ∀ c, c < 54 → chC X p c = chC I p c := fun c hc => by
    unfold chC
    rw [b_hRm e, wk_congr (F := Fm X p) (G := Fm I p) (fun c hc => b_Fm e hc) 15 true c _ _ hc (fun x hx => by rw [e x (by omega)])]
  unfold chm
  exact zz_fold_congr 54 0 0 (fun i a _ hi => by rw [this i (by omega)])
theorem b_mW (e : ∀ j, j < 193 → X 24 j = I 24 j) (pc : Nat) : mW X pc = mW I pc := by
  unfold mW
  refine zz_fold_congr pc 0 (0, -1) (fun i a _ hi => ?_)
  unfold mwS
  rw [b_chm e]
theorem b_awM (e : ∀ j, j < 193 → X 24 j = I 24 j) (pc : Nat) : awM X pc = awM I pc := by
  unfold awM kpM
  rw [b_mW e, e 189 (by omega), b_chm e]
theorem Vfl.cong {f t D x : Nat} (h : Vfl pc f t D x s) (e : ∀ j, 180 ≤ j → j < 193 → s' j = s j) : Vfl pc f t D x s' := by
  unfold Vfl at h ⊢
  rw [e 180 (by omega) (by omega), e 181 (by omega) (by omega), e 183 (by omega) (by omega), e 184 (by omega) (by omega), e 186 (by omega) (by omega), e 189 (by omega) (by omega), e 190 (by omega) (by omega), e 191 (by omega) (by omega)]
  exact h
theorem Vst.cong {tg : Int32} (h : Vst pc tg s) (hpc : pc ≤ 4) (e : ∀ j, j < 193 → s' j = s j) : Vst pc tg s' := by
  obtain ⟨N, f, t, D, x, h1, h2, h3, h4, h5, h6⟩ := h
  have ht : t < pc := h3.2.2.2.2.1
  refine ⟨N, f, t, D, x, fun j hj => by rw [e j (by omega)]; exact h1 j hj, h2, h3.cong (fun j _ hj => e j hj), ?_, ?_, ?_⟩
  · unfold Vsu at h4 ⊢
    rw [e 192 (by omega)]
    exact h4
  · unfold Vaw at h5 ⊢
    rw [b_awM (X := fun _ => s') (I := fun _ => s) e, e 189 (by omega), h5]
  · intro a b
    rw [b_ptm (X := fun _ => s') (I := fun _ => s) e (by omega)]
    exact h6 a b
theorem Cst.congb {a b : Nat} {s s' : Nat → Int32} (h : Cst I a s) (h1 : ∀ i j, i ≤ 6 → (i = 0 → j < 12) → X (b + i) j = I (a + i) j) (h2 : ∀ j, j < 193 → s' j = s j) : Cst X b s' := by
  obtain ⟨g1, g2, g3, g4, g5, g6, g7, g8, g9, g10, g11, g12, g13, g14, g15, g16, g17, g18, g19⟩ := h
  have h0 : ∀ j, j < 12 → X b j = I a j := fun j hj => h1 0 j (by omega) (fun _ => hj)
  refine ⟨fun e he => ?_, fun e he => ?_, fun e he => ?_, fun e he => ?_, fun e he => ?_, fun e he => ?_, ?_, ?_, ?_, ?_, ?_, ?_, ?_, ?_, ?_, fun z => ?_, fun z => ?_, fun z => ?_, fun z => ?_⟩
  · rw [h1 1 _ (by omega) (by omega), h2 _ (by omega)]; exact g1 e he
  · rw [h1 2 _ (by omega) (by omega), h2 _ (by omega)]; exact g2 e he
  · rw [h1 3 _ (by omega) (by omega), h2 _ (by omega)]; exact g3 e he
  · rw [h1 4 _ (by omega) (by omega), h2 _ (by omega)]; exact g4 e he
  · rw [h1 5 _ (by omega) (by omega), h2 _ (by omega)]; exact g5 e he
  · rw [h1 6 _ (by omega) (by omega), h2 _ (by omega)]; exact g6 e he
  · rw [h0 _ (by omega), h2 _ (by omega)]; exact g7
  · rw [h0 _ (by omega), h2 _ (by omega)]; exact g8
  · rw [h0 _ (by omega), h2 _ (by omega)]; exact g9
  · rw [h0 _ (by omega), h2 _ (by omega)]; exact g10
  · rw [h0 _ (by omega), h2 _ (by omega)]; exact g11
  · rw [h0 _ (by omega), h2 _ (by omega)]; exact g12
  · rw [h0 _ (by omega), h2 _ (by omega)]; exact g13
  · rw [h0 _ (by omega), h2 _ (by omega)]; exact g14
  · rw [h0 _ (by omega), h2 _ (by omega)]; exact g15
  · rw [h2 _ (by omega)] at z
    rw [h0 _ (by omega), h2 _ (by omega)]; exact g16 z
  · rw [h2 _ (by omega)] at z
    rw [h0 _ (by omega), h2 _ (by omega)]; exact g17 z
  · rw [h2 _ (by omega)] at z
    rw [h0 _ (by omega), h2 _ (by omega)]; exact g18 z
  · rw [h2 _ (by omega)] at z
    rw [h0 _ (by omega), h2 _ (by omega)]; exact g19 z
-- a step that remembers
theorem Rel.step (h : Rel I y) {pc : Nat} (hp : I 5 5 = nI pc) (hpc : pc ≤ 4) (hp2 : 2 ≤ pc)
    (k1 : ∀ b j, b < 39 → ¬ b = 5 → ¬ (9 ≤ b ∧ b ≤ 25) → X b j = I b j)
    (k2 : ∀ j, ¬ j = 9 → X 5 j = I 5 j) (k2' : X 5 9 = 1) (k3 : ∀ j, ¬ j = 0 → ¬ j = 3 → X 23 j = I 23 j) (k3' : X 23 3 = 1)
    (k4 : ∀ i j, i ≤ 6 → (i = 0 → j < 12) → X (16 + i) j = I (9 + i) j) (k5 : ∀ j, j < 193 → X 25 j = I 24 j)
    (k6 : Cst X 9 (X 24)) (k7 : Vst pc (I 5 6) (X 24)) : Rel X y := by
  obtain ⟨g1, g2, ⟨gd, nm, g3⟩, ⟨P, pe, pk, g4⟩, g5, g6, g7, g8, pc', g9, g10, g11, g12, g13⟩ := h
  have epc : pc' = pc := (zz_nI_eq (by omega) (by omega)).mp (by rw [← g9, hp])
  subst epc
  rcases g13 with z | ⟨z1, z2, z3⟩
  · omega
  refine ⟨g1.cong (fun b j hb => k1 b j (by omega) (by omega) (by omega)), g2.cong (fun b j hb hb2 => k1 b j (by omega) (by omega) (by omega)), ⟨gd, nm, g3.cong (fun b j hb => k1 b j (by omega) (by omega) (by omega))⟩, ⟨P, pe, pk, g4.cong (fun b j hb => k1 b j (by omega) (by omega) (by omega)) (k2 3 (by omega)) (k3 11 (by omega) (by omega))⟩, fun k hk => by rw [k1 35 k (by omega) (by omega) (by omega)]; exact g5 k hk, Or.inr k2', by rw [k3', k2'], by rw [k3 16 (by omega) (by omega), k2 6 (by omega)]; exact g8, pc', by rw [k2 5 (by omega)]; exact g9, by rw [k3 15 (by omega) (by omega)]; exact g10, g11, k6, Or.inr ⟨hp2, ?_, fun _ => ⟨?_, ?_⟩⟩⟩
  · rw [k2 6 (by omega)]
    exact k7
  · exact g12.congb (fun i j hi hj => k4 i j hi hj) k5
  · rw [k2 6 (by omega)]
    exact z2.cong hpc k5
end SS2
