section SS5
variable {I X : Nat → Nat → Int32} {s s' : Nat → Int32} {t pc : Nat} {y : Int64}
theorem V_roads {W : Nat → Nat → Int32} {N : Nat → Nat} {D : Nat} (h1 : ∀ j, j < 180 → W 24 j = nI (N j)) (h2 : Vn pc D N) (hpc : pc ≤ 4) : ∀ p, p < 4 → cnt W 24 72 (nI (p + 1)) ≤ 15 := fun p hp => by
  rw [cnt_cN]
  have := h2.2.2.2.2.2 p hp
  unfold roadN at this
  rw [cN_congr (P := fun s => decide (W 24 s = nI (p + 1))) (Q := fun e => decide (N e = p + 1)) 72 (fun k hk => by
    have h3 := h2.1 k hk
    rw [h1 k (by omega)]
    congr 1
    exact zz_eqN (by omega) (by omega))]
  exact this
theorem V_corners {N : Nat → Nat} {D : Nat} (h1 : ∀ j, j < 180 → s j = nI (N j)) (h2 : Vn pc D N) (hpc : pc ≤ 4) : ∀ c, c < 54 → s (72 + c) = nI (N (72 + c)) ∧ N (72 + c) ≤ 12 := fun c hc => ⟨h1 _ (by omega), by have := h2.2.1 c hc; omega⟩
theorem V_hand {N : Nat → Nat} {D : Nat} (h2 : Vn pc D N) {j : Nat} (h3 : 126 ≤ j) (h4 : j < 151) : N j ≤ 19 := by
  have h5 := h2.2.2.1
  have : j = 126 + (j - 126) % 5 ∨ j = 131 + (j - 126) % 5 ∨ j = 136 + (j - 126) % 5 ∨ j = 141 + (j - 126) % 5 ∨ j = 146 + (j - 126) % 5 := by omega
  have h6 := h5 ((j - 126) % 5) (by omega)
  generalize (j - 126) % 5 = g at *
  rcases this with z | z | z | z | z <;> subst z <;> omega
theorem Vst.mkq {tg : Int32} {N : Nat → Nat} {f t D x : Nat} (haw : Vaw pc s) (h1 : ∀ j, j < 180 → s' j = nI (N j)) (h2 : Vn pc D N) (h3 : Vfl pc f t D x s') (hf : 3 ≤ f) (e1 : ∀ j, j < 126 → s' j = s j) (e2 : s' 189 = s 189) (h4 : f ≤ 7 → ¬ tg ≤ ptm (fun _ => s') t) : Vst pc tg s' := by
  refine ⟨N, f, t, D, x, h1, h2, h3, ⟨fun z => by omega, fun z => by omega, fun z => by omega⟩, haw.quiet e1 e2, fun _ => h4⟩
theorem pt_q {tg : Int32} {f t : Nat} (h : Vpt f t tg s) (hf : 3 ≤ f) (hf7 : f ≤ 7) (e1 : ∀ j, j < 126 → s' j = s j) (e2 : s' 189 = s 189) (e3 : s' (151 + 5 * t + 4) = s (151 + 5 * t + 4)) : ¬ tg ≤ ptm (fun _ => s') t := by
  rw [q_ptm (X := fun _ => s') (I := fun _ => s) e1 e3 e2]
  exact h hf hf7
-- give
theorem cN9 {a : Nat} (h : a < 1000) : a < 2147483648 := by omega
theorem give_V {tg : Int32} {N : Nat → Nat} {t D x p g : Nat} {v : Int32} (hpc : pc ≤ 4) (hN : ∀ j, j < 180 → s j = nI (N j)) (hV : Vn pc D N) (hfl : Vfl pc 4 t D x s) (haw : Vaw pc s) (hpt : Vpt 4 t tg s) (hp : p < pc) (hg : g < 5) (h1 : ¬ s (176 + p) = 0) (h2 : ¬ s (126 + (p * 5 + g)) = 0) (hv : v = 4 ∨ v = 5) : Vst pc tg (sup (sup (mvS s p 4 g 1) (176 + p) (s (176 + p) - 1)) 180 v) := by
  rw [hN _ (by omega), nI_z (cN9 (by have := hV.2.2.2.2.1 (176 + p) (by omega) (by omega); omega))] at h1
  rw [hN _ (by omega), nI_z (cN9 (by have := V_hand hV (j := 126 + (p * 5 + g)) (by omega) (by omega); omega))] at h2
  have hc : 1 ≤ N (126 + (p * 5 + g)) := by omega
  have r1 := rep_mv hN (f := p) (t := 4) (g := g) (c := 1) (by omega) (by omega) hg hc
  have r2 := rep_sup r1 (i := 176 + p) (v := N (176 + p) - 1) (x := s (176 + p) - 1) (by rw [hN _ (by omega)]; exact nI_sub' (b := 1) (by omega))
  have r3 := rep_sup2 r2 (i := 180) (x := v) (by omega)
  have ne : ∀ j, ¬ (126 ≤ j ∧ j < 151) → ¬ j = 176 + p → nup (mvN N p 4 g 1) (176 + p) (N (176 + p) - 1) j = N j := fun j j1 j2 => by rw [nup_ne j2, mvN_ne (by omega) (by omega)]
  have sn : ∀ j, ¬ (126 ≤ j ∧ j < 151) → ¬ j = 176 + p → ¬ j = 180 → sup (sup (mvS s p 4 g 1) (176 + p) (s (176 + p) - 1)) 180 v j = s j := fun j j1 j2 j3 => by rw [sup_ne j3, sup_ne j2, mvS_ne (by omega) (by omega)]
  have hV' : Vn pc D (nup (mvN N p 4 g 1) (176 + p) (N (176 + p) - 1)) := hV.upd (fun j hj => ne j (by omega) (by omega)) (fun g' hg' => by
    have := mvN_sum (N := N) (f := p) (t := 4) (g := g) (c := 1) (by omega) (by omega) hg hc hg'
    unfold sumG at this ⊢
    rw [nup_ne (by omega), nup_ne (by omega), nup_ne (by omega), nup_ne (by omega), nup_ne (by omega), this]
    exact hV.2.2.1 g' hg') (fun j j1 j2 => by rw [ne j (by omega) (by omega)]; exact hV.2.2.2.1 j j1 j2) (fun j j1 j2 => by
    by_cases z : j = 176 + p
    · subst z
      rw [nup_eq]
      have := hV.2.2.2.2.1 _ j1 j2
      omega
    · rw [ne j (by omega) z]
      exact hV.2.2.2.2.1 j j1 j2)
  obtain ⟨f1, f2, f3, f4, f5, f6, f7, f8, f9, f10, f11, f12, f13⟩ := hfl
  obtain ⟨f', hf', hfv⟩ : ∃ f', (f' = 4 ∨ f' = 5) ∧ v = nI f' := by
    rcases hv with z | z
    · exact ⟨4, Or.inl rfl, z⟩
    · exact ⟨5, Or.inr rfl, z⟩
  refine Vst.mkq (s := s) (f := f') (t := t) (x := x) haw r3 hV' ⟨?_, by omega, by omega, ?_, f5, ?_, f7, ?_, ?_, ?_, ?_, ?_, f13⟩ (by omega) (fun j hj => sn j (by omega) (by omega) (by omega)) (sn 189 (by omega) (by omega) (by omega)) (fun hf7 => ?_)
  · rw [sup_eq, hfv]
  · rw [sn _ (by omega) (by omega) (by omega), f4]
  · rw [sn _ (by omega) (by omega) (by omega), f6]
  · rw [sn _ (by omega) (by omega) (by omega)]
    exact f8
  · rw [sn _ (by omega) (by omega) (by omega)]
    exact f9
  · rw [sn _ (by omega) (by omega) (by omega)]
    exact f10
  · rw [sn _ (by omega) (by omega) (by omega), f11, if_neg (by decide), if_neg (by omega)]
  · rw [sn _ (by omega) (by omega) (by omega), f12]
  · exact pt_q hpt (by omega) (by omega) (fun j hj => sn j (by omega) (by omega) (by omega)) (sn 189 (by omega) (by omega) (by omega)) (sn _ (by omega) (by omega) (by omega))
end SS5
