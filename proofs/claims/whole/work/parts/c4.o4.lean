section O4
variable {d n t pc s : Nat} {I X I1 W : Nat → Nat → Int32} {J : Nat → Nat → Int64} {ex : List (Nat × Nat)} {y : Int64} {S : Nat → Int32}
theorem f_c1 (h : ∀ b j, ¬ (9 ≤ b ∧ b ≤ 15) → I1 b j = rmb I b j) : ∀ b j, b < 9 → ¬ (b = 5 ∧ j = 9) → I1 b j = I b j := fun b j hb hb2 => by rw [h b j (by omega), rmb_ne (by omega) (by omega)]
theorem f_c2 (h : ∀ b j, ¬ (9 ≤ b ∧ b ≤ 15) → I1 b j = rmb I b j) : I1 5 9 = 1 := by rw [h 5 9 (by omega), rmb_59]
theorem f_c3 (h : ∀ b j, ¬ (9 ≤ b ∧ b ≤ 15) → I1 b j = rmb I b j) : ∀ i j, i ≤ 6 → (i = 0 → j < 12) → I1 (16 + i) j = I (9 + i) j := fun i j hi hj => by rw [h (16 + i) j (by omega), rmb_16 hi hj]
theorem f_c4 (h : ∀ b j, ¬ (9 ≤ b ∧ b ≤ 15) → I1 b j = rmb I b j) : ∀ b j, 23 ≤ b → I1 b j = I b j := fun b j hb => by rw [h b j (by omega), rmb_ne (by omega) (Or.inl (by omega))]
theorem f_r24 (h : ∀ b j, ¬ (9 ≤ b ∧ b ≤ 15) → I1 b j = rmb I b j) : rmM I1 24 = I 24 := funext fun j => (rmM_24 j).trans (f_c4 h 24 j (by omega))
theorem opq' (hR : Rel I y) (hp : I 5 5 = nI pc) (hpc : pc ≤ 4) (hp2 : 2 ≤ pc) (hI : ∀ b j, ¬ (9 ≤ b ∧ b ≤ 15) → I1 b j = rmb I b j) (hW : ∀ b j, ¬ b = 24 → W b j = rmM I1 b j) (k6 : Cst I1 9 (W 24)) (k7 : Vst pc (I 5 6) (W 24)) : ∀ d n J ex, ∃ X, zz_Call zz_prog (d + 6) 116 [.ref 23] (zz_hp n W J ex) = some (.inl none, false, zz_hp n X J ex) ∧ X 23 0 = 0 ∧ Rel X y ∧ Sm W X :=
  opq hR hp hpc hp2 (f_c1 hI) (f_c2 hI) (f_c3 hI) (f_c4 hI) (fun b j _ hb => hW b j hb) k6 k7
theorem opw (hR : Rel I y) (hp : I 5 5 = nI pc) (hpc : pc ≤ 4) (hp2 : 2 ≤ pc) (hI : ∀ b j, ¬ (9 ≤ b ∧ b ≤ 15) → I1 b j = rmb I b j) (hW : ∀ b j, ¬ b = 24 → W b j = rmM I1 b j) {N : Nat → Nat} {f t D x : Nat} (a1 : ∀ j, j < 180 → W 24 j = nI (N j)) (a2 : Vn pc D N) (a3 : Vfl pc f t D x (W 24)) (a4 : Vsu pc f t x N (W 24)) (k6 : Cst I1 9 (lkS (W 24) pc t f (I 5 6))) : ∀ d n J ex, ∃ X, zz_Call zz_prog (d + 6) 116 [.ref 23] (zz_hp n W J ex) = some (.inl none, false, zz_hp n X J ex) ∧ X 23 0 = 0 ∧ Rel X y ∧ X 24 = lkS (W 24) pc t f (I 5 6) := fun d n J ex => by
  obtain ⟨pc', g1, g2, g3, -⟩ := hR.plc
  have e : pc' = pc := (zz_nI_eq (by omega) (by omega)).mp (by rw [← g1, hp])
  subst e
  have hT : Tm W := hR.tm.cong (fun b j hb hb2 => by rw [hW b j (by omega), rmM_ne (by omega) (Or.inl (by omega)), f_c4 hI b j (by omega)])
  have hw15 : W 23 15 = nI pc' := by rw [hW 23 15 (by omega), rmM_p, f_c4 hI 23 15 (by omega), g2]
  have hw16 : W 23 16 = I 5 6 := by
    rw [hW 23 16 (by omega), rmM_ne (by omega) (Or.inr ⟨by omega, by omega⟩), f_c4 hI 23 16 (by omega)]
    exact hR.2.2.2.2.2.2.2.1
  have a3' := a3
  obtain ⟨f1, f2, f3, f4, f5, f6, f7, f8, f9, f10, f11, f12, f13⟩ := a3'
  obtain ⟨X, k1, k2⟩ := c116 (d := d) (n := n) (J := J) (ex := ex) hT hw15 hpc (V_roads a1 a2 hpc) f4 (by omega) (by
    rcases f10 with z | ⟨a, z1, z2⟩
    · exact Or.inl z
    · exact Or.inr ⟨a, by omega, z2⟩)
  obtain ⟨l1, l2⟩ := lkA_s (I := W) (pc := pc') (t := t) f1 f3
  rw [hw16] at l1
  obtain ⟨r1, r2⟩ := Rel.fin hR hp hpc hp2 (f_c1 hI) (f_c2 hI) (f_c3 hI) (f_c4 hI) (W := lkA W pc' t) (fun b j _ hb => (l2 b j hb).trans (hW b j hb)) k2 (by rw [l1]; exact k6) (by
    rw [l1]
    exact Vst.look hpc a1 a2 a3 a4)
  exact ⟨X, k1, r2, r1, by rw [k2.f24, l1]⟩
theorem Cst.m185 (h : Cst I 9 S) (v : Int32) (h7 : ¬ S 180 = 7) : Cst I 9 (sup S 185 v) := by
  obtain ⟨g1, g2, g3, g4, g5, g6, g7, g8, g9, g10, g11, g12, g13, g14, g15, g16, g17, g18, g19⟩ := h
  refine ⟨fun e he => ?_, fun e he => ?_, fun e he => ?_, fun e he => ?_, fun e he => ?_, fun e he => ?_, ?_, ?_, ?_, ?_, ?_, ?_, ?_, ?_, ?_, fun z => ?_, fun z => ?_, fun z => ?_, fun z => ?_⟩
  all_goals first
    | (rw [sup_ne (by omega)] at z; rw [sup_ne (by omega)]; first | exact g17 z | exact g18 z | exact g19 z)
    | (rw [sup_ne (by omega)] at z; exact absurd z h7)
    | (rw [sup_ne (by omega)]; first | exact g1 e he | exact g2 e he | exact g3 e he | exact g4 e he | exact g5 e he | exact g6 e he | exact g7 | exact g8 | exact g9 | exact g10 | exact g11 | exact g12 | exact g13 | exact g14 | exact g15)
theorem Cst.m190 (h : Cst I 9 S) (v : Int32) : Cst I 9 (sup S 190 v) := by
  obtain ⟨g1, g2, g3, g4, g5, g6, g7, g8, g9, g10, g11, g12, g13, g14, g15, g16, g17, g18, g19⟩ := h
  refine ⟨fun e he => ?_, fun e he => ?_, fun e he => ?_, fun e he => ?_, fun e he => ?_, fun e he => ?_, ?_, ?_, ?_, ?_, ?_, ?_, ?_, ?_, ?_, fun z => ?_, fun z => ?_, fun z => ?_, fun z => ?_⟩
  all_goals first
    | (rw [sup_ne (by omega)] at z; rw [sup_ne (by omega)]; first | exact g16 z | exact g17 z | exact g18 z | exact g19 z)
    | (rw [sup_ne (by omega)]; first | exact g1 e he | exact g2 e he | exact g3 e he | exact g4 e he | exact g5 e he | exact g6 e he | exact g7 | exact g8 | exact g9 | exact g10 | exact g11 | exact g12 | exact g13 | exact g14 | exact g15)
theorem Vfl.ph {f t D x : Nat} (h : Vfl pc f t D x S) {k : Nat} (hk : k < 100) (h1 : S 180 = nI k) : f = k := by
  have h2 := h.1
  rw [h1] at h2
  exact ((zz_nI_eq (a := k) (b := f) (by omega) (by have := h.2.2.1; omega)).mp h2).symm
theorem Vfl.pl (h : Vfl pc t s d n S) : S 184 = 0 ∨ S 184 = 1 := h.2.2.2.2.2.2.2.1
theorem Rel.ph_dat (hR : Rel I y) {k : Nat} (hk1 : 1 ≤ k) (hk : k < 100) (h1 : I 24 180 = nI k) : ∃ (pc : Nat) (N : Nat → Nat) (t D x : Nat), I 5 5 = nI pc ∧ I 23 15 = nI pc ∧ 2 ≤ pc ∧ pc ≤ 4 ∧ Cst I 9 (I 24) ∧ (∀ j, j < 180 → I 24 j = nI (N j)) ∧ Vn pc D N ∧ Vfl pc k t D x (I 24) ∧ Vsu pc k t x N (I 24) ∧ Vaw pc (I 24) ∧ Vpt k t (I 5 6) (I 24) := by
  obtain ⟨pc, h5, h15, hpc, hC⟩ := hR.plc
  have hp1 : 1 ≤ pc := by
    rcases Nat.lt_or_ge 0 pc with z | z
    · omega
    · obtain ⟨-, -, -, -, -, -, -, -, pc', g9, g10, g11, g12, g13⟩ := hR
      have : pc' = pc := (zz_nI_eq (by omega) (by omega)).mp (by rw [← g9, h5])
      subst this
      rcases g13 with ⟨z1, z2, z3⟩ | ⟨z1, z2⟩
      · have := z3.2.1
        rw [h1] at this
        have := (zz_nI_eq (a := k) (b := 0) (by omega) (by omega)).mp this
        omega
      · omega
  obtain ⟨N, f, t, D, x, b1, b2, b3, b4, b5, b6, b7⟩ := hR.dat h5 hpc hp1
  have : f = k := b4.ph hk h1
  subst this
  exact ⟨pc, N, t, D, x, h5, h15, b1, hpc, hC, b2, b3, b4, b5, b6, b7⟩
theorem pass_a (hR : Rel I y) (h7 : I 24 180 = 7) : ∃ I1 v, OkC 14 [] I y I1 v ∧ OkM 142 [] I1 y v 0 := by
  obtain ⟨pc, N, t, D, x, h5, h15, hp2, hpc, hC, a1, a2, a3, a4, a5, a6⟩ := hR.ph_dat (k := 7) (by decide) (by decide) h7
  have hI : ∀ b j, ¬ (9 ≤ b ∧ b ≤ 15) → zz_up (rmb I) 9 0 6 b j = rmb I b j := fun b j hb => up_ne (by omega)
  have hW24 : zz_up (zz_up (rmM (zz_up (rmb I) 9 0 6)) 24 180 6) 24 185 0 24 = sup (sup (I 24) 180 6) 185 0 := by rw [up_sup, up_sup, f_r24 hI]
  have sn : ∀ j, ¬ j = 180 → ¬ j = 185 → sup (sup (I 24) 180 6) 185 0 j = I 24 j := fun j j1 j2 => by rw [sup_ne j2, sup_ne j1]
  refine ⟨zz_up (rmb I) 9 0 6, some (.int (I 24 181)), fun d n J ex _ => ⟨false, ?_⟩, fun d n J ex => ?_⟩
  · rw [c14a (d := d + 16) (by rw [hC.pl]; exact a3.pl) (hC.ph.trans h7), hC.on]
  · obtain ⟨X, k1, k2, k3, k4⟩ := opq' (I1 := zz_up (rmb I) 9 0 6) hR h5 hpc hp2 hI (W := zz_up (zz_up (rmM (zz_up (rmb I) 9 0 6)) 24 180 6) 24 185 0) (fun b j hb => by rw [up_ne hb, up_ne hb]) (by
      rw [hW24]
      exact (hC.rmb.v0p 6 (by decide) (by decide) (by decide)).m185 0 (by rw [sup_eq]; decide)) (by
      rw [hW24]
      exact Vst.qg (f' := 6) a3 a5 a6 (by decide) (by decide) (rep_sup2 (rep_sup2 a1 (by omega)) (by omega)) a2 (by rw [sup_ne (by omega), sup_eq]; rfl) (by decide) (by decide) (by rw [sn _ (by omega) (by omega)]; exact a3.2.2.2.2.2.1) a3.2.2.2.2.2.2.1 (by rw [sn _ (by omega) (by omega)]; exact a3.pl) (by rw [sn _ (by omega) (by omega)]; exact a3.2.2.2.2.2.2.2.2.1) (fun j hj => sn j (by omega) (by omega)) (sn _ (by omega) (by omega)) (sn _ (by omega) (by omega)) (sn _ (by omega) (by omega)) (sn _ (by omega) (by omega)) (sn _ (by have := a3.2.2.2.2.1; omega) (by have := a3.2.2.2.2.1; omega))) d n J ex
    refine ⟨X, false, ?_, k2, k3⟩
    rw [c142a (d := d) (X := X) ((f_c4 hI 24 180 (by omega)).trans h7) k1, k4.f24, hW24, sn _ (by omega) (by omega)]
end O4
