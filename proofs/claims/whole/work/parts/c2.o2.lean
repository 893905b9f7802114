section O2
variable {d n t pc s : Nat} {I X : Nat → Nat → Int32} {J : Nat → Nat → Int64} {ex : List (Nat × Nat)} {y : Int64}
theorem Rel.tb (h : Rel I y) : Tb I := h.1
theorem Rel.tm (h : Rel I y) : Tm I := h.2.1
theorem Rel.dat (h : Rel I y) (hp : I 5 5 = nI pc) (hpc : pc ≤ 4) (h1 : 1 ≤ pc) : ∃ (N : Nat → Nat) (f t D x : Nat), 2 ≤ pc ∧ (∀ j, j < 180 → I 24 j = nI (N j)) ∧ Vn pc D N ∧ Vfl pc f t D x (I 24) ∧ Vsu pc f t x N (I 24) ∧ Vaw pc (I 24) ∧ Vpt f t (I 5 6) (I 24) := by
  obtain ⟨-, -, -, -, -, -, -, -, pc', g9, g10, g11, g12, g13⟩ := h
  have : pc' = pc := (zz_nI_eq (by omega) (by omega)).mp (by rw [← g9, hp])
  subst this
  rcases g13 with ⟨z, -, -⟩ | ⟨z1, ⟨N, f, t, D, x, a1, a2, a3, a4, a5, a6⟩, -⟩
  · omega
  · exact ⟨N, f, t, D, x, z1, a1, a2, a3, a4, a5, a6⟩
theorem op_points (p : Int32) : Opr 21 [.int p] 149 [.int p] (fun e => if e = 6 then 1 else 0) := fun I y hR => by
  obtain ⟨pc, h5, h15, hpc, hC⟩ := hR.plc
  cases hn : isP I p with
  | false =>
    refine Or.inr ⟨6, fun d n J ex => c21e (d := d + 17) p hn, by decide, _, OkM.ref' hR (fun d n J ex => ⟨false, c149n (d := d + 4) p ?_⟩)⟩
    rw [← hR.eqP]
    exact hn
  | true =>
    obtain ⟨r, hr, rfl⟩ := isP_nat h5 hpc hn
    obtain ⟨N, f, t, D, x, -, a1, a2, -⟩ := hR.dat h5 hpc (by omega)
    refine Or.inl ⟨I, some (.int (ptm I r)), fun d n J ex _ => ⟨true, ?_⟩, OkM.ref' hR (fun d n J ex => ⟨false, ?_⟩)⟩
    · rw [c21a (d := d + 17) h5 hpc r hr, r_pts hC (V_corners a1 a2 hpc) (by omega)]
    · rw [c149a (d := d + 4) h15 hpc r hr, fr_ptm (up_fn (by decide))]
theorem op_chain (p : Int32) : Opr 22 [.int p] 150 [.int p] (fun e => if e = 6 then 1 else 0) := fun I y hR => by
  obtain ⟨pc, h5, h15, hpc, hC⟩ := hR.plc
  cases hn : isP I p with
  | false =>
    refine Or.inr ⟨6, fun d n J ex => c22e (d := d + 1) p hn, by decide, _, OkM.ref' hR (fun d n J ex => ⟨false, c150n (d := d + 1) p ?_⟩)⟩
    rw [← hR.eqP]
    exact hn
  | true =>
    obtain ⟨r, hr, rfl⟩ := isP_nat h5 hpc hn
    obtain ⟨N, f, t, D, x, -, a1, a2, -⟩ := hR.dat h5 hpc (by omega)
    refine Or.inl ⟨I, some (.int (nI (chm I r))), fun d n J ex _ => ⟨chnF I r, ?_⟩, fun d n J ex => ?_⟩
    · rw [c22a (d := d + 1) hR.tb h5 hpc r hr, r_chn hC (V_corners a1 a2 hpc) (by omega)]
    · obtain ⟨X, k1, k2⟩ := c150a (d := d + 1) (n := n) (J := J) (ex := ex) hR.tm h15 hpc r hr (V_roads a1 a2 hpc r (by omega))
      refine ⟨X, false, k1, (k2 23 (by omega) 0).trans up_eq, (hR.thr 0).cong (fun b j hb _ => k2 b (by omega) j)⟩
theorem op_owner (k s : Int32) : Opr 24 [.int k, .int s] 152 [.int k, .int s] (fun e => if e = 6 then 1 else 0) := fun I y hR => by
  obtain ⟨pc, h5, h15, hpc, hC⟩ := hR.plc
  have e01 : ∀ z : Int32, (¬ z = 0 ∧ ¬ z = 1) ↔ (¬ 0 ≤ z ∨ ¬ z ≤ 1) := fun z => by
    have i0 : (z = 0) ↔ z.toInt = 0 := by rw [← Int32.toInt_inj]; rfl
    have i1 : (z = 1) ↔ z.toInt = 1 := by rw [← Int32.toInt_inj]; rfl
    rw [i0, i1, Int32.le_iff_toInt_le, Int32.le_iff_toInt_le, show (0 : Int32).toInt = 0 from rfl, show (1 : Int32).toInt = 1 from rfl]
    omega
  by_cases hk : ¬ k = 0 ∧ ¬ k = 1
  · refine Or.inr ⟨6, fun d n J ex => c24e (d := d + 17) k s (Or.inl hk), by decide, _, OkM.ref' hR (fun d n J ex => ⟨false, c152n (d := d + 5) k s ?_⟩)⟩
    rcases (e01 k).mp hk with z | z
    · exact Or.inl z
    · exact Or.inr (Or.inl z)
  · have hk2 : k = 0 ∨ k = 1 := by
      by_cases z : k = 0
      · exact Or.inl z
      · by_cases w : k = 1
        · exact Or.inr w
        · exact absurd ⟨z, w⟩ hk
    have hsp : isSm k s = (decide (0 ≤ s) && decide (s < spF k)) := by
      rcases hk2 with rfl | rfl
      · unfold isSm spF
        rw [if_pos rfl, if_pos rfl]
        have : decide ((0 : Int32) ≤ 0) = true := by decide
        have : decide ((0 : Int32) ≤ 2) = true := by decide
        simp [*]
      · unfold isSm spF
        have : decide ((0 : Int32) ≤ 1) = true := by decide
        have : decide ((1 : Int32) ≤ 2) = true := by decide
        simp [*]
    cases hb : (decide (0 ≤ s) && decide (s < spF k)) with
    | false =>
      refine Or.inr ⟨6, fun d n J ex => c24e (d := d + 17) k s (Or.inr hb), by decide, _, OkM.ref' hR (fun d n J ex => ⟨false, c152n (d := d + 5) k s (Or.inr (Or.inr (hsp.trans hb)))⟩)⟩
    | true =>
      rw [Bool.and_eq_true, decide_eq_true_eq, decide_eq_true_eq] at hb
      obtain ⟨b1, b2⟩ := hb
      rw [Int32.le_iff_toInt_le, show (0 : Int32).toInt = 0 from rfl] at b1
      rw [Int32.lt_iff_toInt_lt] at b2
      rcases hk2 with rfl | rfl
      · rw [show (spF 0).toInt = 72 from rfl] at b2
        obtain ⟨q, hq, rfl⟩ : ∃ q, q < 72 ∧ s = nI q := ⟨s.toInt.toNat, by omega, by apply Int32.toInt_inj.mp; rw [nI_toInt (by omega)]; omega⟩
        refine Or.inl ⟨I, some (.int (I 24 q - 1)), fun d n J ex _ => ⟨true, ?_⟩, OkM.ref' hR (fun d n J ex => ⟨false, c152a (d := d + 5) q hq⟩)⟩
        rw [c24a (d := d + 17) q hq, hC.rd hq]
      · rw [show (spF 1).toInt = 54 from rfl] at b2
        obtain ⟨q, hq, rfl⟩ : ∃ q, q < 54 ∧ s = nI q := ⟨s.toInt.toNat, by omega, by apply Int32.toInt_inj.mp; rw [nI_toInt (by omega)]; omega⟩
        refine Or.inl ⟨I, some (.int (I 24 (72 + q) - 1)), fun d n J ex _ => ⟨true, ?_⟩, OkM.ref' hR (fun d n J ex => ⟨false, c152b (d := d + 5) q hq⟩)⟩
        rw [c24b (d := d + 17) q hq, hC.bd hq]
theorem op_forecast (p g r : Int32) : Opr 26 [.int p, .int g, .int r] 154 [.int p, .int g, .int r] (fun e => if e = 6 then 1 else if e = 4 then 2 else 0) := fun I y hR => by
  obtain ⟨pc, h5, h15, hpc, hC⟩ := hR.plc
  by_cases hn : isP I p = false ∨ isG g = false
  · refine Or.inr ⟨6, fun d n J ex => c26e (d := d + 15) p g r hn, by decide, _, OkM.ref' hR (fun d n J ex => ⟨false, c154n1 (d := d + 3) p g r ?_⟩)⟩
    rw [← hR.eqP]
    exact hn
  · have hp2 : isP I p = true := by
      cases z : isP I p with
      | true => rfl
      | false => exact absurd (Or.inl z) hn
    have hg2 : isG g = true := by
      cases z : isG g with
      | true => rfl
      | false => exact absurd (Or.inr z) hn
    by_cases hr : 1 ≤ r ∧ r ≤ 3
    · obtain ⟨q, hq, rfl⟩ := isP_nat h5 hpc hp2
      obtain ⟨k, hk, rfl⟩ := isG_nat hg2
      obtain ⟨m, hm1, hm3, rfl⟩ : ∃ m, 1 ≤ m ∧ m ≤ 3 ∧ r = nI m := by
        obtain ⟨r1, r2⟩ := hr
        rw [Int32.le_iff_toInt_le, show (1 : Int32).toInt = 1 from rfl] at r1
        rw [Int32.le_iff_toInt_le, show (3 : Int32).toInt = 3 from rfl] at r2
        exact ⟨r.toInt.toNat, by omega, by omega, by apply Int32.toInt_inj.mp; rw [nI_toInt (by omega)]; omega⟩
      obtain ⟨N, f, t, D, x, -, a1, a2, -⟩ := hR.dat h5 hpc (by omega)
      obtain ⟨gd, nm, hH⟩ := hR.2.2.1
      have hfc := r_fc (I := I) hC (V_corners a1 a2 hpc) (gd := gd) (nm := nm) (fun q hq => ⟨(hH q hq).1, (hH q hq).2.1⟩) (fun q hq => (hH q hq).2.2.1) (fun q hq => (hH q hq).2.2.2.1) (fun q hq hg5 => by
        obtain ⟨h1, h2, h3, h4, h5', h6⟩ := hH q hq
        rw [← h4, h5']
        exact ⟨rfl, by omega, by omega⟩) (p := q) (g := k) (by omega) hk
      refine Or.inl ⟨I, some (.int (nI m * fcM I q (nI k) * (if m = 1 then 1 else if m = 2 then 36 else 1296))), fun d n J ex _ => ⟨true, ?_⟩, OkM.ref' hR (fun d n J ex => ⟨false, c154a (d := d + 3) hR.tm h15 hpc q k m hq hk hm1 hm3⟩)⟩
      rw [c26a (d := d + 15) hR.tb (nI q) (nI k) hp2 hg2 m hm1 hm3, hfc]
      have h3 : m = 1 ∨ m = 2 ∨ m = 3 := by omega
      rcases h3 with rfl | rfl | rfl
      · simp
      · simp
      · have : nI 3 * fcM I q (nI k) * 36 * 36 = nI 3 * fcM I q (nI k) * 1296 := by
          rw [Int32.mul_assoc (nI 3 * fcM I q (nI k)), show (36 : Int32) * 36 = 1296 from rfl]
        simp [this]
    · refine Or.inr ⟨4, fun d n J ex => c26f (d := d + 15) p g r hp2 hg2 hr, by decide, _, OkM.ref' hR (fun d n J ex => ⟨false, c154n2 (d := d + 3) p g r (by rw [← hR.eqP]; exact hp2) hg2 hr⟩)⟩
end O2
