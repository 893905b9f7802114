section OH
variable {d n t pc s : Nat} {I X I1 W A B : Nat → Nat → Int32} {J : Nat → Nat → Int64} {ex : List (Nat × Nat)} {y : Int64} {S : Nat → Int32}
theorem pcm0 {N : Nat → Nat} {D p : Nat} (a1 : ∀ j, j < 180 → I 24 j = nI (N j)) (a2 : Vn pc D N) (hpc : pc ≤ 4) (hp : p < 4) : pcm I p 0 = roadN N p := by
  unfold pcm
  rw [if_pos rfl, cnt_cN]
  unfold roadN
  exact cN_congr 72 (fun k hk => by
    have h3 := a2.1 k hk
    rw [a1 k (by omega)]
    congr 1
    exact zz_eqN (by omega) (by omega))
theorem pcm1 {N : Nat → Nat} {D p : Nat} (a1 : ∀ j, j < 180 → I 24 j = nI (N j)) (a2 : Vn pc D N) (hpc : pc ≤ 4) (hp : p < 4) : pcm I p 1 = hutN N p := by
  unfold pcm hutN cN
  rw [if_neg (by decide)]
  refine zz_fold_congr 54 0 0 (fun c a _ hc => ?_)
  have h3 := a2.2.1 c (by omega)
  rw [a1 _ (by omega), if_pos rfl]
  simp only [zz_eqN (a := N (72 + c)) (b := p + 1) (by omega) (by omega), decide_eq_true_eq]
theorem hct_le {x p : Nat} : hct pc x p ≤ 2 := by
  unfold hct
  (repeat' split) <;> omega
theorem r_tF (hR : Rel I y) {N : Nat → Nat} {f t D x : Nat} (hpc : pc ≤ 4) (hC : Cst I 9 (I 24)) (a1 : ∀ j, j < 180 → I 24 j = nI (N j)) (a2 : Vn pc D N) (a3 : Vfl pc f t D x (I 24)) (a4 : Vsu pc f t x N (I 24)) {k : Nat} (hk : k < 3) : tF I t k = tFm I t k := by
  have ht4 : t < 4 := by have := a3.2.2.2.2.1; omega
  have hf := a3.1
  have hf8 := a3.2.2.1
  have e0 := pcm0 (p := t) a1 a2 hpc ht4
  have e1 := pcm1 (p := t) a1 a2 hpc ht4
  have ephase : ∀ q : Nat, q < 100 → (I 24 180 = nI q) = (f = q) := fun q hq => by rw [hf]; exact zz_eqN (by omega) (by omega)
  have p1 : (I 24 180 = 1) = (f = 1) := ephase 1 (by decide)
  have p2 : (I 24 180 = 2) = (f = 2) := ephase 2 (by decide)
  have p6 : (I 24 180 = 6) = (f = 6) := ephase 6 (by decide)
  have p7 : (I 24 180 = 7) = (f = 7) := ephase 7 (by decide)
  unfold tF tFm
  rw [hC.ph]
  simp only [p1, p2, p6, p7]
  by_cases z1 : f = 1
  · subst z1
    have h2 := (a4.2.2 (by decide)).1 t a3.2.2.2.2.1
    have h3 := hct_le (pc := pc) (x := x) (p := t)
    have h4 : pcm I t 1 ≤ 2 := by rw [e1]; omega
    by_cases zk : k = 1
    · subst zk
      simp
      omega
    · simp [zk]
  · by_cases z2 : f = 2
    · subst z2
      have h2 := (a4.2.2 (by decide)).1 t a3.2.2.2.2.1
      have h3 := hct_le (pc := pc) (x := x - 1) (p := t)
      rw [if_pos rfl] at h2
      have h4 : pcm I t 0 ≤ 2 := by rw [e0]; omega
      by_cases zk : k = 0
      · subst zk
        simp
        omega
      · simp [zk]
    · by_cases z6 : f = 6
      · subst z6
        rw [r_hPL hC hk, r_cPay hR.tb hR.tm hC ht4 (by omega)]
        simp
      · by_cases z7 : f = 7
        · subst z7
          have e7 := r_hPL (t := t) (k := 0) hC (by decide)
          by_cases zk : k = 0
          · subst zk
            simp [e7]
          · simp [zk]
        · simp [z1, z2, z6, z7]
theorem mb_call (hT : Tm X) (ht : X 24 181 = nI t) (h4 : t < 4) {k s : Nat} (hk : k < 3) (hs : s < (if k = 0 then 72 else 54)) : zz_Call zz_prog (d + 3) 107 [.ref 23, .int (nI k), .int (nI s)] (zz_hp n X J ex) = some (.inl (some (.int (bI (if k = 0 then mB0 X t s else if k = 1 then mB1 X t s else decide (X 24 (72 + s) = nI (t + 1)))))), true, zz_hp n X J ex) := by
  have h3 : k = 0 ∨ k = 1 ∨ k = 2 := by omega
  rcases h3 with rfl | rfl | rfl
  · exact c107a hT ht h4 s hs
  · exact c107b hT ht h4 s hs
  · exact c107c ht h4 s hs
theorem op_legal (i : Int32) : Opr 25 [.int i] 153 [.int i] (fun _ => 0) := fun I y hR => by
  obtain ⟨pc, h5, h15, hpc, hC⟩ := hR.plc
  by_cases hi : 0 ≤ i
  · have m : ∀ b j, ¬ (b = 23 ∧ j = 0) → zz_up I 23 0 0 b j = I b j := fun b j hb => by
      by_cases z : b = 23
      · exact up_nf (fun w => hb ⟨z, w⟩)
      · exact up_ne z
    have e24 : zz_up I 23 0 0 24 = I 24 := funext fun j => m 24 j (by omega)
    have hTm : Tm (zz_up I 23 0 0) := hR.tm.cong (fun b j h1 h2 => m b j (by omega))
    rcases Nat.lt_or_ge 0 pc with hp1 | hp0
    · obtain ⟨N, f, t, D, x, hp2, a1, a2, a3, a4, a5, a6⟩ := hR.dat h5 hpc hp1
      have ht : I 24 181 = nI t := a3.2.2.2.1
      have ht9 : I 9 1 = nI t := hC.on.trans ht
      have ht4 : t < 4 := by have := a3.2.2.2.2.1; omega
      have hcor := V_corners a1 a2 hpc
      refine Or.inl ⟨I, some (.int (lgR (tFm I t) (fun k s => if k = 0 then mB0 I t s else if k = 1 then mB1 I t s else decide (I 24 (72 + s) = nI (t + 1))) i)), fun d n J ex _ => ⟨true, ?_⟩, OkM.ref' hR (fun d n J ex => ⟨false, ?_⟩)⟩
      · refine c25a (d := d + 15) (time := tFm I t) (fun k hk => ?_) (fun k sp hk hsp _ s hs => ?_) i hi
        · rw [c51 (d := d + 16) ht9 ht4 k hk, r_tF hR hpc hC a1 a2 a3 a4 hk]
        · have hs72 : s < 72 := by
            rw [hsp] at hs
            split at hs <;> omega
          have hs54 : ¬ k = 0 → s < 54 := fun z => by
            rw [hsp, if_neg z] at hs
            exact hs
          rw [c54 (d := d + 15) hR.tb ht9 k s hk hs72 hs54, r_ft hC hcor hk hs72 hs54 ht4]
      · refine c153a (d := d + 2) (time := tFm I t) (fun k hk => ?_) (fun k sp hk hsp _ s hs => ?_) i hi
        · rw [c111 (d := d + 3) (I := zz_up I 23 0 0) ((m 24 181 (by omega)).trans ht) ht4 k hk]
          unfold tFm pcm cPm cnt
          rw [e24, show zz_up I 23 0 0 36 = I 36 from funext fun j => m 36 j (by omega)]
        · rw [mb_call (d := d + 3) hTm ((m 24 181 (by omega)).trans ht) ht4 hk (by rw [← hsp]; exact hs)]
          unfold mB0 mB1 rch isMi hRm aln
          rw [e24]
    · have hL : I 24 180 = 0 := by
        obtain ⟨-, -, -, -, -, -, -, -, pc', g9, g10, g11, g12, g13⟩ := hR
        have : pc' = pc := (zz_nI_eq (by omega) (by omega)).mp (by rw [← g9, h5])
        subst this
        rcases g13 with ⟨-, -, z⟩ | ⟨z, -⟩
        · exact z.2.1
        · omega
      have n1 : ¬ I 24 180 = 1 := by rw [hL]; decide
      have n2 : ¬ I 24 180 = 2 := by rw [hL]; decide
      have n6 : ¬ I 24 180 = 6 := by rw [hL]; decide
      have n7 : ¬ I 24 180 = 7 := by rw [hL]; decide
      refine Or.inl ⟨I, some (.int (lgR (fun _ => false) (fun _ _ => false) i)), fun d n J ex _ => ⟨true, ?_⟩, OkM.ref' hR (fun d n J ex => ⟨false, ?_⟩)⟩
      · exact c25a (d := d + 15) (time := fun _ => false) (fit := fun _ _ => false) (fun k hk => c51z (d := d + 16) (by rw [hC.ph]; exact n1) (by rw [hC.ph]; exact n2) (by rw [hC.ph]; exact n6) (by rw [hC.ph]; exact n7) (nI k)) (fun k sp hk hsp z => by cases z) i hi
      · exact c153a (d := d + 2) (time := fun _ => false) (fit := fun _ _ => false) (fun k hk => c111z (d := d + 3) (by rw [e24]; exact n1) (by rw [e24]; exact n2) (by rw [e24]; exact n6) (by rw [e24]; exact n7) (nI k)) (fun k sp hk hsp z => by cases z) i hi
  · exact Or.inl ⟨I, some (.int (-1)), fun d n J ex _ => ⟨true, c25n (d := d + 15) i hi⟩, OkM.ref' hR (fun d n J ex => ⟨false, c153n (d := d + 2) i hi⟩)⟩
end OH
