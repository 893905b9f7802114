theorem div_nat {m T : Nat} (hm : m < 2147483648) (hT : T < 2147483648) : nI m / nI T = nI (m / T) := by
  apply Int32.toInt_inj.mp
  rw [Int32.toInt_div, nI_toInt hm, nI_toInt hT, nI_toInt (by have := Nat.div_le_self m T; omega)]
  have h1 : (m : Int).tdiv (T : Int) = ((m / T : Nat) : Int) := by
    rw [Int.tdiv_eq_ediv_of_nonneg (by omega)]
    rfl
  rw [h1]
  have := Nat.div_le_self m T
  generalize m / T = q at *
  exact Int.bmod_eq_of_le (by omega) (by omega)
section OD
variable {d n t pc s : Nat} {I X I1 W A B : Nat → Nat → Int32} {J : Nat → Nat → Int64} {ex : List (Nat × Nat)} {y : Int64} {S : Nat → Int32}
theorem mgv_n {N : Nat → Nat} {D p : Nat} (a1 : ∀ j, j < 180 → I 24 j = nI (N j)) (a2 : Vn pc D N) (hp : p < 4) : ∃ c, c ≤ 100 ∧ mgv I p = nI c := by
  have e24 : ∀ g, g < 5 → I 24 (126 + 5 * p + g) = nI (N (126 + 5 * p + g)) := fun g hg => a1 _ (by omega)
  have hh : ∀ g, g < 5 → N (126 + 5 * p + g) ≤ 19 := fun g hg => V_hand a2 (by omega) (by omega)
  have eh : hdm I p = nI (N (126 + 5 * p + 0) + N (126 + 5 * p + 1) + N (126 + 5 * p + 2) + N (126 + 5 * p + 3) + N (126 + 5 * p + 4)) := by
    unfold hdm
    simp only [zz_fold, e24 0 (by decide), e24 1 (by decide), e24 2 (by decide), e24 3 (by decide), e24 4 (by decide), Int32.zero_add, zz_nI_add]
  have h0 := hh 0 (by decide)
  have h1 := hh 1 (by decide)
  have h2 := hh 2 (by decide)
  have h3 := hh 3 (by decide)
  have h4 := hh 4 (by decide)
  unfold mgv
  rw [eh]
  have hT : N (126 + 5 * p + 0) + N (126 + 5 * p + 1) + N (126 + 5 * p + 2) + N (126 + 5 * p + 3) + N (126 + 5 * p + 4) ≤ 95 := by omega
  generalize N (126 + 5 * p + 0) + N (126 + 5 * p + 1) + N (126 + 5 * p + 2) + N (126 + 5 * p + 3) + N (126 + 5 * p + 4) = T at *
  by_cases z : nI T ≤ 7
  · rw [if_pos z]
    exact ⟨0, by omega, rfl⟩
  · rw [if_neg z]
    exact ⟨T / 2, by omega, div_nat (T := 2) (by omega) (by decide)⟩
def mSS (v : Nat → Int32) (k : Nat) (S : Nat → Int32) : Nat → Int32 := zz_fold (fun p S => sup S (176 + p) (v p)) k 0 S
theorem mSS_ne {v : Nat → Int32} {j : Nat} : ∀ k, (∀ p, p < k → ¬ j = 176 + p) → mSS v k S j = S j := fun k => by
  induction k with
  | zero => intros; rfl
  | succ k ih =>
    intro h
    unfold mSS at ih ⊢
    rw [zz_fold_succ, Nat.zero_add, sup_ne (h k (by omega))]
    exact ih (fun p hp => h p (by omega))
theorem roll7 (hR : Rel I y) (h3 : I 24 180 = 3) : ∃ I1 v, OkC 6 [.int 7] I y I1 v ∧ OkM 126 [.int 7] I1 y v 0 := by
  obtain ⟨pc, N, t, D, x, h5, h15, hp2, hpc, hC, a1, a2, a3, a4, a5, a6⟩ := hR.ph_dat (k := 3) (by decide) (by decide) h3
  have h39 : I 9 0 = 3 := hC.ph.trans h3
  have htp : t < pc := a3.2.2.2.2.1
  have hzz : I 9 11 = 0 ∨ I 9 11 = 1 := by rw [hC.pl]; exact a3.pl
  have hgv : ∀ p, p < 4 → tGv (rmb I) p = mgv I p := fun p hp => by
    rw [← r_tGv hC hp]
    unfold tGv hsz
    rw [rmb_fn (by omega) (by decide)]
  have hCd : Cst (dG (rmb I) pc) 9 (mSS (mgv I) pc (I 24)) ∧ ∀ b j, ¬ b = 15 → dG (rmb I) pc b j = rmb I b j := by
    unfold dG mSS
    refine fold_rel' (P := fun (A : Nat → Nat → Int32) (b : Nat → Int32) => Cst A 9 b ∧ ∀ b' j, ¬ b' = 15 → A b' j = rmb I b' j) pc 0 (rmb I) (I 24) (fun p A b _ hp hP => ?_) ⟨hC.rmb, fun _ _ _ => rfl⟩
    exact ⟨hP.1.u15 (by omega) (hgv p (by omega)), fun b' j hb => by rw [up_ne hb]; exact hP.2 b' j hb⟩
  generalize hZ : dG (rmb I) pc = Z at *
  generalize hv : (if mAG Z pc = true then (4 : Int32) else 5) = v
  have hv45 : v = 4 ∨ v = 5 := by
    rw [← hv]
    split
    · exact Or.inl rfl
    · exact Or.inr rfl
  have hI : ∀ b' j, ¬ (9 ≤ b' ∧ b' ≤ 15) → zz_up Z 9 0 v b' j = rmb I b' j := fun b' j hb => by rw [up_ne (by omega), hCd.2 b' j (by omega)]
  have hCI := hCd.1.v0p v (by rcases hv45 with rfl | rfl <;> decide) (by rcases hv45 with rfl | rfl <;> decide) (by rcases hv45 with rfl | rfl <;> decide)
  generalize hI1 : zz_up Z 9 0 v = I1 at *
  have m := f_c4 hI
  have e24 : I1 24 = I 24 := funext fun j => m 24 j (by omega)
  have hmg : ∀ p, mgv I1 p = mgv I p := fun p => by
    unfold mgv hdm
    rw [e24]
  have hms : msM I1 pc 24 = mSS (mgv I) pc (I 24) ∧ ∀ b j, ¬ b = 24 → msM I1 pc b j = rmM I1 b j := by
    unfold msM mSS
    rw [← f_r24 hI]
    refine fold_rel' (P := fun (A : Nat → Nat → Int32) (b : Nat → Int32) => A 24 = b ∧ ∀ b' j, ¬ b' = 24 → A b' j = rmM I1 b' j) pc 0 (rmM I1) (rmM I1 24) (fun p A b _ hp hP => ?_) ⟨rfl, fun _ _ _ => rfl⟩
    exact ⟨by rw [up_sup, hP.1, hmg], fun b' j hb => by rw [up_ne hb]; exact hP.2 b' j hb⟩
  have hmm : mAm (msM I1 pc) pc = mAG Z pc := by
    unfold mAG mAm
    rw [fold_or_any, Bool.false_or]
    refine zz_any_congr pc 0 (fun p _ hp => ?_)
    rw [show msM I1 pc 24 (176 + p) = Z 15 p from by rw [hms.1]; exact (hCd.1.mu (by omega)).symm]
  have hW24 : zz_up (msM I1 pc) 24 180 (if mAm (msM I1 pc) pc = true then 4 else 5) 24 = sup (mSS (mgv I) pc (I 24)) 180 v := by
    rw [up_sup, hms.1, hmm, hv]
  obtain ⟨mN, hmN⟩ : ∃ mN : Nat → Nat, ∀ p, p < 4 → mN p ≤ 100 ∧ mgv I p = nI (mN p) := by
    refine ⟨fun p => (mgv I p).toNatClampNeg, fun p hp => ?_⟩
    obtain ⟨c, c1, c2⟩ := mgv_n a1 a2 hp
    show (mgv I p).toNatClampNeg ≤ 100 ∧ mgv I p = nI (mgv I p).toNatClampNeg
    rw [c2, zz_nI_ix (by omega)]
    exact ⟨c1, rfl⟩
  have hN' : ∀ k, k ≤ 4 → ∃ N' : Nat → Nat, (∀ j, j < 180 → mSS (mgv I) k (I 24) j = nI (N' j)) ∧ (∀ j, j < 176 → N' j = N j) ∧ (∀ j, 176 ≤ j → j < 180 → N' j ≤ 100) := fun k => by
    induction k with
    | zero => exact fun _ => ⟨N, a1, fun _ _ => rfl, fun j j1 j2 => a2.2.2.2.2.1 j j1 j2⟩
    | succ k ih =>
      intro hk
      obtain ⟨N', i1, i2, i3⟩ := ih (by omega)
      obtain ⟨m1, m2⟩ := hmN k (by omega)
      have e : mSS (mgv I) (k + 1) (I 24) = sup (mSS (mgv I) k (I 24)) (176 + k) (mgv I k) := by
        unfold mSS
        rw [zz_fold_succ, Nat.zero_add]
      rw [e]
      refine ⟨nup N' (176 + k) (mN k), rep_sup i1 m2, fun j hj => by rw [nup_ne (by omega)]; exact i2 j hj, fun j j1 j2 => ?_⟩
      by_cases z : j = 176 + k
      · subst z
        rw [nup_eq]
        exact m1
      · rw [nup_ne z]
        exact i3 j j1 j2
  obtain ⟨N', n1, n2, n3⟩ := hN' pc hpc
  have sn : ∀ j, ¬ (176 ≤ j ∧ j ≤ 180) → sup (mSS (mgv I) pc (I 24)) 180 v j = I 24 j := fun j hj => by rw [sup_ne (by omega), mSS_ne pc (fun p hp => by omega)]
  obtain ⟨f', hf', hfv⟩ : ∃ f', (f' = 4 ∨ f' = 5) ∧ v = nI f' := by
    rcases hv45 with z | z
    · exact ⟨4, Or.inl rfl, z⟩
    · exact ⟨5, Or.inr rfl, z⟩
  refine ⟨I1, some (.int 0), fun d n J ex _ => ⟨false, ?_⟩, fun d n J ex => ?_⟩
  · have := c6a (d := d + 14) (n := n) (J := J) (ex := ex) hzz h39 h5 (by omega) hpc
    rw [hZ, hv, hI1] at this
    exact this
  · obtain ⟨X, l1, l2, l3, l4⟩ := opq' (I1 := I1) hR h5 hpc hp2 hI (W := zz_up (msM I1 pc) 24 180 (if mAm (msM I1 pc) pc = true then 4 else 5)) (fun b' j hb => by rw [up_ne hb]; exact hms.2 b' j hb) (by rw [hW24]; exact hCI) (by
      rw [hW24]
      exact Vst.qg (f' := f') a3 a5 a6 (by decide) (by decide) (rep_sup2 n1 (by omega)) (a2.upd (fun j hj => n2 j (by omega)) (fun g hg => by
        unfold sumG
        rw [n2 _ (by omega), n2 _ (by omega), n2 _ (by omega), n2 _ (by omega), n2 _ (by omega)]
        exact a2.2.2.1 g hg) (fun j j1 j2 => by rw [n2 j (by omega)]; exact a2.2.2.2.1 j j1 j2) n3) (by rw [sup_eq, hfv]) (by omega) (by omega) (by rw [sn _ (by omega)]; exact a3.2.2.2.2.2.1) a3.2.2.2.2.2.2.1 (by rw [sn _ (by omega)]; exact a3.pl) (by rw [sn _ (by omega)]; exact a3.2.2.2.2.2.2.2.2.1) (fun j hj => sn j (by omega)) (sn _ (by omega)) (sn _ (by omega)) (sn _ (by omega)) (sn _ (by omega)) (sn _ (by omega))) d n J ex
    exact ⟨X, false, c126a (d := d) (X := X) ((m 24 180 (by omega)).trans h3) ((m 23 15 (by omega)).trans h15) hpc l1, l2, l3⟩
-- bringing
theorem br_core {cl : Nat → Nat} {pc bk : Nat} (hp2 : 2 ≤ pc) (hpc : pc ≤ 4) (hn : ¬ (bk < mgC cl pc ∧ 1 < mgK cl pc)) : (∀ p, p < pc → min (cl p) bk = if 0 < cl p then (if mgK cl pc = 1 then min (mgC cl pc) bk else cl p) else 0) ∧ zz_fold (fun p a => a + min (cl p) bk) pc 0 0 = min (mgC cl pc) bk := by
  have h3 : pc = 2 ∨ pc = 3 ∨ pc = 4 := by omega
  have hs : ∀ p, p < pc → p = 0 ∨ p = 1 ∨ p = 2 ∨ p = 3 := fun p hp => by omega
  unfold mgC mgK at *
  rcases h3 with rfl | rfl | rfl
  · simp only [zz_fold, Nat.zero_add, Nat.reduceAdd] at hn ⊢
    by_cases z0 : 0 < cl 0 <;> by_cases z1 : 0 < cl 1 <;> simp only [z0, z1, if_true, if_false, Nat.zero_add, Nat.reduceAdd] at hn ⊢ <;>
      (refine ⟨fun p hp => ?_, by omega⟩
       have hpp : p = 0 ∨ p = 1 := by omega
       rcases hpp with rfl | rfl <;> (repeat' split) <;> omega)
  · simp only [zz_fold, Nat.zero_add, Nat.reduceAdd] at hn ⊢
    by_cases z0 : 0 < cl 0 <;> by_cases z1 : 0 < cl 1 <;> by_cases z2 : 0 < cl 2 <;> simp only [z0, z1, z2, if_true, if_false, Nat.zero_add, Nat.reduceAdd] at hn ⊢ <;>
      (refine ⟨fun p hp => ?_, by omega⟩
       have hpp : p = 0 ∨ p = 1 ∨ p = 2 := by omega
       rcases hpp with rfl | rfl | rfl <;> (repeat' split) <;> omega)
  · simp only [zz_fold, Nat.zero_add, Nat.reduceAdd] at hn ⊢
    by_cases z0 : 0 < cl 0 <;> by_cases z1 : 0 < cl 1 <;> by_cases z2 : 0 < cl 2 <;> by_cases z3 : 0 < cl 3 <;> simp only [z0, z1, z2, z3, if_true, if_false, Nat.zero_add, Nat.reduceAdd] at hn ⊢ <;>
      (refine ⟨fun p hp => ?_, by omega⟩
       have hpp : p = 0 ∨ p = 1 ∨ p = 2 ∨ p = 3 := by omega
       rcases hpp with rfl | rfl | rfl | rfl <;> (repeat' split) <;> omega)
end OD
