theorem shr20 (a : Int32) : (a >>> (20 &&& 31) = 0) = (0 ≤ a ∧ a ≤ 1048575) := by
  have h1 : (a >>> (20 &&& 31)).toInt = a.toInt / 1048576 := by
    show (a >>> (20 &&& 31)).toBitVec.toInt = _
    rw [Int32.toBitVec_shiftRight]
    have h2 : ((20 &&& 31 : Int32).toBitVec.smod 32) = BitVec.ofNat 32 20 := by decide
    rw [h2]
    unfold BitVec.sshiftRight'
    rw [BitVec.toNat_ofNat, BitVec.toInt_sshiftRight, Int.shiftRight_eq_div_pow]
    rfl
  have h3 : (a >>> (20 &&& 31) = 0) ↔ (a >>> (20 &&& 31)).toInt = 0 := by rw [← Int32.toInt_inj]; rfl
  rw [h3, h1, Int32.le_iff_toInt_le, Int32.le_iff_toInt_le, show (0 : Int32).toInt = 0 from rfl, show (1048575 : Int32).toInt = 1048575 from rfl]
  exact propext (by omega)
section O5
variable {d n t pc s : Nat} {I X I1 W : Nat → Nat → Int32} {J : Nat → Nat → Int64} {ex : List (Nat × Nat)} {y : Int64} {S : Nat → Int32}
theorem op_offer (p a b : Int32) : Opr 10 [.int p, .int a, .int b] 136 [.int p, .int a, .int b] (fun e => if e = 4 then 1 else if e = 3 then 2 else 0) := fun I y hR => by
  obtain ⟨pc, h5, h15, hpc, hC⟩ := hR.plc
  cases ho : ofB I p a b with
  | true =>
    refine Or.inr ⟨4, fun d n J ex => c10e (d := d + 17) p a b ?_, by decide, _, OkM.ref' hR (fun d n J ex => ⟨false, c136n1 (d := d) p a b ho⟩)⟩
    unfold ofB at ho
    rw [← hR.eqP, ← hC.on] at ho
    rw [shr20, shr20]
    simp only [Bool.or_eq_true, Bool.not_eq_true', decide_eq_true_eq, decide_eq_false_iff_not, Bool.and_eq_true] at ho
    rcases ho with z | z | z | z | z | z | z
    · exact Or.inl z
    · exact Or.inr (Or.inl z)
    · exact Or.inr (Or.inr (Or.inl (fun w => z w.1)))
    · exact Or.inr (Or.inr (Or.inl (fun w => z w.2)))
    · exact Or.inr (Or.inr (Or.inr (Or.inl (fun w => z w.1))))
    · exact Or.inr (Or.inr (Or.inr (Or.inl (fun w => z w.2))))
    · exact Or.inr (Or.inr (Or.inr (Or.inr z)))
  | false =>
    have ho' := ho
    unfold ofB at ho'
    rw [← hR.eqP] at ho'
    simp only [Bool.or_eq_false_iff, Bool.not_eq_false', decide_eq_true_eq, decide_eq_false_iff_not, Bool.and_eq_false_iff] at ho'
    obtain ⟨k1, k2, k3, k4, k5, k6, k7⟩ := ho'
    have b1 : a >>> (20 &&& 31) = 0 := by rw [shr20]; exact ⟨k3, k4⟩
    have b2 : b >>> (20 &&& 31) = 0 := by rw [shr20]; exact ⟨k5, k6⟩
    have b3 : ¬ (a = 0 ∧ b = 0) := fun z => by
      rcases k7 with w | w
      · exact w z.1
      · exact w z.2
    obtain ⟨q, hq, rfl⟩ := isP_nat h5 hpc k1
    obtain ⟨N, f, t, D, x, hp2, a1, a2, a3, a4, a5, a6⟩ := hR.dat h5 hpc (by omega)
    have ht : I 24 181 = nI t := a3.2.2.2.1
    have ht9 : I 9 1 = nI t := hC.on.trans ht
    have ht4 : t < pc := a3.2.2.2.2.1
    have hqt : ¬ nI q = nI t := by rw [← ht]; exact k2
    by_cases h6 : I 24 180 = 6
    · have h69 : I 9 0 = 6 := hC.ph.trans h6
      have hBe := r_hB hC (p := t) (by omega) a
      cases hb : hBm I t a with
      | false =>
        exact Or.inr ⟨3, fun d n J ex => c10g (d := d + 17) q a b k1 ht9 (by omega) hqt b1 b2 b3 h69 (hBe.trans hb), by decide, _, OkM.ref' hR (fun d n J ex => ⟨false, c136n2 (d := d) (nI q) a b ht (by omega) ho (Or.inr hb)⟩)⟩
      | true =>
        have hf : f = 6 := a3.ph (k := 6) (by decide) h6
        subst hf
        have hI : ∀ b' j, ¬ (9 ≤ b' ∧ b' ≤ 15) → zz_up (zz_up (zz_up (rmb I) 9 7 (nI q)) 9 8 a) 9 9 b b' j = rmb I b' j := fun b' j hb => by rw [up_ne (by omega), up_ne (by omega), up_ne (by omega)]
        generalize hI1 : zz_up (zz_up (zz_up (rmb I) 9 7 (nI q)) 9 8 a) 9 9 b = I1 at *
        have hW24 : zz_up (zz_up (zz_up (rmM I1) 24 186 (nI q)) 24 187 a) 24 188 b 24 = sup (sup (sup (I 24) 186 (nI q)) 187 a) 188 b := by rw [up_sup, up_sup, up_sup, f_r24 hI]
        have sn : ∀ j, ¬ j = 186 → ¬ j = 187 → ¬ j = 188 → sup (sup (sup (I 24) 186 (nI q)) 187 a) 188 b j = I 24 j := fun j j1 j2 j3 => by rw [sup_ne j3, sup_ne j2, sup_ne j1]
        have m := f_c4 hI
        refine Or.inl ⟨I1, none, fun d n J ex _ => ⟨false, ?_⟩, fun d n J ex => ?_⟩
        · rw [← hI1]
          exact c10a (d := d + 17) (by rw [hC.pl]; exact a3.pl) q a b k1 ht9 (by omega) hqt b1 b2 b3 h69 (hBe.trans hb)
        · obtain ⟨X, l1, l2, l3, l4⟩ := opq' (I1 := I1) hR h5 hpc hp2 hI (W := zz_up (zz_up (zz_up (rmM I1) 24 186 (nI q)) 24 187 a) 24 188 b) (fun b' j hb => by rw [up_ne hb, up_ne hb, up_ne hb]) (by
            rw [hW24, ← hI1]
            exact ((hC.rmb.v7 _).v8 _).v9 _) (by
            rw [hW24]
            exact Vst.qg (f' := 6) a3 a5 a6 (by decide) (by decide) (rep_sup2 (rep_sup2 (rep_sup2 a1 (by omega)) (by omega)) (by omega)) a2 (by rw [sn _ (by omega) (by omega) (by omega), h6]; rfl) (by decide) (by decide) (by rw [sn _ (by omega) (by omega) (by omega)]; exact a3.2.2.2.2.2.1) a3.2.2.2.2.2.2.1 (by rw [sn _ (by omega) (by omega) (by omega)]; exact a3.pl) (Or.inr ⟨q, hq, by rw [sup_ne (by omega), sup_ne (by omega), sup_eq]⟩) (fun j hj => sn j (by omega) (by omega) (by omega)) (sn _ (by omega) (by omega) (by omega)) (sn _ (by omega) (by omega) (by omega)) (sn _ (by omega) (by omega) (by omega)) (sn _ (by omega) (by omega) (by omega)) (sn _ (by omega) (by omega) (by omega))) d n J ex
          refine ⟨X, false, ?_, l2, l3⟩
          have e0 : ofB I1 (nI q) a b = false := by
            unfold ofB isPm at ho ⊢
            rw [m 23 15 (by omega), m 24 181 (by omega)]
            exact ho
          have e1 : hBm I1 t a = true := by
            unfold hBm at hb ⊢
            rw [show I1 24 = I 24 from funext fun j => m 24 j (by omega)]
            exact hb
          exact c136a (d := d) (X := X) (nI q) a b ((m 24 181 (by omega)).trans ht) (by omega) e0 ((m 24 180 (by omega)).trans h6) e1 l1
    · exact Or.inr ⟨3, fun d n J ex => c10f (d := d + 17) q a b k1 ht9 hqt b1 b2 b3 (fun z => h6 (hC.ph.symm.trans z)), by decide, _, OkM.ref' hR (fun d n J ex => ⟨false, c136n2 (d := d) (nI q) a b ht (by omega) ho (Or.inl h6)⟩)⟩
-- bank
theorem sup_comm {i j : Nat} {v w : Int32} (h : ¬ i = j) : sup (sup S i v) j w = sup (sup S j w) i v := by
  funext k
  unfold sup
  by_cases z1 : k = i
  · by_cases z2 : k = j
    · omega
    · simp [z1, h]
  · simp [z1]
theorem rtm_fr {X : Nat → Nat → Int32} (e1 : X 24 = I 24) (e2 : X 34 = I 34) {g : Int32} {P : Nat} {pe : Nat → Nat} : rtm X t g P pe = rtm I t g P pe := by
  unfold rtm
  refine zz_fold_congr P 0 4 (fun k a _ _ => ?_)
  unfold rtS rtH rtX
  rw [fr_isMi e1, fr_isMi e1, e2]
theorem rtm_le {g : Int32} {P : Nat} {pe : Nat → Nat} : rtm I t g P pe ≤ 4 := by
  have : ∀ k, zz_fold (rtS I t g pe) k 0 4 ≤ 4 := fun k => by
    induction k with
    | zero => exact Nat.le_refl 4
    | succ k ih =>
      rw [zz_fold_succ]
      unfold rtS at ih ⊢
      (repeat' split) <;> omega
  exact this P
theorem op_bank (a b : Int32) : Opr 9 [.int a, .int b] 134 [.int a, .int b] (fun e => if e = 4 then 1 else if e = 3 then 2 else 0) := fun I y hR => by
  obtain ⟨pc, h5, h15, hpc, hC⟩ := hR.plc
  by_cases hn : isG a = false ∨ isG b = false ∨ a = b
  · exact Or.inr ⟨4, fun d n J ex => c9e (d := d + 16) a b hn, by decide, _, OkM.ref' hR (fun d n J ex => ⟨false, c134n1 (d := d) a b hn⟩)⟩
  · have ha2 : isG a = true := by
      cases z : isG a with
      | true => rfl
      | false => exact absurd (Or.inl z) hn
    have hb2 : isG b = true := by
      cases z : isG b with
      | true => rfl
      | false => exact absurd (Or.inr (Or.inl z)) hn
    have hab : ¬ a = b := fun z => hn (Or.inr (Or.inr z))
    obtain ⟨u, hu, rfl⟩ := isG_nat ha2
    obtain ⟨v, hv, rfl⟩ := isG_nat hb2
    have huv : ¬ u = v := fun z => hab (by rw [z])
    by_cases h6 : I 24 180 = 6
    · obtain ⟨pc, N, t, D, x, h5, h15, hp2, hpc, hC, a1, a2, a3, a4, a5, a6⟩ := hR.ph_dat (k := 6) (by decide) (by decide) h6
      have h69 : I 9 0 = 6 := hC.ph.trans h6
      have ht : I 24 181 = nI t := a3.2.2.2.1
      have ht9 : I 9 1 = nI t := hC.on.trans ht
      have ht4 : t < pc := a3.2.2.2.2.1
      obtain ⟨P, pe, pk, hP⟩ := hR.2.2.2.1
      have hpr := r_bPr hC (V_corners a1 a2 hpc) hP (t := t) (by omega) hu
      have hrt := fun (Y : Nat → Nat → Int32) (hY : ∀ b j, 23 ≤ b → b < 39 → ¬ (b = 23 ∧ (j = 0 ∨ j = 3)) → ¬ b = 25 → Y b j = I b j) (d n : Nat) (J : Nat → Nat → Int64) (ex : List (Nat × Nat)) => c133 (d := d) (n := n) (J := J) (ex := ex) (I := Y) (hR.tm.cong (fun b j h1 h2 => hY b j (by omega) (by omega) (by omega) (by omega))) (P := P) (pe := pe) (by rw [hY 23 11 (by omega) (by omega) (by omega) (by omega)]; exact hP.2.1) hP.2.2.1 (fun k hk => by rw [hY 33 k (by omega) (by omega) (by omega) (by omega)]; exact (hP.2.2.2.1 k hk).1) (fun k hk => (hP.2.2.2.1 k hk).2.1) t (by omega) (nI u)
      have hrl := rtm_le (I := I) (t := t) (g := nI u) (P := P) (pe := pe)
      generalize hr : rtm I t (nI u) P pe = r at *
      have e12 : I 12 (t * 5 + u) = I 24 (126 + (t * 5 + u)) := hC.hd (by omega)
      have e12b : I 12 (4 * 5 + v) = I 24 (146 + v) := by rw [hC.hd (by omega), show 126 + (4 * 5 + v) = 146 + v by omega]
      have eix : 126 + 5 * t + u = 126 + (t * 5 + u) := by omega
      have hNb := V_hand a2 (j := 146 + v) (by omega) (by omega)
      have hNa := V_hand a2 (j := 126 + (t * 5 + u)) (by omega) (by omega)
      have e1b : ((1 : Int32) ≤ I 24 (146 + v)) = ¬ I 24 (146 + v) = 0 := by
        rw [a1 _ (by omega), nI_z (by omega)]
        exact propext ((zz_nI_le (a := 1) (by decide) (by omega)).trans (by omega))
      have hmI : ∀ d n J ex, zz_Call zz_prog (d + 2) 133 [.ref 23, .int (nI t), .int (nI u)] (zz_hp n I J ex) = some (.inl (some (.int (nI r))), true, zz_hp n I J ex) := fun d n J ex => by
        rw [hrt I (fun _ _ _ _ _ _ => rfl) d n J ex, hr]
      by_cases hok : nI r ≤ I 24 (126 + (t * 5 + u)) ∧ ¬ I 24 (146 + v) = 0
      · obtain ⟨o1, o2⟩ := hok
        have hrN : r ≤ N (126 + (t * 5 + u)) := by
          rw [a1 _ (by omega)] at o1
          exact (zz_nI_le (by omega) (by omega)).mp o1
        have hvN : 1 ≤ N (146 + v) := by
          rw [a1 _ (by omega), nI_z (by omega)] at o2
          omega
        have hI : ∀ b' j, ¬ (9 ≤ b' ∧ b' ≤ 15) → mv (mv (rmb I) t 4 u (nI r)) 4 t v 1 b' j = rmb I b' j := fun b' j hb => by rw [mv_ne (by omega), mv_ne (by omega)]
        have hCI := (hC.rmb.mv (f := t) (t := 4) (by omega) (by omega) hu (nI r)).mv (f := 4) (t := t) (by omega) (by omega) hv 1
        generalize hI1 : mv (mv (rmb I) t 4 u (nI r)) 4 t v 1 = I1 at *
        have m := f_c4 hI
        have hS : mvS (mvS (I 24) t 4 u (nI r)) 4 t v 1 = sup (sup (sup (sup (I 24) (126 + 5 * t + u) (I 24 (126 + 5 * t + u) - nI r)) (146 + u) (I 24 (146 + u) + nI r)) (126 + 5 * t + v) (I 24 (126 + 5 * t + v) + 1)) (146 + v) (I 24 (146 + v) - 1) := by
          rw [mvS_fn (s' := I 24) (f := 4) (t := t) (by omega) (by omega) (by omega) hv, mvS_ne (by omega) (by omega), mvS_ne (by omega) (by omega), mvS_fn (s' := I 24) (f := t) (t := 4) (by omega) (by omega) (by omega) hu, sup_comm (by omega), show 126 + (t * 5 + u) = 126 + 5 * t + u by omega, show 126 + (4 * 5 + u) = 146 + u by omega, show 126 + (t * 5 + v) = 126 + 5 * t + v by omega, show 126 + (4 * 5 + v) = 146 + v by omega]
        have hW24 : bkM I1 t u v (nI r) 24 = mvS (mvS (I 24) t 4 u (nI r)) 4 t v 1 := by
          unfold bkM
          rw [up_sup, up_sup, up_sup, up_sup, f_r24 hI, m _ _ (by omega), m _ _ (by omega), m _ _ (by omega), m _ _ (by omega), hS]
        have r1 := rep_mv a1 (f := t) (t := 4) (g := u) (c := r) (by omega) (by omega) hu hrN
        have hv1 : 1 ≤ mvN N t 4 u r (126 + (4 * 5 + v)) := by
          rw [mvN_ne (by omega) (by omega), show 126 + (4 * 5 + v) = 146 + v by omega]
          exact hvN
        have r2 := rep_mv r1 (f := 4) (t := t) (g := v) (c := 1) (by omega) (by omega) hv hv1
        have nn : ∀ j, ¬ (126 ≤ j ∧ j < 151) → mvN (mvN N t 4 u r) 4 t v 1 j = N j := fun j hj => by rw [mvN_ne (by omega) (by omega), mvN_ne (by omega) (by omega)]
        have sn : ∀ j, ¬ (126 ≤ j ∧ j < 151) → mvS (mvS (I 24) t 4 u (nI r)) 4 t v 1 j = I 24 j := fun j hj => by rw [mvS_ne (by omega) (by omega), mvS_ne (by omega) (by omega)]
        refine Or.inl ⟨I1, some (.int (nI r)), fun d n J ex _ => ⟨false, ?_⟩, fun d n J ex => ?_⟩
        · have := c9a (d := d + 16) (n := n) (J := J) (ex := ex) (by rw [hC.pl]; exact a3.pl) u v hu hv huv h69 ht9 (by omega) (by rw [hpr, e12]; exact o1) (by rw [e12b, e1b]; exact o2)
          rw [hpr, hI1] at this
          exact this
        · obtain ⟨X, l1, l2, l3, l4⟩ := opq' (I1 := I1) hR h5 hpc hp2 hI (W := bkM I1 t u v (nI r)) (fun b' j hb => by unfold bkM; rw [up_ne hb, up_ne hb, up_ne hb, up_ne hb]) (by
            rw [hW24]
            exact hCI) (by
            rw [hW24]
            exact Vst.qg (f' := 6) a3 a5 a6 (by decide) (by decide) r2 (a2.upd (fun j hj => nn j (by omega)) (fun g hg => by
              rw [mvN_sum (by omega) (by omega) hv hv1 hg, mvN_sum (by omega) (by omega) hu hrN hg]
              exact a2.2.2.1 g hg) (fun j j1 j2 => by rw [nn j (by omega)]; exact a2.2.2.2.1 j j1 j2) (fun j j1 j2 => by rw [nn j (by omega)]; exact a2.2.2.2.2.1 j j1 j2)) (by rw [sn _ (by omega), h6]; rfl) (by decide) (by decide) (by rw [sn _ (by omega)]; exact a3.2.2.2.2.2.1) a3.2.2.2.2.2.2.1 (by rw [sn _ (by omega)]; exact a3.pl) (by rw [sn _ (by omega)]; exact a3.2.2.2.2.2.2.2.2.1) (fun j hj => sn j (by omega)) (sn _ (by omega)) (sn _ (by omega)) (sn _ (by omega)) (sn _ (by omega)) (sn _ (by omega))) d n J ex
          refine ⟨X, false, ?_, l2, l3⟩
          have w1 := hrt I1 (fun b' j h1 _ _ _ => m b' j h1) (d + 4) n J ex
          have w2 := hrt (rmM I1) (fun b' j h1 h2 h3 h4 => (rmM_ne h4 (by omega)).trans (m b' j h1)) (d + 4) n J ex
          rw [rtm_fr (funext fun j => m 24 j (by omega)) (funext fun j => m 34 j (by omega)), hr] at w1
          rw [rtm_fr (f_r24 hI) (funext fun j => (rmM_ne (by omega) (Or.inl (by omega))).trans (m 34 j (by omega))), hr] at w2
          exact c134a (d := d) (X := X) u v hu hv huv ((m 24 181 (by omega)).trans ht) (by omega) w1 w2 ((m 24 180 (by omega)).trans h6) (by rw [m _ _ (by omega), eix]; exact o1) (by rw [m _ _ (by omega)]; exact o2) l1
      · refine Or.inr ⟨3, fun d n J ex => c9g (d := d + 16) u v hu hv huv h69 ht9 (by omega) (fun z => hok ?_), by decide, _, OkM.ref' hR (fun d n J ex => ⟨false, c134n2 (d := d) (t := t) (r := nI r) u v hu hv huv (Or.inl ht) (by omega) (fun _ => hmI (d + 4) n J ex) (Or.inr ⟨ht, ?_⟩)⟩)⟩
        · rw [hpr, e12, e12b, e1b] at z
          exact z
        · rw [eix]
          by_cases z : nI r ≤ I 24 (126 + (t * 5 + u))
          · right
            exact Classical.byContradiction fun w => hok ⟨z, w⟩
          · exact Or.inl z
    · obtain ⟨P, pe, pk, hP⟩ := hR.2.2.2.1
      exact Or.inr ⟨3, fun d n J ex => c9f (d := d + 16) u v hu hv huv (fun z => h6 (hC.ph.symm.trans z)), by decide, _, OkM.ref' hR (fun d n J ex => ⟨false, c134n2 (d := d) (t := 0) (r := nI (rtm I 0 (nI u) P pe)) u v hu hv huv (Or.inr h6) (by decide) (fun _ => c133 (d := d + 4) hR.tm hP.2.1 hP.2.2.1 (fun k hk => (hP.2.2.2.1 k hk).1) (fun k hk => (hP.2.2.2.1 k hk).2.1) 0 (by decide) (nI u)) (Or.inl h6)⟩)⟩
end O5
