section OI
variable {d n t pc s : Nat} {I X I1 W A B : Nat → Nat → Int32} {J : Nat → Nat → Int64} {ex : List (Nat × Nat)} {y : Int64} {S : Nat → Int32}
theorem fr_chn (e10 : X 10 = I 10) (e11 : X 11 = I 11) {p : Nat} (hp : p < 4) : chn X p = chn I p := by
  unfold chn
  refine zz_fold_congr 54 0 0 (fun c a _ hc => ?_)
  rw [fart_wk hp 15 (Nat.le_refl 15) c X (by omega), fart_wk hp 15 (Nat.le_refl 15) c I (by omega), e10, e11]
def awT (c : Nat) (a : Int32) (p : Nat) (u : Nat × Int32 × Bool) : Nat × Int32 × Bool := (if u.1 < c then c else u.1, if u.1 < c then nI p else if c = u.1 then -1 else u.2.1, if u.1 < c then decide (nI p = a) else if c = u.1 then (u.2.2 || decide (nI p = a)) else u.2.2)
theorem awS_22 {p : Nat} {U : Option Value × Bool × Nat × Int32 × Bool} : (awS I p U).2.2 = awT (chn I p) (I 9 10) p U.2.2 := rfl
theorem fr_awF (e9 : X 9 10 = I 9 10) (e10 : X 10 = I 10) (e11 : X 11 = I 11) (hpc : pc ≤ 4) : (awF X pc).2.2 = (awF I pc).2.2 := by
  have : ∀ k, k ≤ 4 → (zz_fold (awS X) k 0 (none, true, 0, -1, false)).2.2 = (zz_fold (awS I) k 0 (none, true, 0, -1, false)).2.2 := fun k => by
    induction k with
    | zero =>
      intro _
      simp only [zz_fold]
    | succ k ih =>
      intro hk
      have i := ih (by omega)
      rw [zz_fold_succ, zz_fold_succ, Nat.zero_add, awS_22, awS_22, i, fr_chn e10 e11 (by omega), e9]
  unfold awF
  exact this pc hpc
theorem aw_C (h : Cst A 9 S) {N : Nat → Nat} (hc : ∀ c, c < 54 → S (72 + c) = nI (N (72 + c)) ∧ N (72 + c) ≤ 12) (hpc : pc ≤ 4) (ha : S 189 = -1 ∨ ∃ a, a < pc ∧ S 189 = nI a) : Cst (sAw A pc) 9 (sup S 189 (awM (fun _ => S) pc)) ∧ ∀ b j, ¬ (b = 9 ∧ j = 10) → sAw A pc b j = A b j := by
  have hM : Cst (mix A (fun _ => S)) 9 (mix A (fun _ => S) 24) := Cst.mix (A := A) (B := fun _ => S) h
  have h24 : mix A (fun _ => S) 24 = S := mix24
  obtain ⟨r1, r2⟩ := r_sAw (I := mix A (fun _ => S)) (W := fun c => N (72 + c)) (pc := pc) hM (by rw [h24]; exact hc) hpc (by rw [h24]; exact ha)
  have e1 : awM (mix A (fun _ => S)) pc = awM (fun _ => S) pc := fr_aw (X := mix A (fun _ => S)) (I := fun _ => S) mix24 pc
  have e2 := fr_awF (X := mix A (fun _ => S)) (I := A) (pc := pc) (congrFun (mixn (by decide)) 10) (mixn (by decide)) (mixn (by decide)) hpc
  have hne : ∀ v b j, ¬ (b = 9 ∧ j = 10) → zz_up A 9 10 v b j = A b j := fun v b j hb => by
    by_cases z : b = 9
    · exact up_nf (fun y => hb ⟨z, y⟩)
    · exact up_ne z
  have e3 : sAw A pc 9 10 = sAw (mix A (fun _ => S)) pc 9 10 := by
    unfold sAw
    rw [e2]
    split
    · rw [up_eq, up_eq]
    · split
      · exact (congrFun (mixn (A := A) (B := fun _ => S) (b := 9) (by decide)) 10).symm
      · rw [up_eq, up_eq]
  have e4 : ∀ b j, ¬ (b = 9 ∧ j = 10) → sAw A pc b j = A b j := fun b j hb => by
    unfold sAw
    split
    · exact hne _ b j hb
    · split
      · rfl
      · exact hne _ b j hb
  refine ⟨?_, e4⟩
  have e5 : sAw A pc = zz_up A 9 10 (awM (fun _ => S) pc) := by
    funext b j
    by_cases z : b = 9 ∧ j = 10
    · obtain ⟨rfl, rfl⟩ := z
      rw [up_eq, e3, r1, e1]
    · rw [e4 b j z, hne _ b j z]
  rw [e5]
  exact h.v10 _
-- the last part of place, whatever was placed
theorem place_end (hR : Rel I y) (hp : I 5 5 = nI pc) (hpc : pc ≤ 4) (hp2 : 2 ≤ pc) (ht4 : t < 4) {C : Nat → Nat → Int32} {S1 s3 : Nat → Int32} {N : Nat → Nat} {f3 t3 D x : Nat} (hCn : ∀ b j, ¬ (9 ≤ b ∧ b ≤ 15) → C b j = rmb I b j) (hC3 : Cst C 9 (sup s3 189 (awM (fun _ => s3) pc))) (a1 : ∀ j, j < 180 → s3 j = nI (N j)) (a2 : Vn pc D N) (a3 : Vfl pc f3 t3 D x s3) (a4 : Vsu pc f3 t3 x N s3) : (∀ b j, ¬ (9 ≤ b ∧ b ≤ 15) → (if sW C t3 = true then zz_up C 9 0 8 else C) b j = rmb I b j) ∧ Cst (if sW C t3 = true then zz_up C 9 0 8 else C) 9 (lkS s3 pc t3 f3 (I 5 6)) ∧ pts (if sW C t3 = true then zz_up C 9 0 8 else C) t = ptm (fun _ => lkS s3 pc t3 f3 (I 5 6)) t := by
  have ht3 : t3 < 4 := by have := a3.2.2.2.2.1; omega
  have sn : ∀ j, ¬ j = 189 → sup s3 189 (awM (fun _ => s3) pc) j = s3 j := fun j hj => sup_ne hj
  have hcor : ∀ c, c < 54 → sup s3 189 (awM (fun _ => s3) pc) (72 + c) = nI (N (72 + c)) ∧ N (72 + c) ≤ 12 := fun c hc => by
    rw [sn _ (by omega)]
    exact V_corners a1 a2 hpc c hc
  have hw := win_C (A := C) (t := t3) hC3 hcor ht3 (f := f3) (by rw [sn _ (by omega)]; exact a3.1) a3.2.2.1 (tg := I 5 6) (by rw [hCn 5 6 (by omega), rmb_ne (by omega) (Or.inr (by decide))])
  refine ⟨fun b j hb => ?_, hw, ?_⟩
  · split
    · rw [up_ne (by omega), hCn b j hb]
    · exact hCn b j hb
  · refine pts_ptm (N := N) hw (fun c hc => ?_) ht4
    have : (if 3 ≤ f3 ∧ f3 ≤ 7 ∧ I 5 6 ≤ ptm (fun _ => sup s3 189 (awM (fun _ => s3) pc)) t3 then sup (sup (sup s3 189 (awM (fun _ => s3) pc)) 190 (nI t3)) 180 8 else sup s3 189 (awM (fun _ => s3) pc)) (72 + c) = s3 (72 + c) := by
      split
      · rw [sup_ne (by omega), sup_ne (by omega), sup_ne (by omega)]
      · rw [sup_ne (by omega)]
    unfold lkS
    rw [this]
    exact V_corners a1 a2 hpc c hc
end OI
