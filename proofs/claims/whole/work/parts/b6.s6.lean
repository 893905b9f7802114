section SS6
variable {I X : Nat → Nat → Int32} {s s' : Nat → Int32} {t pc : Nat} {y : Int64}
theorem Vst.qg {tg : Int32} {N' : Nat → Nat} {f t D x f' D' : Nat} (hfl : Vfl pc f t D x s) (haw : Vaw pc s) (hpt : Vpt f t tg s) (hf : 3 ≤ f) (hf7 : f ≤ 7) (r : ∀ j, j < 180 → s' j = nI (N' j)) (hV : Vn pc D' N') (h180 : s' 180 = nI f') (hf' : 3 ≤ f') (hf7' : f' ≤ 7) (h183 : s' 183 = nI D') (hD' : D' ≤ 16) (h184 : s' 184 = 0 ∨ s' 184 = 1) (h186 : s' 186 = -1 ∨ ∃ q, q < pc ∧ s' 186 = nI q) (e : ∀ j, j < 126 → s' j = s j) (e181 : s' 181 = s 181) (e189 : s' 189 = s 189) (e190 : s' 190 = s 190) (e191 : s' 191 = s 191) (ec : s' (151 + 5 * t + 4) = s (151 + 5 * t + 4)) : Vst pc tg s' := by
  obtain ⟨f1, f2, f3, f4, f5, f6, f7, f8, f9, f10, f11, f12, f13⟩ := hfl
  refine Vst.mkq (s := s) (f := f') (t := t) (x := x) haw r hV ⟨h180, by omega, by omega, by rw [e181, f4], f5, h183, hD', h184, h186, by rw [e189]; exact f10, ?_, by rw [e191, f12], f13⟩ hf' e e189 (fun _ => pt_q hpt hf hf7 e e189 ec)
  rw [e190, f11, if_neg (by omega), if_neg (by omega)]
theorem mW_who (pc : Nat) : (mW I pc).2 = -1 ∨ ∃ p, p < pc ∧ (mW I pc).2 = nI p ∧ chm I p = (mW I pc).1 := by
  induction pc with
  | zero => exact Or.inl rfl
  | succ k ih =>
    have e : mW I (k + 1) = mwS I k (mW I k) := by
      unfold mW
      rw [zz_fold_succ, Nat.zero_add]
    rw [e]
    unfold mwS
    dsimp only
    rcases Nat.lt_trichotomy (mW I k).1 (chm I k) with z | z | z
    · rw [if_pos z, if_pos z]
      exact Or.inr ⟨k, by omega, rfl, rfl⟩
    · have z1 : ¬ (mW I k).1 < chm I k := by omega
      rw [if_neg z1, if_neg z1, if_pos z.symm]
      exact Or.inl rfl
    · have z1 : ¬ (mW I k).1 < chm I k := by omega
      have z2 : ¬ chm I k = (mW I k).1 := by omega
      rw [if_neg z1, if_neg z1, if_neg z2]
      rcases ih with w | ⟨p, w1, w2, w3⟩
      · exact Or.inl w
      · exact Or.inr ⟨p, by omega, w2, w3⟩
theorem aw_form (ha : I 24 189 = -1 ∨ ∃ a, a < pc ∧ I 24 189 = nI a) : awM I pc = -1 ∨ ∃ a, a < pc ∧ awM I pc = nI a := by
  unfold awM
  split
  · exact Or.inl rfl
  · split
    · exact ha
    · rcases mW_who (I := I) pc with z | ⟨p, z1, z2, -⟩
      · exact Or.inl z
      · exact Or.inr ⟨p, z1, z2⟩
theorem aw_idem (hpc : pc ≤ 4) (e1 : ∀ j, j < 126 → X 24 j = I 24 j) (e2 : X 24 189 = awM I pc) : awM X pc = awM I pc := by
  have hch : ∀ p, chm X p = chm I p := fun p => q_chm e1 p
  have hm : mW X pc = mW I pc := by
    unfold mW
    refine zz_fold_congr pc 0 (0, -1) (fun i a _ hi => ?_)
    unfold mwS
    rw [hch]
  have e3 : awM X pc = if (mW I pc).1 < 5 then -1 else if (decide (0 ≤ awM I pc) && decide ((mW I pc).1 ≤ chm I (awM I pc).toNatClampNeg)) = true then awM I pc else (mW I pc).2 := by
    show (if (mW X pc).1 < 5 then -1 else if (decide (0 ≤ X 24 189) && decide ((mW X pc).1 ≤ chm X (X 24 189).toNatClampNeg)) = true then X 24 189 else (mW X pc).2) = _
    rw [hm, e2, hch]
  rw [e3]
  by_cases z : (mW I pc).1 < 5
  · rw [if_pos z]
    unfold awM
    rw [if_pos z]
  · rw [if_neg z]
    by_cases k : kpM I pc = true
    · have e4 : awM I pc = I 24 189 := by
        unfold awM
        rw [if_neg z, if_pos k]
      rw [e4]
      have : (decide (0 ≤ I 24 189) && decide ((mW I pc).1 ≤ chm I (I 24 189).toNatClampNeg)) = true := k
      rw [if_pos this]
    · have e4 : awM I pc = (mW I pc).2 := by
        unfold awM
        rw [if_neg z, if_neg k]
      rw [e4]
      split <;> rfl
-- what lookAround leaves
def lkS (s : Nat → Int32) (pc t f : Nat) (tg : Int32) : Nat → Int32 := if 3 ≤ f ∧ f ≤ 7 ∧ tg ≤ ptm (fun _ => sup s 189 (awM (fun _ => s) pc)) t then sup (sup (sup s 189 (awM (fun _ => s) pc)) 190 (nI t)) 180 8 else sup s 189 (awM (fun _ => s) pc)
theorem lkA_s {f : Nat} (h2 : I 24 180 = nI f) (hf : f ≤ 8) : lkA I pc t 24 = lkS (I 24) pc t f (I 23 16) ∧ ∀ b j, ¬ b = 24 → lkA I pc t b j = I b j := by
  have e1 : awM (fun _ => I 24) pc = awM I pc := fr_aw (X := fun _ => I 24) (I := I) rfl pc
  have e2 : ptm (fun _ => sup (I 24) 189 (awM I pc)) t = ptm (zz_up I 24 189 (awM I pc)) t := fr_ptm (X := fun _ => sup (I 24) 189 (awM I pc)) (I := zz_up I 24 189 (awM I pc)) up_sup.symm t
  have e3 : (3 ≤ I 24 180 ∧ I 24 180 ≤ 7 ∧ I 23 16 ≤ ptm (zz_up I 24 189 (awM I pc)) t) = (3 ≤ f ∧ f ≤ 7 ∧ I 23 16 ≤ ptm (zz_up I 24 189 (awM I pc)) t) := by
    rw [h2]
    have y1 : ((3 : Int32) ≤ nI f) = (3 ≤ f) := propext (zz_nI_le (a := 3) (b := f) (by decide) (by omega))
    have y2 : (nI f ≤ (7 : Int32)) = (f ≤ 7) := propext (zz_nI_le (a := f) (b := 7) (by omega) (by decide))
    rw [y1, y2]
  unfold lkA lkS
  rw [e1, e2]
  simp only [e3]
  by_cases z : 3 ≤ f ∧ f ≤ 7 ∧ I 23 16 ≤ ptm (zz_up I 24 189 (awM I pc)) t
  · simp only [z, and_self, if_true]
    refine ⟨by rw [up_sup, up_sup, up_sup], fun b j hb => by rw [up_ne hb, up_ne hb, up_ne hb]⟩
  · rw [if_neg z, if_neg z]
    exact ⟨up_sup, fun b j hb => up_ne hb⟩
theorem Vst.look {tg : Int32} {N : Nat → Nat} {f t D x : Nat} (hpc : pc ≤ 4) (r : ∀ j, j < 180 → s j = nI (N j)) (hV : Vn pc D N) (hfl : Vfl pc f t D x s) (hsu : Vsu pc f t x N s) : Vst pc tg (lkS s pc t f tg) := by
  obtain ⟨f1, f2, f3, f4, f5, f6, f7, f8, f9, f10, f11, f12, f13⟩ := hfl
  have hform : awM (fun _ => s) pc = -1 ∨ ∃ a, a < pc ∧ awM (fun _ => s) pc = nI a := aw_form (I := fun _ => s) f10
  unfold lkS
  by_cases z : 3 ≤ f ∧ f ≤ 7 ∧ tg ≤ ptm (fun _ => sup s 189 (awM (fun _ => s) pc)) t
  · rw [if_pos z]
    have sn : ∀ j, ¬ j = 189 → ¬ j = 190 → ¬ j = 180 → sup (sup (sup s 189 (awM (fun _ => s) pc)) 190 (nI t)) 180 8 j = s j := fun j j1 j2 j3 => by rw [sup_ne j3, sup_ne j2, sup_ne j1]
    have s189 : sup (sup (sup s 189 (awM (fun _ => s) pc)) 190 (nI t)) 180 8 189 = awM (fun _ => s) pc := by rw [sup_ne (by omega), sup_ne (by omega), sup_eq]
    refine ⟨N, 8, t, D, x, fun j hj => by rw [sn j (by omega) (by omega) (by omega)]; exact r j hj, hV, ⟨by rw [sup_eq]; rfl, by omega, by omega, ?_, f5, ?_, f7, ?_, ?_, ?_, ?_, ?_, f13⟩, ⟨fun w => by omega, fun w => by omega, fun w => by omega⟩, ?_, fun a b => by omega⟩
    · rw [sn _ (by omega) (by omega) (by omega), f4]
    · rw [sn _ (by omega) (by omega) (by omega), f6]
    · rw [sn _ (by omega) (by omega) (by omega)]
      exact f8
    · rw [sn _ (by omega) (by omega) (by omega)]
      exact f9
    · rw [s189]
      exact hform
    · rw [sup_ne (by omega), sup_eq]
      rfl
    · rw [sn _ (by omega) (by omega) (by omega), f12]
    · unfold Vaw
      rw [aw_idem (X := fun _ => sup (sup (sup s 189 (awM (fun _ => s) pc)) 190 (nI t)) 180 8) (I := fun _ => s) hpc (fun j hj => sn j (by omega) (by omega) (by omega)) s189, s189]
  · rw [if_neg z]
    have sn : ∀ j, ¬ j = 189 → sup s 189 (awM (fun _ => s) pc) j = s j := fun j j1 => sup_ne j1
    refine ⟨N, f, t, D, x, fun j hj => by rw [sn j (by omega)]; exact r j hj, hV, ⟨?_, f2, f3, ?_, f5, ?_, f7, ?_, ?_, ?_, ?_, ?_, f13⟩, ?_, ?_, fun a b w => z ⟨a, b, w⟩⟩
    · rw [sn _ (by omega), f1]
    · rw [sn _ (by omega), f4]
    · rw [sn _ (by omega), f6]
    · rw [sn _ (by omega)]
      exact f8
    · rw [sn _ (by omega)]
      exact f9
    · rw [sup_eq]
      exact hform
    · rw [sn _ (by omega), f11]
    · rw [sn _ (by omega), f12]
    · unfold Vsu at hsu ⊢
      rw [sn _ (by omega)]
      exact hsu
    · unfold Vaw
      rw [aw_idem (X := fun _ => sup s 189 (awM (fun _ => s) pc)) (I := fun _ => s) hpc (fun j hj => sn j (by omega)) sup_eq, sup_eq]
end SS6
