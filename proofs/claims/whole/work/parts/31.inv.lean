section ZI
variable {x : List Nat} {sw : List (Int32 × Nat)} {pc idx : Nat} {L : List (Option Value)} {st : List Value} {k : Bool} {h : zz_H} {a : zz_A}
theorem zz_i_ldc (ha : zz_heap (.ldc idx) x sw pc L st k h = some a) : ∃ v w, sw = [(v, w)] ∧ a = .inr (.inl (pc + 2, L, .int v :: st, k, h)) := by
  simp only [zz_heap, zz_go] at ha
  repeat' split at ha
  all_goals first
    | (cases ha; done)
    | (cases ha; exact ⟨_, _, rfl, rfl⟩)
theorem zz_i_ldc2 (ha : zz_heap (.ldc2_w idx) x sw pc L st k h = some a) : ∃ v, x = [v] ∧ a = .inr (.inl (pc + 3, L, .long (Int64.ofNat v) :: st, k, h)) := by
  simp only [zz_heap, zz_go] at ha
  repeat' split at ha
  all_goals first
    | (cases ha; done)
    | (cases ha; exact ⟨_, rfl, rfl⟩)
theorem zz_i_get (ha : zz_heap (.getfield idx) x sw pc L st k h = some a) : ∃ c f t q r, x = [c, f, t] ∧ st = .ref q :: r ∧ h.1[q]? = some (0, c) ∧ a = .inr (.inl (pc + 3, L, zz_fv h q f t :: r, k, h)) := by
  simp only [zz_heap, zz_go] at ha
  repeat' split at ha
  all_goals first
    | (cases ha; done)
    | (cases ha; subst_vars; exact ⟨_, _, _, _, _, rfl, rfl, by assumption, rfl⟩)
theorem zz_i_put (ha : zz_heap (.putfield idx) x sw pc L st k h = some a) : ∃ c f q r, h.1[q]? = some (0, c) ∧
    ((∃ v, x = [c, f, 0] ∧ st = .int v :: .ref q :: r ∧ a = .inr (.inl (pc + 3, L, r, false, (h.1, zz_up h.2.1 q f v, h.2.2.1, h.2.2.2)))) ∨
     (∃ v, x = [c, f, 1] ∧ st = .int v :: .ref q :: r ∧ (v = 0 ∨ v = 1) ∧ a = .inr (.inl (pc + 3, L, r, false, (h.1, zz_up h.2.1 q f v, h.2.2.1, h.2.2.2)))) ∨
     (∃ v, x = [c, f, 2] ∧ st = .long v :: .ref q :: r ∧ a = .inr (.inl (pc + 3, L, r, false, (h.1, h.2.1, zz_up h.2.2.1 q f v, h.2.2.2)))) ∨
     (∃ v, x = [c, f, 3] ∧ st = .ref v :: .ref q :: r ∧ a = .inr (.inl (pc + 3, L, r, false, (h.1, h.2.1, h.2.2.1, zz_up h.2.2.2 q f (.ref v)))))) := by
  simp only [zz_heap, zz_go] at ha
  repeat' split at ha
  all_goals first
    | (cases ha; done)
    | (cases ha; subst_vars; exact ⟨_, _, _, _, by assumption, Or.inl ⟨_, rfl, rfl, rfl⟩⟩)
    | (rename_i hv; obtain ⟨hv1, hv2⟩ := hv; cases ha; subst_vars; exact ⟨_, _, _, _, by assumption, Or.inr (Or.inl ⟨_, rfl, rfl, hv2, rfl⟩)⟩)
    | (cases ha; subst_vars; exact ⟨_, _, _, _, by assumption, Or.inr (Or.inr (Or.inl ⟨_, rfl, rfl, rfl⟩))⟩)
    | (cases ha; subst_vars; exact ⟨_, _, _, _, by assumption, Or.inr (Or.inr (Or.inr ⟨_, rfl, rfl, rfl⟩))⟩)
theorem zz_i_gets (ha : zz_heap (.getstatic idx) x sw pc L st k h = some a) : ∃ q n, x = [q] ∧ h.1[q]? = some (2, n) ∧ a = .inr (.inl (pc + 3, L, .ref q :: st, k, h)) := by
  simp only [zz_heap, zz_go] at ha
  repeat' split at ha
  all_goals first
    | (cases ha; done)
    | (cases ha; exact ⟨_, _, rfl, by assumption, rfl⟩)
theorem zz_i_ild (ha : zz_heap .iaload x sw pc L st k h = some a) : ∃ j q r n, st = .int j :: .ref q :: r ∧ (h.1[q]? = some (1, n) ∨ h.1[q]? = some (2, n)) ∧ zz_in j n = true ∧ a = .inr (.inl (pc + 1, L, .int (h.2.1 q j.toNatClampNeg) :: r, k, h)) := by
  simp only [zz_heap, zz_go] at ha
  repeat' split at ha
  all_goals first
    | (cases ha; done)
    | (cases ha; exact ⟨_, _, _, _, rfl, Or.inl (by assumption), by assumption, rfl⟩)
    | (cases ha; exact ⟨_, _, _, _, rfl, Or.inr (by assumption), by assumption, rfl⟩)
theorem zz_i_ist (ha : zz_heap .iastore x sw pc L st k h = some a) : ∃ v j q r n, st = .int v :: .int j :: .ref q :: r ∧ h.1[q]? = some (1, n) ∧ zz_in j n = true ∧ a = .inr (.inl (pc + 1, L, r, false, (h.1, zz_up h.2.1 q j.toNatClampNeg v, h.2.2.1, h.2.2.2))) := by
  simp only [zz_heap, zz_go] at ha
  repeat' split at ha
  all_goals first
    | (cases ha; done)
    | (cases ha; exact ⟨_, _, _, _, _, rfl, by assumption, by assumption, rfl⟩)
theorem zz_i_lld (ha : zz_heap .laload x sw pc L st k h = some a) : ∃ j q r n, st = .int j :: .ref q :: r ∧ h.1[q]? = some (3, n) ∧ zz_in j n = true ∧ a = .inr (.inl (pc + 1, L, .long (h.2.2.1 q j.toNatClampNeg) :: r, k, h)) := by
  simp only [zz_heap, zz_go] at ha
  repeat' split at ha
  all_goals first
    | (cases ha; done)
    | (cases ha; exact ⟨_, _, _, _, rfl, by assumption, by assumption, rfl⟩)
theorem zz_i_lst (ha : zz_heap .lastore x sw pc L st k h = some a) : ∃ v j q r n, st = .long v :: .int j :: .ref q :: r ∧ h.1[q]? = some (3, n) ∧ zz_in j n = true ∧ a = .inr (.inl (pc + 1, L, r, false, (h.1, h.2.1, zz_up h.2.2.1 q j.toNatClampNeg v, h.2.2.2))) := by
  simp only [zz_heap, zz_go] at ha
  repeat' split at ha
  all_goals first
    | (cases ha; done)
    | (cases ha; exact ⟨_, _, _, _, _, rfl, by assumption, by assumption, rfl⟩)
theorem zz_i_len (ha : zz_heap .arraylength x sw pc L st k h = some a) : ∃ q r n, st = .ref q :: r ∧ (h.1[q]? = some (1, n) ∨ h.1[q]? = some (2, n) ∨ h.1[q]? = some (3, n)) ∧ a = .inr (.inl (pc + 1, L, .int (Int32.ofNat n) :: r, k, h)) := by
  simp only [zz_heap, zz_go] at ha
  repeat' split at ha
  all_goals first
    | (cases ha; done)
    | (cases ha; exact ⟨_, _, _, rfl, Or.inl (by assumption), rfl⟩)
    | (cases ha; exact ⟨_, _, _, rfl, Or.inr (Or.inl (by assumption)), rfl⟩)
    | (cases ha; exact ⟨_, _, _, rfl, Or.inr (Or.inr (by assumption)), rfl⟩)
theorem zz_i_newa {ty : ArrayType} (ha : zz_heap (.newarray ty) x sw pc L st k h = some a) : ∃ n r, st = .int n :: r ∧ 0 ≤ n ∧ n.toNatClampNeg ≤ 4096 ∧
    ((x = [1] ∧ a = .inr (.inl (pc + 2, L, .ref h.1.length :: r, false, (h.1 ++ [(1, n.toNatClampNeg)], zz_all h.2.1 h.1.length 0, h.2.2.1, h.2.2.2)))) ∨
     (x = [3] ∧ a = .inr (.inl (pc + 2, L, .ref h.1.length :: r, false, (h.1 ++ [(3, n.toNatClampNeg)], h.2.1, zz_all h.2.2.1 h.1.length 0, h.2.2.2))))) := by
  simp only [zz_heap, zz_go] at ha
  repeat' split at ha
  all_goals first
    | (cases ha; done)
    | (rename_i hv; cases ha; exact ⟨_, _, rfl, hv.1, hv.2, Or.inl ⟨rfl, rfl⟩⟩)
    | (rename_i hv; cases ha; exact ⟨_, _, rfl, hv.1, hv.2, Or.inr ⟨rfl, rfl⟩⟩)
theorem zz_i_new (ha : zz_heap (.new idx) x sw pc L st k h = some a) : ∃ c, (x = [0, c] ∧ a = .inr (.inl (pc + 3, L, .ref h.1.length :: st, false, (h.1 ++ [(0, c)], zz_all h.2.1 h.1.length 0, zz_all h.2.2.1 h.1.length 0, zz_all h.2.2.2 h.1.length .null)))) ∨
    (x = [4, c] ∧ k = true ∧ st.length ≤ 8 ∧ a = .inl (.inr h.1.length, false, (h.1 ++ [(4, c)], h.2.1, h.2.2.1, h.2.2.2))) := by
  simp only [zz_heap, zz_go] at ha
  repeat' split at ha
  all_goals first
    | (cases ha; done)
    | (cases ha; exact ⟨_, Or.inl ⟨rfl, rfl⟩⟩)
    | (rename_i hv; cases ha; exact ⟨_, Or.inr ⟨rfl, hv.1, hv.2, rfl⟩⟩)
theorem zz_i_iret (ha : zz_heap .ireturn x sw pc L st k h = some a) : ∃ v, st = [.int v] ∧ a = .inl (.inl (some (.int v)), k, h) ∧ (x = [0] ∨ (x = [1] ∧ (v = 0 ∨ v = 1))) := by
  simp only [zz_heap, zz_go] at ha
  repeat' split at ha
  all_goals first
    | (cases ha; done)
    | (cases ha; exact ⟨_, rfl, rfl, Or.inl rfl⟩)
    | (rename_i hv; cases ha; exact ⟨_, rfl, rfl, Or.inr ⟨rfl, hv⟩⟩)
theorem zz_i_lret (ha : zz_heap .lreturn x sw pc L st k h = some a) : ∃ v, st = [.long v] ∧ a = .inl (.inl (some (.long v)), k, h) := by
  simp only [zz_heap, zz_go] at ha
  repeat' split at ha
  all_goals first
    | (cases ha; done)
    | (cases ha; exact ⟨_, rfl, rfl⟩)
theorem zz_i_ret (ha : zz_heap .return_ x sw pc L st k h = some a) : st = [] ∧ a = .inl (.inl none, k, h) := by
  simp only [zz_heap, zz_go] at ha
  repeat' split at ha
  all_goals first
    | (cases ha; done)
    | (cases ha; exact ⟨rfl, rfl⟩)
theorem zz_i_bi (ha : zz_bi x pc L st k h = some a) : (∃ q r, x = [1] ∧ st = .ref q :: r ∧ a = .inr (.inl (pc + 3, L, r, k, h))) ∨
    (∃ q b r n, x = [2] ∧ st = .int (Int32.ofNat n) :: .int 0 :: .ref b :: .int 0 :: .ref q :: r ∧ h.1[q]? = some (1, n) ∧ h.1[b]? = some (1, n) ∧ n ≤ 4096 ∧ a = .inr (.inl (pc + 3, L, r, false, (h.1, zz_cpy h.2.1 q b, h.2.2.1, h.2.2.2)))) ∨
    (∃ y v r, x = [3] ∧ st = .int y :: .int v :: r ∧ a = .inr (.inl (pc + 3, L, .int (if v < y then y else v) :: r, k, h))) ∨
    (∃ y v r, x = [4] ∧ st = .int y :: .int v :: r ∧ a = .inr (.inl (pc + 3, L, .int (if y < v then y else v) :: r, k, h))) ∨
    (∃ v r, x = [5] ∧ st = .int v :: r ∧ a = .inr (.inl (pc + 3, L, .int (if 0 ≤ v then v else 0 - v) :: r, k, h))) ∨
    (∃ y v r, x = [6] ∧ st = .long y :: .long v :: r ∧ a = .inr (.inl (pc + 3, L, .long (if y < v then y else v) :: r, k, h))) := by
  unfold zz_bi at ha
  split at ha
  · split at ha
    · cases ha; exact Or.inl ⟨_, _, rfl, rfl, rfl⟩
    · cases ha
  · split at ha
    · split at ha
      · split at ha
        · rename_i hv
          obtain ⟨h1, h2, h3, h4, h5⟩ := hv
          cases ha; subst_vars; exact Or.inr (Or.inl ⟨_, _, _, _, rfl, rfl, by assumption, by assumption, h4, rfl⟩)
        · cases ha
      · cases ha
    · cases ha
  · split at ha
    · cases ha; exact Or.inr (Or.inr (Or.inl ⟨_, _, _, rfl, rfl, rfl⟩))
    · cases ha
  · split at ha
    · cases ha; exact Or.inr (Or.inr (Or.inr (Or.inl ⟨_, _, _, rfl, rfl, rfl⟩)))
    · cases ha
  · split at ha
    · cases ha; exact Or.inr (Or.inr (Or.inr (Or.inr (Or.inl ⟨_, _, rfl, rfl, rfl⟩))))
    · cases ha
  · split at ha
    · cases ha; exact Or.inr (Or.inr (Or.inr (Or.inr (Or.inr ⟨_, _, _, rfl, rfl, rfl⟩))))
    · cases ha
  · cases ha
end ZI
