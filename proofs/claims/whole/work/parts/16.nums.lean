def zz_VR (A : List Nat) (v w : Value) : Prop := match v with
  | .ref i => ∃ a, A[i]? = some a ∧ w = .ref a
  | u => w = u
def zz_SR (A : List Nat) : List Value → List Value → Prop
  | [], t => t = []
  | v :: r, t => ∃ w r2, t = w :: r2 ∧ zz_VR A v w ∧ zz_SR A r r2
def zz_LR (A : List Nat) (nL : Nat) (L : List (Option Value)) (ls : Array Slot) : Prop :=
  L.length = nL ∧ ls.size = nL ∧ lv_wf ls ∧ ∀ (i : Nat) (v : Value), L[i]? = some (some v) → ∃ w, ls[i]? = some (.val w) ∧ zz_VR A v w
theorem zz_VR_cat {A : List Nat} {v w : Value} (h : zz_VR A v w) : w.category = v.category := by
  cases v with
  | ref i =>
    obtain ⟨a, -, rfl⟩ := h
    rfl
  | _ =>
    have h' : w = _ := h
    rw [h']
theorem zz_SR_int {A : List Nat} {x : Int32} {r t : List Value} (h : zz_SR A (.int x :: r) t) : ∃ r2, t = .int x :: r2 ∧ zz_SR A r r2 := by
  obtain ⟨w, r2, h1, h2, h3⟩ := h
  have h2' : w = .int x := h2
  subst h2'
  exact ⟨r2, h1, h3⟩
theorem zz_SR_long {A : List Nat} {x : Int64} {r t : List Value} (h : zz_SR A (.long x :: r) t) : ∃ r2, t = .long x :: r2 ∧ zz_SR A r r2 := by
  obtain ⟨w, r2, h1, h2, h3⟩ := h
  have h2' : w = .long x := h2
  subst h2'
  exact ⟨r2, h1, h3⟩
theorem zz_SR_ref {A : List Nat} {x : Nat} {r t : List Value} (h : zz_SR A (.ref x :: r) t) : ∃ a r2, t = .ref a :: r2 ∧ A[x]? = some a ∧ zz_SR A r r2 := by
  obtain ⟨w, r2, h1, ⟨a, h4, h5⟩, h3⟩ := h
  subst h5
  exact ⟨a, r2, h1, h4, h3⟩
theorem zz_SR_i {A : List Nat} {x : Int32} {r t : List Value} (h : zz_SR A r t) : zz_SR A (.int x :: r) (.int x :: t) := ⟨_, _, rfl, rfl, h⟩
theorem zz_SR_l {A : List Nat} {x : Int64} {r t : List Value} (h : zz_SR A r t) : zz_SR A (.long x :: r) (.long x :: t) := ⟨_, _, rfl, rfl, h⟩
theorem zz_SR_r {A : List Nat} {x a : Nat} {r t : List Value} (ha : A[x]? = some a) (h : zz_SR A r t) : zz_SR A (.ref x :: r) (.ref a :: t) := ⟨_, _, rfl, ⟨a, ha, rfl⟩, h⟩
theorem zz_SR_len {A : List Nat} : ∀ {st t : List Value}, zz_SR A st t → t.length = st.length
  | [], t, h => by
    have h' : t = [] := h
    rw [h']
  | v :: r, t, h => by
    obtain ⟨w, r2, rfl, -, h3⟩ := h
    simp [zz_SR_len h3]
theorem zz_LR_ld {A : List Nat} {nL j : Nat} {L : List (Option Value)} {ls : Array Slot} {v : Value} (h : zz_LR A nL L ls) (hv : zz_ld L j = some v) : ∃ w, ls[j]? = some (.val w) ∧ zz_VR A v w := by
  unfold zz_ld at hv
  split at hv
  · rename_i u hu
    cases hv
    exact h.2.2.2 j v hu
  · cases hv
def zz_lv (L : List (Option Value)) (ls : Array Slot) : List (Nat × Value) := (List.range L.length).filterMap fun i => match L[i]?, (ls[i]? : Option Slot) with
  | some (some _), some (Slot.val w) => some (i, w)
  | _, _ => none
theorem zz_lv_has {A : List Nat} {nL : Nat} {L : List (Option Value)} {ls : Array Slot} (h : zz_LR A nL L ls) : lv_has ls nL (zz_lv L ls) := by
  refine ⟨h.2.1, h.2.2.1, fun q hq => ?_⟩
  obtain ⟨i, -, hi⟩ := List.mem_filterMap.mp hq
  split at hi
  · rename_i h2
    cases hi
    exact h2
  · cases hi
theorem zz_lv_mem {A : List Nat} {nL : Nat} {L : List (Option Value)} {ls : Array Slot} (h : zz_LR A nL L ls) {i : Nat} {v : Value} (hv : L[i]? = some (some v)) : ∃ w, (i, w) ∈ zz_lv L ls ∧ zz_VR A v w := by
  obtain ⟨w, hw, hr⟩ := h.2.2.2 i v hv
  refine ⟨w, List.mem_filterMap.mpr ⟨i, List.mem_range.mpr (List.getElem?_eq_some_iff.mp hv).1, ?_⟩, hr⟩
  rw [hv, hw]
theorem zz_LR_st {A : List Nat} {nL j : Nat} {L L' : List (Option Value)} {ls ls' : Array Slot} {v w : Value} (h : zz_LR A nL L ls) (hs : zz_st L j v = some L') (hv : zz_VR A v w)
    (h' : lv_has ls' nL ((j, w) :: (zz_lv L ls).filter (fun q => !(q.1 == j) && !(q.1 + 1 == j && q.2.category == 2)))) : zz_LR A nL L' ls' := by
  unfold zz_st at hs
  split at hs
  · rename_i hj
    split at hs
    · cases hs
    · rename_i hwide
      cases hs
      refine ⟨by simp [h.1], h'.1, h'.2.1, fun i u hu => ?_⟩
      by_cases hij : i = j
      · subst hij
        rw [List.getElem?_set_self hj] at hu
        cases hu
        exact ⟨w, h'.2.2 (i, w) List.mem_cons_self, hv⟩
      · rw [List.getElem?_set_ne (fun q => hij q.symm)] at hu
        obtain ⟨w', hm, hr⟩ := zz_lv_mem h hu
        refine ⟨w', h'.2.2 (i, w') (List.mem_cons_of_mem _ (List.mem_filter.mpr ⟨hm, ?_⟩)), hr⟩
        have h1 : (i == j) = false := by simpa using hij
        have h2 : (i + 1 == j && w'.category == 2) = false := by
          cases hb : (i + 1 == j) with
          | false => rfl
          | true =>
            have hb' : i + 1 = j := by simpa using hb
            subst hb'
            simp only [zz_wide, hu] at hwide
            rw [zz_VR_cat hr]
            simpa using hwide
        simp only [h1, h2, Bool.not_false, Bool.and_self]
  · cases hs
theorem zz_st_lt {L L' : List (Option Value)} {j : Nat} {v : Value} (hs : zz_st L j v = some L') : j < L.length := by
  unfold zz_st at hs
  split at hs
  · assumption
  · cases hs
theorem zz_bin_some {st s : List Value} {f : Int32 → Int32 → Int32} (h : zz_bin st f = some s) : ∃ x y r, st = .int y :: .int x :: r ∧ s = .int (f x y) :: r := by
  unfold zz_bin at h
  split at h
  · cases h
    exact ⟨_, _, _, rfl, rfl⟩
  · cases h
theorem zz_binl_some {st s : List Value} {f : Int64 → Int64 → Int64} (h : zz_binl st f = some s) : ∃ x y r, st = .long y :: .long x :: r ∧ s = .long (f x y) :: r := by
  unfold zz_binl at h
  split at h
  · cases h
    exact ⟨_, _, _, rfl, rfl⟩
  · cases h
theorem zz_shl_some {st s : List Value} {f : Int64 → Int32 → Int64} (h : zz_shl st f = some s) : ∃ x y r, st = .int y :: .long x :: r ∧ s = .long (f x y) :: r := by
  unfold zz_shl at h
  split at h
  · cases h
    exact ⟨_, _, _, rfl, rfl⟩
  · cases h
def zz_tbl (pc : Nat) : Int → List Int → List (Int32 × Nat)
  | _, [] => []
  | lo, o :: r => (Int32.ofInt lo, ((pc : Int) + o).toNat) :: zz_tbl pc (lo + 1) r
def zz_lkp (pc : Nat) : List (Int × Int) → List (Int32 × Nat)
  | [] => []
  | (k, o) :: r => (Int32.ofInt k, ((pc : Int) + o).toNat) :: zz_lkp pc r
def zz_small (n : Int) : Bool := decide (-2147483648 ≤ n) && decide (n < 2147483648)
def zz_okN (i : Instr) (len pc : Nat) (x : List Nat) (sw : List (Int32 × Nat)) : Bool := match i with
  | .iconst _ | .lconst _ | .iload_n _ | .lload_n _ | .aload_n _ | .istore_n _ | .astore_n _ | .iadd | .isub | .imul | .iand | .ior | .ixor | .ishl | .ishr | .idiv | .irem | .ineg | .land | .lor | .lshl | .lshr | .lushr | .i2l | .l2i | .lcmp | .dup | .pop | .dup_x1 | .dup_x2 | .dup2 => len == 1
  | .bipush _ | .iload _ | .lload _ | .aload _ | .istore _ | .astore _ => len == 2
  | .sipush _ | .iinc _ _ => len == 3
  | .goto o | .ifCond _ o | .if_icmp _ o => (len == 3) && (match x with
    | [t] => decide ((pc : Int) + o = (t : Int))
    | _ => false)
  | .tableswitch d lo hi os => (match x with
    | [t] => decide ((pc : Int) + d = (t : Int)) && decide (hi = lo + (os.size : Int) - 1) && zz_small lo && zz_small (lo + (os.size : Int)) && os.toList.all (fun o => decide (0 ≤ (pc : Int) + o)) && decide (sw = zz_tbl pc lo os.toList)
    | _ => false)
  | .lookupswitch d ps => (match x with
    | [t] => decide ((pc : Int) + d = (t : Int)) && ps.toList.all (fun q => zz_small q.1 && decide (0 ≤ (pc : Int) + q.2)) && (ps.toList.zip (ps.toList.drop 1)).all (fun (a, next) => a.1 < next.1) && decide (sw = zz_lkp pc ps.toList)
    | _ => false)
  | _ => true
theorem zz_ofInt_toInt {n : Int} (h : zz_small n = true) : (Int32.ofInt n).toInt = n := by
  simp only [zz_small, Bool.and_eq_true, decide_eq_true_eq] at h
  rw [Int32.toInt_ofInt]
  show Int.bmod n 4294967296 = n
  unfold Int.bmod
  dsimp only
  split <;> omega
theorem zz_tbl_in {pc d : Nat} {v : Int32} : ∀ (os : List Int) (lo : Int), zz_small lo = true → zz_small (lo + (os.length : Int)) = true → lo ≤ v.toInt → v.toInt < lo + (os.length : Int) →
    ∃ o, os[(v.toInt - lo).toNat]? = some o ∧ zz_sw v d (zz_tbl pc lo os) = ((pc : Int) + o).toNat
  | [], lo, _, _, h3, h4 => by
    simp at h4
    omega
  | o :: r, lo, h1, h2, h3, h4 => by
    have hlo := zz_ofInt_toInt h1
    by_cases he : v = Int32.ofInt lo
    · subst he
      refine ⟨o, ?_, by simp [zz_tbl, zz_sw]⟩
      rw [hlo]
      simp
    · have hne : v.toInt ≠ lo := fun q => he (Int32.toInt_inj.mp (by rw [hlo]; exact q))
      have hs1 : zz_small (lo + 1) = true := by
        simp only [zz_small, Bool.and_eq_true, decide_eq_true_eq, List.length_cons] at h1 h2 ⊢
        omega
      obtain ⟨o', q1, q2⟩ := zz_tbl_in (pc := pc) (d := d) (v := v) r (lo + 1) hs1 (by rw [← h2]; congr 1; simp only [List.length_cons]; omega) (by omega) (by simp only [List.length_cons] at h4; omega)
      refine ⟨o', ?_, ?_⟩
      · rw [show (v.toInt - lo).toNat = (v.toInt - (lo + 1)).toNat + 1 by omega, List.getElem?_cons_succ]
        exact q1
      · simp only [zz_tbl, zz_sw, if_neg he]
        exact q2
theorem zz_tbl_out {pc d : Nat} {v : Int32} : ∀ (os : List Int) (lo : Int), zz_small lo = true → zz_small (lo + (os.length : Int)) = true → (v.toInt < lo ∨ lo + (os.length : Int) ≤ v.toInt) → zz_sw v d (zz_tbl pc lo os) = d
  | [], _, _, _, _ => rfl
  | o :: r, lo, h1, h2, h3 => by
    have hlo := zz_ofInt_toInt h1
    have he : ¬ v = Int32.ofInt lo := by
      intro q
      subst q
      rw [hlo] at h3
      simp only [List.length_cons] at h3
      omega
    have hs1 : r.length = 0 ∨ zz_small (lo + 1) = true := by
      simp only [zz_small, Bool.and_eq_true, decide_eq_true_eq, List.length_cons] at h1 h2 ⊢
      omega
    simp only [zz_tbl, zz_sw, if_neg he]
    rcases hs1 with hs1 | hs1
    · rw [List.length_eq_zero_iff.mp hs1]
      rfl
    · exact zz_tbl_out (pc := pc) (d := d) (v := v) r (lo + 1) hs1 (by rw [← h2]; congr 1; simp only [List.length_cons]; omega) (by simp only [List.length_cons] at h3; omega)
theorem zz_lkp_ok {pc : Nat} {d : Nat} {dd : Int} {v : Int32} (hd : (pc : Int) + dd = (d : Int)) : ∀ ps : List (Int × Int), ps.all (fun q => zz_small q.1 && decide (0 ≤ (pc : Int) + q.2)) = true →
    (pc : Int) + Op.lookupswitch.offset ps dd v.toInt = ((zz_sw v d (zz_lkp pc ps) : Nat) : Int)
  | [], _ => by
    simpa [Op.lookupswitch.offset, zz_lkp, zz_sw] using hd
  | (k, o) :: r, h => by
    simp only [List.all_cons, Bool.and_eq_true, decide_eq_true_eq] at h
    have hk := zz_ofInt_toInt h.1.1
    rw [Op.lookupswitch.offset_cons]
    by_cases he : v = Int32.ofInt k
    · subst he
      rw [if_pos hk.symm]
      simp only [zz_lkp, zz_sw, if_true]
      omega
    · rw [if_neg (fun q => he (Int32.toInt_inj.mp (by rw [hk]; exact q.symm)))]
      simp only [zz_lkp, zz_sw, if_neg he]
      exact zz_lkp_ok hd r h.2
