section ZN
variable {p : Program} {l : Launch} {e : Env} {R : Room} {s : State} {m : MethodId} {args : Array Value} {below : List Frame} {meth : Method} {c : Code} {H : Heap} {locs : List Loc} {cells slots : Nat} {Q : State → Prop}
variable {cc : ByteArray} {pc : Nat} {ls : Array Slot} {A : List Nat} {nL : Nat}
theorem zz_bin_row {f : Int32 → Int32 → Int32} {st z t : List Value} (h : zz_bin st f = some z) (hS : zz_SR A st t) (row : ∀ (x y : Int32) (r2 : List Value), W p l e R s m args below meth c H locs cells slots Q (F0 m (pc + 1) ls (.int (f x y) :: r2)) → W p l e R s m args below meth c H locs cells slots Q (F0 m pc ls (.int y :: .int x :: r2)))
    (kk : ∀ t', zz_SR A z t' → W p l e R s m args below meth c H locs cells slots Q (F0 m (pc + 1) ls t')) : W p l e R s m args below meth c H locs cells slots Q (F0 m pc ls t) := by
  obtain ⟨x, y, r, rfl, rfl⟩ := zz_bin_some h
  obtain ⟨t1, rfl, h1⟩ := zz_SR_int hS
  obtain ⟨t2, rfl, h2⟩ := zz_SR_int h1
  exact row x y t2 (kk _ (zz_SR_i h2))
theorem zz_binl_row {f : Int64 → Int64 → Int64} {st z t : List Value} (h : zz_binl st f = some z) (hS : zz_SR A st t) (row : ∀ (x y : Int64) (r2 : List Value), W p l e R s m args below meth c H locs cells slots Q (F0 m (pc + 1) ls (.long (f x y) :: r2)) → W p l e R s m args below meth c H locs cells slots Q (F0 m pc ls (.long y :: .long x :: r2)))
    (kk : ∀ t', zz_SR A z t' → W p l e R s m args below meth c H locs cells slots Q (F0 m (pc + 1) ls t')) : W p l e R s m args below meth c H locs cells slots Q (F0 m pc ls t) := by
  obtain ⟨x, y, r, rfl, rfl⟩ := zz_binl_some h
  obtain ⟨t1, rfl, h1⟩ := zz_SR_long hS
  obtain ⟨t2, rfl, h2⟩ := zz_SR_long h1
  exact row x y t2 (kk _ (zz_SR_l h2))
theorem zz_shl_row {f : Int64 → Int32 → Int64} {st z t : List Value} (h : zz_shl st f = some z) (hS : zz_SR A st t) (row : ∀ (x : Int64) (y : Int32) (r2 : List Value), W p l e R s m args below meth c H locs cells slots Q (F0 m (pc + 1) ls (.long (f x y) :: r2)) → W p l e R s m args below meth c H locs cells slots Q (F0 m pc ls (.int y :: .long x :: r2)))
    (kk : ∀ t', zz_SR A z t' → W p l e R s m args below meth c H locs cells slots Q (F0 m (pc + 1) ls t')) : W p l e R s m args below meth c H locs cells slots Q (F0 m pc ls t) := by
  obtain ⟨x, y, r, rfl, rfl⟩ := zz_shl_some h
  obtain ⟨t1, rfl, h1⟩ := zz_SR_int hS
  obtain ⟨t2, rfl, h2⟩ := zz_SR_long h1
  exact row x y t2 (kk _ (zz_SR_l h2))
set_option maxHeartbeats 4000000 in
theorem zz_nums_sound (hexec : p.tables.exec = Jvm.exec) (hb : c.code = cc) {i : Instr} {len pc' : Nat} {x : List Nat} {sw : List (Int32 × Nat)} {L L' : List (Option Value)} {st st' t : List Value} (hd : decode cc pc = .ok (i, len)) (hok : zz_okN i len pc x sw = true)
    (h : zz_nums i x sw pc L st = some (pc', L', st')) (hL : zz_LR A nL L ls) (hS : zz_SR A st t)
    (kk : ∀ ls' t', zz_LR A nL L' ls' → zz_SR A st' t' → W p l e R s m args below meth c H locs cells slots Q (F0 m pc' ls' t')) : W p l e R s m args below meth c H locs cells slots Q (F0 m pc ls t) := by
  cases i with
  | iconst n =>
    simp only [zz_nums] at h
    simp only [Option.some.injEq, Prod.mk.injEq] at h
    obtain ⟨rfl, rfl, rfl⟩ := h
    have hl : len = 1 := by simpa [zz_okN] using hok
    subst hl
    exact lv_iconst hexec hb hd rfl (kk _ _ hL (zz_SR_i hS))
  | bipush n =>
    simp only [zz_nums] at h
    simp only [Option.some.injEq, Prod.mk.injEq] at h
    obtain ⟨rfl, rfl, rfl⟩ := h
    have hl : len = 2 := by simpa [zz_okN] using hok
    subst hl
    exact lv_bipush hexec hb hd rfl (kk _ _ hL (zz_SR_i hS))
  | sipush n =>
    simp only [zz_nums] at h
    simp only [Option.some.injEq, Prod.mk.injEq] at h
    obtain ⟨rfl, rfl, rfl⟩ := h
    have hl : len = 3 := by simpa [zz_okN] using hok
    subst hl
    exact lv_sipush hexec hb hd rfl (kk _ _ hL (zz_SR_i hS))
  | lconst n =>
    simp only [zz_nums] at h
    simp only [Option.some.injEq, Prod.mk.injEq] at h
    obtain ⟨rfl, rfl, rfl⟩ := h
    have hl : len = 1 := by simpa [zz_okN] using hok
    subst hl
    exact lv_lconst hexec hb hd rfl (kk _ _ hL (zz_SR_l hS))
  | iload j =>
    simp only [zz_nums] at h
    split at h
    · rename_i v hv
      simp only [Option.some.injEq, Prod.mk.injEq] at h
      obtain ⟨rfl, rfl, rfl⟩ := h
      obtain ⟨w, hw, hr⟩ := zz_LR_ld hL hv
      have hl : len = 2 := by simpa [zz_okN] using hok
      subst hl
      have hr' : w = .int v := hr
      subst hr'
      exact lv_iload hexec hb hd hw (kk _ _ hL (zz_SR_i hS))
    · cases h
  | iload_n j =>
    simp only [zz_nums] at h
    split at h
    · rename_i v hv
      simp only [Option.some.injEq, Prod.mk.injEq] at h
      obtain ⟨rfl, rfl, rfl⟩ := h
      obtain ⟨w, hw, hr⟩ := zz_LR_ld hL hv
      have hl : len = 1 := by simpa [zz_okN] using hok
      subst hl
      have hr' : w = .int v := hr
      subst hr'
      exact lv_iload_n hexec hb hd rfl hw (kk _ _ hL (zz_SR_i hS))
    · cases h
  | lload j =>
    simp only [zz_nums] at h
    split at h
    · rename_i v hv
      simp only [Option.some.injEq, Prod.mk.injEq] at h
      obtain ⟨rfl, rfl, rfl⟩ := h
      obtain ⟨w, hw, hr⟩ := zz_LR_ld hL hv
      have hl : len = 2 := by simpa [zz_okN] using hok
      subst hl
      have hr' : w = .long v := hr
      subst hr'
      exact lv_lload hexec hb hd hw (kk _ _ hL (zz_SR_l hS))
    · cases h
  | lload_n j =>
    simp only [zz_nums] at h
    split at h
    · rename_i v hv
      simp only [Option.some.injEq, Prod.mk.injEq] at h
      obtain ⟨rfl, rfl, rfl⟩ := h
      obtain ⟨w, hw, hr⟩ := zz_LR_ld hL hv
      have hl : len = 1 := by simpa [zz_okN] using hok
      subst hl
      have hr' : w = .long v := hr
      subst hr'
      exact lv_lload_n hexec hb hd rfl hw (kk _ _ hL (zz_SR_l hS))
    · cases h
  | aload j =>
    simp only [zz_nums] at h
    split at h
    · rename_i v hv
      simp only [Option.some.injEq, Prod.mk.injEq] at h
      obtain ⟨rfl, rfl, rfl⟩ := h
      obtain ⟨w, hw, hr⟩ := zz_LR_ld hL hv
      have hl : len = 2 := by simpa [zz_okN] using hok
      subst hl
      obtain ⟨a, ha, rfl⟩ := hr
      exact lv_aload hexec hb hd hw (kk _ _ hL (zz_SR_r ha hS))
    · cases h
  | aload_n j =>
    simp only [zz_nums] at h
    split at h
    · rename_i v hv
      simp only [Option.some.injEq, Prod.mk.injEq] at h
      obtain ⟨rfl, rfl, rfl⟩ := h
      obtain ⟨w, hw, hr⟩ := zz_LR_ld hL hv
      have hl : len = 1 := by simpa [zz_okN] using hok
      subst hl
      obtain ⟨a, ha, rfl⟩ := hr
      exact lv_aload_n hexec hb hd rfl hw (kk _ _ hL (zz_SR_r ha hS))
    · cases h
  | istore j =>
    simp only [zz_nums] at h
    split at h
    · rename_i v r
      obtain ⟨L1, hL1, h1⟩ := Option.map_eq_some_iff.mp h
      simp only [Prod.mk.injEq] at h1
      obtain ⟨rfl, rfl, rfl⟩ := h1
      have hl : len = 2 := by simpa [zz_okN] using hok
      subst hl
      obtain ⟨t2, rfl, hS2⟩ := zz_SR_int hS
      exact lv_istore hexec hb hd (zz_lv_has hL) (by rw [← hL.1]; exact zz_st_lt hL1) rfl (fun ls' h' => kk ls' _ (zz_LR_st hL hL1 rfl h') hS2)
    · cases h
  | istore_n j =>
    simp only [zz_nums] at h
    split at h
    · rename_i v r
      obtain ⟨L1, hL1, h1⟩ := Option.map_eq_some_iff.mp h
      simp only [Prod.mk.injEq] at h1
      obtain ⟨rfl, rfl, rfl⟩ := h1
      have hl : len = 1 := by simpa [zz_okN] using hok
      subst hl
      obtain ⟨t2, rfl, hS2⟩ := zz_SR_int hS
      exact lv_istore_n hexec hb hd rfl (zz_lv_has hL) (by rw [← hL.1]; exact zz_st_lt hL1) rfl (fun ls' h' => kk ls' _ (zz_LR_st hL hL1 rfl h') hS2)
    · cases h
  | astore j =>
    simp only [zz_nums] at h
    split at h
    · rename_i v r
      obtain ⟨L1, hL1, h1⟩ := Option.map_eq_some_iff.mp h
      simp only [Prod.mk.injEq] at h1
      obtain ⟨rfl, rfl, rfl⟩ := h1
      have hl : len = 2 := by simpa [zz_okN] using hok
      subst hl
      obtain ⟨a, t2, rfl, ha, hS2⟩ := zz_SR_ref hS
      exact lv_astore hexec hb hd (zz_lv_has hL) (by rw [← hL.1]; exact zz_st_lt hL1) rfl (fun ls' h' => kk ls' _ (zz_LR_st hL hL1 ⟨a, ha, rfl⟩ h') hS2)
    · cases h
  | astore_n j =>
    simp only [zz_nums] at h
    split at h
    · rename_i v r
      obtain ⟨L1, hL1, h1⟩ := Option.map_eq_some_iff.mp h
      simp only [Prod.mk.injEq] at h1
      obtain ⟨rfl, rfl, rfl⟩ := h1
      have hl : len = 1 := by simpa [zz_okN] using hok
      subst hl
      obtain ⟨a, t2, rfl, ha, hS2⟩ := zz_SR_ref hS
      exact lv_astore_n hexec hb hd rfl (zz_lv_has hL) (by rw [← hL.1]; exact zz_st_lt hL1) rfl (fun ls' h' => kk ls' _ (zz_LR_st hL hL1 ⟨a, ha, rfl⟩ h') hS2)
    · cases h
  | iinc j n =>
    simp only [zz_nums] at h
    split at h
    · rename_i v hv
      obtain ⟨L1, hL1, h1⟩ := Option.map_eq_some_iff.mp h
      simp only [Prod.mk.injEq] at h1
      obtain ⟨rfl, rfl, rfl⟩ := h1
      have hl : len = 3 := by simpa [zz_okN] using hok
      subst hl
      have hv2 : L[j]? = some (some (.int v)) := by
        unfold zz_ld at hv
        split at hv
        · rename_i u hu
          cases hv
          exact hu
        · cases hv
      obtain ⟨w, hm, hr⟩ := zz_lv_mem hL hv2
      have hr' : w = .int v := hr
      subst hr'
      obtain ⟨q, hq⟩ := List.getElem?_of_mem hm
      exact lv_iinc (k := q) hexec hb hd (zz_lv_has hL) hq rfl (by rw [← hL.1]; exact zz_st_lt hL1) rfl (fun ls' h' => kk ls' _ (zz_LR_st hL hL1 rfl h') hS)
    · cases h
  | iadd =>
    simp only [zz_nums] at h
    obtain ⟨z, hz, h1⟩ := Option.map_eq_some_iff.mp h
    simp only [Prod.mk.injEq] at h1
    obtain ⟨rfl, rfl, rfl⟩ := h1
    have hl : len = 1 := by simpa [zz_okN] using hok
    subst hl
    exact zz_bin_row hz hS (fun x y r2 k => lv_iadd hexec hb hd k) (fun t' h' => kk _ _ hL h')
  | isub =>
    simp only [zz_nums] at h
    obtain ⟨z, hz, h1⟩ := Option.map_eq_some_iff.mp h
    simp only [Prod.mk.injEq] at h1
    obtain ⟨rfl, rfl, rfl⟩ := h1
    have hl : len = 1 := by simpa [zz_okN] using hok
    subst hl
    exact zz_bin_row hz hS (fun x y r2 k => lv_isub hexec hb hd k) (fun t' h' => kk _ _ hL h')
  | imul =>
    simp only [zz_nums] at h
    obtain ⟨z, hz, h1⟩ := Option.map_eq_some_iff.mp h
    simp only [Prod.mk.injEq] at h1
    obtain ⟨rfl, rfl, rfl⟩ := h1
    have hl : len = 1 := by simpa [zz_okN] using hok
    subst hl
    exact zz_bin_row hz hS (fun x y r2 k => lv_imul hexec hb hd k) (fun t' h' => kk _ _ hL h')
  | iand =>
    simp only [zz_nums] at h
    obtain ⟨z, hz, h1⟩ := Option.map_eq_some_iff.mp h
    simp only [Prod.mk.injEq] at h1
    obtain ⟨rfl, rfl, rfl⟩ := h1
    have hl : len = 1 := by simpa [zz_okN] using hok
    subst hl
    exact zz_bin_row hz hS (fun x y r2 k => lv_iand hexec hb hd k) (fun t' h' => kk _ _ hL h')
  | ior =>
    simp only [zz_nums] at h
    obtain ⟨z, hz, h1⟩ := Option.map_eq_some_iff.mp h
    simp only [Prod.mk.injEq] at h1
    obtain ⟨rfl, rfl, rfl⟩ := h1
    have hl : len = 1 := by simpa [zz_okN] using hok
    subst hl
    exact zz_bin_row hz hS (fun x y r2 k => lv_ior hexec hb hd k) (fun t' h' => kk _ _ hL h')
  | ixor =>
    simp only [zz_nums] at h
    obtain ⟨z, hz, h1⟩ := Option.map_eq_some_iff.mp h
    simp only [Prod.mk.injEq] at h1
    obtain ⟨rfl, rfl, rfl⟩ := h1
    have hl : len = 1 := by simpa [zz_okN] using hok
    subst hl
    exact zz_bin_row hz hS (fun x y r2 k => lv_ixor hexec hb hd k) (fun t' h' => kk _ _ hL h')
  | ishl =>
    simp only [zz_nums] at h
    obtain ⟨z, hz, h1⟩ := Option.map_eq_some_iff.mp h
    simp only [Prod.mk.injEq] at h1
    obtain ⟨rfl, rfl, rfl⟩ := h1
    have hl : len = 1 := by simpa [zz_okN] using hok
    subst hl
    exact zz_bin_row hz hS (fun x y r2 k => lv_ishl hexec hb hd k) (fun t' h' => kk _ _ hL h')
  | ishr =>
    simp only [zz_nums] at h
    obtain ⟨z, hz, h1⟩ := Option.map_eq_some_iff.mp h
    simp only [Prod.mk.injEq] at h1
    obtain ⟨rfl, rfl, rfl⟩ := h1
    have hl : len = 1 := by simpa [zz_okN] using hok
    subst hl
    exact zz_bin_row hz hS (fun x y r2 k => lv_ishr hexec hb hd k) (fun t' h' => kk _ _ hL h')
  | land =>
    simp only [zz_nums] at h
    obtain ⟨z, hz, h1⟩ := Option.map_eq_some_iff.mp h
    simp only [Prod.mk.injEq] at h1
    obtain ⟨rfl, rfl, rfl⟩ := h1
    have hl : len = 1 := by simpa [zz_okN] using hok
    subst hl
    exact zz_binl_row hz hS (fun x y r2 k => lv_land hexec hb hd k) (fun t' h' => kk _ _ hL h')
  | lor =>
    simp only [zz_nums] at h
    obtain ⟨z, hz, h1⟩ := Option.map_eq_some_iff.mp h
    simp only [Prod.mk.injEq] at h1
    obtain ⟨rfl, rfl, rfl⟩ := h1
    have hl : len = 1 := by simpa [zz_okN] using hok
    subst hl
    exact zz_binl_row hz hS (fun x y r2 k => lv_lor hexec hb hd k) (fun t' h' => kk _ _ hL h')
  | lshl =>
    simp only [zz_nums] at h
    obtain ⟨z, hz, h1⟩ := Option.map_eq_some_iff.mp h
    simp only [Prod.mk.injEq] at h1
    obtain ⟨rfl, rfl, rfl⟩ := h1
    have hl : len = 1 := by simpa [zz_okN] using hok
    subst hl
    exact zz_shl_row hz hS (fun x y r2 k => lv_lshl hexec hb hd rfl k) (fun t' h' => kk _ _ hL h')
  | lshr =>
    simp only [zz_nums] at h
    obtain ⟨z, hz, h1⟩ := Option.map_eq_some_iff.mp h
    simp only [Prod.mk.injEq] at h1
    obtain ⟨rfl, rfl, rfl⟩ := h1
    have hl : len = 1 := by simpa [zz_okN] using hok
    subst hl
    exact zz_shl_row hz hS (fun x y r2 k => lv_lshr hexec hb hd rfl k) (fun t' h' => kk _ _ hL h')
  | lushr =>
    simp only [zz_nums] at h
    obtain ⟨z, hz, h1⟩ := Option.map_eq_some_iff.mp h
    simp only [Prod.mk.injEq] at h1
    obtain ⟨rfl, rfl, rfl⟩ := h1
    have hl : len = 1 := by simpa [zz_okN] using hok
    subst hl
    exact zz_shl_row hz hS (fun x y r2 k => lv_lushr hexec hb hd rfl k) (fun t' h' => kk _ _ hL h')
  | idiv =>
    simp only [zz_nums] at h
    split at h
    · rename_i y v r
      split at h
      · cases h
      · rename_i hy
        simp only [Option.some.injEq, Prod.mk.injEq] at h
        obtain ⟨rfl, rfl, rfl⟩ := h
        have hl : len = 1 := by simpa [zz_okN] using hok
        subst hl
        obtain ⟨t1, rfl, h1⟩ := zz_SR_int hS
        obtain ⟨t2, rfl, h2⟩ := zz_SR_int h1
        exact lv_idiv hexec hb hd hy (kk _ _ hL (zz_SR_i h2))
    · cases h
  | irem =>
    simp only [zz_nums] at h
    split at h
    · rename_i y v r
      split at h
      · cases h
      · rename_i hy
        simp only [Option.some.injEq, Prod.mk.injEq] at h
        obtain ⟨rfl, rfl, rfl⟩ := h
        have hl : len = 1 := by simpa [zz_okN] using hok
        subst hl
        obtain ⟨t1, rfl, h1⟩ := zz_SR_int hS
        obtain ⟨t2, rfl, h2⟩ := zz_SR_int h1
        exact lv_irem hexec hb hd hy (kk _ _ hL (zz_SR_i h2))
    · cases h
  | ineg =>
    simp only [zz_nums] at h
    split at h
    · rename_i v r
      simp only [Option.some.injEq, Prod.mk.injEq] at h
      obtain ⟨rfl, rfl, rfl⟩ := h
      have hl : len = 1 := by simpa [zz_okN] using hok
      subst hl
      obtain ⟨t1, rfl, h1⟩ := zz_SR_int hS
      exact lv_ineg hexec hb hd (kk _ _ hL (zz_SR_i h1))
    · cases h
  | i2l =>
    simp only [zz_nums] at h
    split at h
    · rename_i v r
      simp only [Option.some.injEq, Prod.mk.injEq] at h
      obtain ⟨rfl, rfl, rfl⟩ := h
      have hl : len = 1 := by simpa [zz_okN] using hok
      subst hl
      obtain ⟨t1, rfl, h1⟩ := zz_SR_int hS
      exact lv_i2l hexec hb hd rfl (kk _ _ hL (zz_SR_l h1))
    · cases h
  | l2i =>
    simp only [zz_nums] at h
    split at h
    · rename_i v r
      simp only [Option.some.injEq, Prod.mk.injEq] at h
      obtain ⟨rfl, rfl, rfl⟩ := h
      have hl : len = 1 := by simpa [zz_okN] using hok
      subst hl
      obtain ⟨t1, rfl, h1⟩ := zz_SR_long hS
      exact lv_l2i hexec hb hd rfl (kk _ _ hL (zz_SR_i h1))
    · cases h
  | lcmp =>
    simp only [zz_nums] at h
    split at h
    · rename_i y v r
      simp only [Option.some.injEq, Prod.mk.injEq] at h
      obtain ⟨rfl, rfl, rfl⟩ := h
      have hl : len = 1 := by simpa [zz_okN] using hok
      subst hl
      obtain ⟨t1, rfl, h1⟩ := zz_SR_long hS
      obtain ⟨t2, rfl, h2⟩ := zz_SR_long h1
      exact W.lcmp hexec hb hd (kk _ _ hL (zz_SR_i h2))
    · cases h
  | dup =>
    simp only [zz_nums] at h
    split at h
    · rename_i v r
      split at h
      · rename_i hc
        simp only [Option.some.injEq, Prod.mk.injEq] at h
        obtain ⟨rfl, rfl, rfl⟩ := h
        have hl : len = 1 := by simpa [zz_okN] using hok
        subst hl
        obtain ⟨w, r2, rfl, hv, hr⟩ := hS
        exact lv_dup hexec hb hd (by rw [zz_VR_cat hv]; exact hc) (kk _ _ hL ⟨_, _, rfl, hv, _, _, rfl, hv, hr⟩)
      · cases h
    · cases h
  | pop =>
    simp only [zz_nums] at h
    split at h
    · rename_i v r
      split at h
      · rename_i hc
        simp only [Option.some.injEq, Prod.mk.injEq] at h
        obtain ⟨rfl, rfl, rfl⟩ := h
        have hl : len = 1 := by simpa [zz_okN] using hok
        subst hl
        obtain ⟨w, r2, rfl, hv, hr⟩ := hS
        exact lv_pop hexec hb hd (by rw [zz_VR_cat hv]; exact hc) (kk _ _ hL hr)
      · cases h
    · cases h
  | dup_x1 =>
    simp only [zz_nums] at h
    split at h
    · rename_i v u r
      split at h
      · rename_i hc
        simp only [Option.some.injEq, Prod.mk.injEq] at h
        obtain ⟨rfl, rfl, rfl⟩ := h
        have hl : len = 1 := by simpa [zz_okN] using hok
        subst hl
        obtain ⟨w, r1, rfl, hv, w2, r2, rfl, hv2, hr⟩ := hS
        exact lv_dup_x1 hexec hb hd (by rw [zz_VR_cat hv]; exact hc.1) (by rw [zz_VR_cat hv2]; exact hc.2) (kk _ _ hL ⟨_, _, rfl, hv, _, _, rfl, hv2, _, _, rfl, hv, hr⟩)
      · cases h
    · cases h
  | dup_x2 =>
    simp only [zz_nums] at h
    split at h
    · rename_i v u q r
      split at h
      · rename_i hc
        simp only [Option.some.injEq, Prod.mk.injEq] at h
        obtain ⟨rfl, rfl, rfl⟩ := h
        have hl : len = 1 := by simpa [zz_okN] using hok
        subst hl
        obtain ⟨w, r1, rfl, hv, w2, r2, rfl, hv2, w3, r3, rfl, hv3, hr⟩ := hS
        exact lv_dup_x2 hexec hb hd (by rw [zz_VR_cat hv]; exact hc.1) (by rw [zz_VR_cat hv2]; exact hc.2.1) (by rw [zz_VR_cat hv3]; exact hc.2.2) (kk _ _ hL ⟨_, _, rfl, hv, _, _, rfl, hv2, _, _, rfl, hv3, _, _, rfl, hv, hr⟩)
      · cases h
    · cases h
  | dup2 =>
    simp only [zz_nums] at h
    split at h
    · rename_i v u r
      split at h
      · rename_i hc
        simp only [Option.some.injEq, Prod.mk.injEq] at h
        obtain ⟨rfl, rfl, rfl⟩ := h
        have hl : len = 1 := by simpa [zz_okN] using hok
        subst hl
        obtain ⟨w, r1, rfl, hv, w2, r2, rfl, hv2, hr⟩ := hS
        exact lv_dup2_11 hexec hb hd (by rw [zz_VR_cat hv]; exact hc.1) (by rw [zz_VR_cat hv2]; exact hc.2) (kk _ _ hL ⟨_, _, rfl, hv, _, _, rfl, hv2, _, _, rfl, hv, _, _, rfl, hv2, hr⟩)
      · cases h
    · cases h
  | goto o =>
    simp only [zz_nums] at h
    split at h
    · rename_i tg
      simp only [Option.some.injEq, Prod.mk.injEq] at h
      obtain ⟨rfl, rfl, rfl⟩ := h
      simp only [zz_okN, Bool.and_eq_true, beq_iff_eq, decide_eq_true_eq] at hok
      obtain ⟨rfl, ht⟩ := hok
      exact lv_goto hexec hb hd ht (kk _ _ hL hS)
    · cases h
  | ifCond q o =>
    simp only [zz_nums] at h
    split at h
    · rename_i tg v r
      simp only [Option.some.injEq, Prod.mk.injEq] at h
      obtain ⟨rfl, rfl, rfl⟩ := h
      simp only [zz_okN, Bool.and_eq_true, beq_iff_eq, decide_eq_true_eq] at hok
      obtain ⟨rfl, ht⟩ := hok
      obtain ⟨t1, rfl, h1⟩ := zz_SR_int hS
      cases q with
      | eq =>
        refine lv_if_eq hexec hb hd ht (fun hP => ?_) (fun hP => ?_)
        · have hk := kk ls _ hL h1
          simp only [zz_br, if_pos hP] at hk
          exact hk
        · have hk := kk ls _ hL h1
          simp only [zz_br, if_neg hP] at hk
          exact hk
      | ne =>
        refine lv_if_ne hexec hb hd ht (fun hP => ?_) (fun hP => ?_)
        · have hk := kk ls _ hL h1
          simp only [zz_br, if_pos hP] at hk
          exact hk
        · have hk := kk ls _ hL h1
          simp only [zz_br, if_neg (not_not_intro hP)] at hk
          exact hk
      | lt =>
        refine lv_if_lt hexec hb hd ht (fun hP => ?_) (fun hP => ?_)
        · have hk := kk ls _ hL h1
          simp only [zz_br, if_pos hP] at hk
          exact hk
        · have hk := kk ls _ hL h1
          simp only [zz_br, if_neg hP] at hk
          exact hk
      | ge =>
        refine lv_if_ge hexec hb hd ht (fun hP => ?_) (fun hP => ?_)
        · have hk := kk ls _ hL h1
          simp only [zz_br, if_pos hP] at hk
          exact hk
        · have hk := kk ls _ hL h1
          simp only [zz_br, if_neg hP] at hk
          exact hk
      | gt =>
        refine lv_if_gt hexec hb hd ht (fun hP => ?_) (fun hP => ?_)
        · have hk := kk ls _ hL h1
          simp only [zz_br, if_pos hP] at hk
          exact hk
        · have hk := kk ls _ hL h1
          simp only [zz_br, if_neg hP] at hk
          exact hk
      | le =>
        refine lv_if_le hexec hb hd ht (fun hP => ?_) (fun hP => ?_)
        · have hk := kk ls _ hL h1
          simp only [zz_br, if_pos hP] at hk
          exact hk
        · have hk := kk ls _ hL h1
          simp only [zz_br, if_neg hP] at hk
          exact hk
    · cases h
  | if_icmp q o =>
    simp only [zz_nums] at h
    split at h
    · rename_i tg w v r
      simp only [Option.some.injEq, Prod.mk.injEq] at h
      obtain ⟨rfl, rfl, rfl⟩ := h
      simp only [zz_okN, Bool.and_eq_true, beq_iff_eq, decide_eq_true_eq] at hok
      obtain ⟨rfl, ht⟩ := hok
      obtain ⟨t0, rfl, h0⟩ := zz_SR_int hS
      obtain ⟨t1, rfl, h1⟩ := zz_SR_int h0
      cases q with
      | eq =>
        refine lv_icmp_eq hexec hb hd ht (fun hP => ?_) (fun hP => ?_)
        · have hk := kk ls _ hL h1
          simp only [zz_br, if_pos hP] at hk
          exact hk
        · have hk := kk ls _ hL h1
          simp only [zz_br, if_neg hP] at hk
          exact hk
      | ne =>
        refine lv_icmp_ne hexec hb hd ht (fun hP => ?_) (fun hP => ?_)
        · have hk := kk ls _ hL h1
          simp only [zz_br, if_pos hP] at hk
          exact hk
        · have hk := kk ls _ hL h1
          simp only [zz_br, if_neg (not_not_intro hP)] at hk
          exact hk
      | lt =>
        refine lv_icmp_lt hexec hb hd ht (fun hP => ?_) (fun hP => ?_)
        · have hk := kk ls _ hL h1
          simp only [zz_br, if_pos hP] at hk
          exact hk
        · have hk := kk ls _ hL h1
          simp only [zz_br, if_neg hP] at hk
          exact hk
      | ge =>
        refine lv_icmp_ge hexec hb hd ht (fun hP => ?_) (fun hP => ?_)
        · have hk := kk ls _ hL h1
          simp only [zz_br, if_pos hP] at hk
          exact hk
        · have hk := kk ls _ hL h1
          simp only [zz_br, if_neg hP] at hk
          exact hk
      | gt =>
        refine lv_icmp_gt hexec hb hd ht (fun hP => ?_) (fun hP => ?_)
        · have hk := kk ls _ hL h1
          simp only [zz_br, if_pos hP] at hk
          exact hk
        · have hk := kk ls _ hL h1
          simp only [zz_br, if_neg hP] at hk
          exact hk
      | le =>
        refine lv_icmp_le hexec hb hd ht (fun hP => ?_) (fun hP => ?_)
        · have hk := kk ls _ hL h1
          simp only [zz_br, if_pos hP] at hk
          exact hk
        · have hk := kk ls _ hL h1
          simp only [zz_br, if_neg hP] at hk
          exact hk
    · cases h
  | tableswitch d lo hi os =>
    simp only [zz_nums] at h
    split at h
    · rename_i tg v r
      simp only [Option.some.injEq, Prod.mk.injEq] at h
      obtain ⟨rfl, rfl, rfl⟩ := h
      simp only [zz_okN, Bool.and_eq_true, decide_eq_true_eq] at hok
      obtain ⟨⟨⟨⟨⟨k1, k2⟩, k3⟩, k4⟩, k5⟩, rfl⟩ := hok
      obtain ⟨t1, rfl, h1⟩ := zz_SR_int hS
      have hk := kk ls _ hL h1
      have k4' : zz_small (lo + (os.toList.length : Int)) = true := by rw [Array.length_toList]; exact k4
      by_cases hin : lo ≤ v.toInt ∧ v.toInt < lo + (os.size : Int)
      · obtain ⟨o, q1, q2⟩ := zz_tbl_in (pc := pc) (d := tg) (v := v) os.toList lo k3 k4' hin.1 (by rw [Array.length_toList]; exact hin.2)
        rw [q2] at hk
        have hpos : 0 ≤ (pc : Int) + o := by
          have := List.all_eq_true.mp k5 o (List.mem_of_getElem? q1)
          simpa using this
        exact lv_tableIn hexec hb hd (by omega) (by omega) (by rw [← Array.getElem?_toList]; exact q1) (by omega) hk
      · rw [zz_tbl_out (pc := pc) (d := tg) (v := v) os.toList lo k3 k4' (by rw [Array.length_toList]; omega)] at hk
        exact lv_tableOut hexec hb hd (by omega) k1 hk
    · cases h
  | lookupswitch d ps =>
    simp only [zz_nums] at h
    split at h
    · rename_i tg v r
      simp only [Option.some.injEq, Prod.mk.injEq] at h
      obtain ⟨rfl, rfl, rfl⟩ := h
      simp only [zz_okN, Bool.and_eq_true, decide_eq_true_eq] at hok
      obtain ⟨⟨⟨k1, k2⟩, k3⟩, rfl⟩ := hok
      obtain ⟨t1, rfl, h1⟩ := zz_SR_int hS
      exact lv_lookup hexec hb hd k3 rfl (zz_lkp_ok k1 ps.toList k2) (kk ls _ hL h1)
    · cases h
  | _ => simp [zz_nums] at h
end ZN
