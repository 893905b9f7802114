def zz_t1 : List Int32 := [1, 1, 0, 0, 0, 1, 1, 1, 1, 0, 0, 0, 0, 2, 3, 0, 0, 1, 1, 1]
def zz_t2 : List Int32 := [0, 3, 4, 7, 8, 12, 1, 4, 5, 8, 9, 13, 2, 5, 6, 9, 10, 14, 7, 11, 12, 16, 17, 22, 8, 12, 13, 17, 18, 23, 9, 13, 14, 18, 19, 24, 10, 14, 15, 19, 20, 25, 16, 21, 22, 27, 28, 33, 17, 22, 23, 28, 29, 34, 18, 23, 24, 29, 30, 35, 19, 24, 25, 30, 31, 36, 20, 25, 26, 31, 32, 37, 28, 33, 34, 38, 39, 43, 29, 34, 35, 39, 40, 44, 30, 35, 36, 40, 41, 45, 31, 36, 37, 41, 42, 46, 39, 43, 44, 47, 48, 51, 40, 44, 45, 48, 49, 52, 41, 45, 46, 49, 50, 53]
def zz_t3 : List Int32 := [0, 3, 0, 4, 1, 4, 1, 5, 2, 5, 2, 6, 3, 7, 4, 8, 5, 9, 6, 10, 7, 11, 7, 12, 8, 12, 8, 13, 9, 13, 9, 14, 10, 14, 10, 15, 11, 16, 12, 17, 13, 18, 14, 19, 15, 20, 16, 21, 16, 22, 17, 22, 17, 23, 18, 23, 18, 24, 19, 24, 19, 25, 20, 25, 20, 26, 21, 27, 22, 28, 23, 29, 24, 30, 25, 31, 26, 32, 27, 33, 28, 33, 28, 34, 29, 34, 29, 35, 30, 35, 30, 36, 31, 36, 31, 37, 32, 37, 33, 38, 34, 39, 35, 40, 36, 41, 37, 42, 38, 43, 39, 43, 39, 44, 40, 44, 40, 45, 41, 45, 41, 46, 42, 46, 43, 47, 44, 48, 45, 49, 46, 50, 47, 51, 48, 51, 48, 52, 49, 52, 49, 53, 50, 53]
def zz_t4 : List Int32 := [0, 1, -1, 2, 3, -1, 4, 5, -1, 0, 6, -1, 1, 2, 7, 3, 4, 8, 5, 9, -1, 6, 10, 11, 7, 12, 13, 8, 14, 15, 9, 16, 17, 10, 18, -1, 11, 12, 19, 13, 14, 20, 15, 16, 21, 17, 22, -1, 18, 23, 24, 19, 25, 26, 20, 27, 28, 21, 29, 30, 22, 31, 32, 23, 33, -1, 24, 25, 34, 26, 27, 35, 28, 29, 36, 30, 31, 37, 32, 38, -1, 33, 39, -1, 34, 40, 41, 35, 42, 43, 36, 44, 45, 37, 46, 47, 38, 48, -1, 39, 40, 49, 41, 42, 50, 43, 44, 51, 45, 46, 52, 47, 48, 53, 49, 54, -1, 50, 55, 56, 51, 57, 58, 52, 59, 60, 53, 61, -1, 54, 55, 62, 56, 57, 63, 58, 59, 64, 60, 61, 65, 62, 66, -1, 63, 67, 68, 64, 69, 70, 65, 71, -1, 66, 67, -1, 68, 69, -1, 70, 71, -1]
def zz_fl : List Cond := flatC (Cond.and given_1 narrow_1)
def zz_eqw (nm : String) (j : Nat) (v : Int32) : Cond := .eq (.elem (.static "HexIsland" nm "[I") (.int (Int32.ofNat j))) (.int v)
def zz_walk (nm : String) : Nat → List Int32 → List Cond → Bool
  | _, [], _ => true
  | j, v :: vs, w :: ws => decide (w = zz_eqw nm j v) && zz_walk nm (j + 1) vs ws
  | _, _ :: _, [] => false
theorem zz_walk_in {nm : String} : ∀ {vs : List Int32} {ws : List Cond} {j : Nat}, zz_walk nm j vs ws = true → ∀ k, k < vs.length → zz_eqw nm (j + k) (vs.getD k 0) ∈ ws
  | [], _, _, _, k, hk => absurd hk (Nat.not_lt_zero k)
  | _ :: _, [], _, h, _, _ => by cases h
  | v :: vs, w :: ws, j, h, k, hk => by
    simp only [zz_walk, Bool.and_eq_true, decide_eq_true_eq] at h
    cases k with
    | zero => rw [h.1]; exact List.mem_cons_self
    | succ k =>
      have := zz_walk_in h.2 k (by simpa using hk)
      rw [show j + (k + 1) = j + 1 + k by omega]
      exact List.mem_cons_of_mem _ this
theorem zz_wk1 : zz_walk "PRICES" 0 zz_t1 (zz_fl.drop 7) = true := by decide +kernel
theorem zz_wk2 : zz_walk "HEX_CORNERS" 0 zz_t2 (zz_fl.drop 344) = true := by decide +kernel
theorem zz_wk3 : zz_walk "EDGE_CORNERS" 0 zz_t3 (zz_fl.drop 30) = true := by decide +kernel
theorem zz_wk4 : zz_walk "CORNER_EDGES" 0 zz_t4 (zz_fl.drop 177) = true := by decide +kernel
theorem zz_eq_int {args : Array Value} {s : State} {t : Term} {z : Int32} (h : (Cond.eq t (.int z)).before args s = true) : t.eval args s none [] s = some (.int z) := by
  cases hv : t.eval args s none [] s with
  | none => simp [Cond.before, Cond.holds, Cond.value, hv] at h
  | some w =>
    have hz : (Term.int z).eval args s none [] s = some (.int z) := rfl
    simp only [Cond.before, Cond.holds, Cond.value, hv, hz] at h
    cases w <;> simp_all
theorem zz_len_lt {args : Array Value} {s : State} {t : Term} {a : Addr} {cell : Cell} {v : Value} (h : (Term.length t).eval args s none [] s = some v) (ha : t.eval args s none [] s = some (.ref a)) (hat : s.arrayAt? a = some cell) : cell.slots.size < 2147483648 := by
  simp only [Term.eval, Option.bind_eq_bind, ha, hat] at h
  by_cases hn : cell.slots.size < 2147483648
  · exact hn
  · simp [hat, hn] at h
theorem zz_stat {args : Array Value} {s : State} {nm : String} {vs : List Int32} {n : Nat} (hl : (Cond.laysStatic "HexIsland" nm "[I").before args s = true) (hini : (Cond.initialized "HexIsland").before args s = true) (har : (Cond.arrayOf (.static "HexIsland" nm "[I") .int).before args s = true)
    (hln : (Cond.eq (.length (.static "HexIsland" nm "[I")) (.int (Int32.ofNat n))).before args s = true) (hn : n < 4096) (hvs : vs.length = n) (hel : ∀ j, j < n → (zz_eqw nm j (vs.getD j 0)).before args s = true) :
    ∃ a, a < s.heap.size ∧ va_X a n (fun j => vs.getD j 0) s s.heap ∧ va_Z "HexIsland" nm "[I" (.ref a) (fun q => s.heap.size ≤ q) s s.heap := by
  have h1 := zz_eq_int hln
  obtain ⟨a, cell, ha, hat, hv⟩ := Term.length_spec h1
  obtain ⟨hcb, hkn, -, -⟩ := State.arrayAt?_spec hat
  obtain ⟨hA, hU⟩ := Cond.arrayOf_spec (a := a) (cell := cell) har ha hcb
  have hlt : a < s.heap.size := (Array.getElem?_eq_some_iff.mp hcb).1
  have hsz : cell.slots.size < 2147483648 := zz_len_lt h1 ha hat
  have hsn : cell.slots.size = n := by
    have e1 : Int32.ofNat n = cell.slots.size.toInt32 := Value.int.inj hv
    have e2 : (Int32.ofNat n).toNatClampNeg = n := Int32.toNatClampNeg_ofNat_of_lt (by omega)
    have e3 : (Int32.ofNat cell.slots.size).toNatClampNeg = cell.slots.size := Int32.toNatClampNeg_ofNat_of_lt (by omega)
    rw [← e2, e1]
    exact e3.symm
  refine ⟨a, hlt, ⟨cell, hcb, hA, hU, hsn, fun j hj => ?_⟩, va_Zof hl hini ha (fun q hq z => absurd hq (Nat.not_lt.mpr z))⟩
  have h2 := zz_eq_int (hel j hj)
  obtain ⟨a', j', cell', ha', hj', hat', -, hget⟩ := Term.elem_spec h2
  rw [ha] at ha'
  cases ha'
  rw [hat] at hat'
  cases hat'
  have hjj : (Term.int (Int32.ofNat j)).eval args s none [] s = some (.int (Int32.ofNat j)) := rfl
  rw [hjj] at hj'
  cases hj'
  have e2 : (Int32.ofNat j).toNatClampNeg = j := Int32.toNatClampNeg_ofNat_of_lt (by omega)
  rw [e2] at hget
  exact hget
theorem zz_known {s : State} {args : Array Value} (hts : ∀ w ∈ zz_ws, w.before args s = true) (hin : ∀ (c : Nat) (q : vw_C), zz_cl[c]? = some q → ∃ n, (Cond.instantiable q.1 n).before args s = true) (hi : (Cond.arrayClass .int).before args s = true) (hj : (Cond.arrayClass .long).before args s = true) :
    ∃ (D : va_G) (cI cJ : ClassId), va_K D zz_cl [(cI, .int), (cJ, .long)] s := by
  have h : ∀ c : Nat, ∃ x : ClassId × (Nat → Nat), ∀ q, zz_cl[c]? = some q → u_Kn s q.1 q.2.1 q.2.2 x.1 x.2 := by
    intro c
    cases hc : zz_cl[c]? with
    | none => exact ⟨(0, fun _ => 0), fun q h => by cases h⟩
    | some q =>
      obtain ⟨n, hn⟩ := hin c q hc
      obtain ⟨cC, iS, hk⟩ := u_known hts (zz_cls (C := q.1) (T := q.2.1) (N := q.2.2) hc).1 hn
      exact ⟨(cC, iS), fun q' h => by cases h; exact hk⟩
  obtain ⟨cA, kA, comp, f1, f2, f3⟩ := Cond.arrayClass_spec hi
  obtain ⟨cB, kB, comp2, g1, g2, g3⟩ := Cond.arrayClass_spec hj
  refine ⟨(fun c => (Classical.choose (h c)).1, fun c => (Classical.choose (h c)).2), cA, cB, fun c q hq => Classical.choose_spec (h c) q hq, fun k q hk => ?_⟩
  match k, hk with
  | 0, hk =>
    cases hk
    exact ⟨fun N z => ⟨(fun k h => by cases h), kA, f2, comp, f3⟩, f1⟩
  | 1, hk =>
    cases hk
    exact ⟨fun N z => ⟨(fun k h => by cases h), kB, g2, comp2, g3⟩, g1⟩
  | k + 2, hk => simp at hk
def zz_I0 (xs : Nat → Int32) : Nat → Nat → Int32 := fun i j => match i with
  | 0 => xs j
  | 1 => zz_t1.getD j 0
  | 2 => zz_t2.getD j 0
  | 3 => zz_t3.getD j 0
  | 4 => zz_t4.getD j 0
  | _ => 0
def zz_h0 (L : Nat) (xs : Nat → Int32) : zz_H := ([(2, L), (2, 20), (2, 114), (2, 144), (2, 162)], zz_I0 xs, fun _ _ => 0, fun _ _ => .null)
def zz_iw : List Cond := [.instantiable "HexIsland$State" 18, .instantiable "HexIsland" 10, .instantiable "HexIslandModel" 25, .instantiable "java/lang/IllegalStateException" 6, .instantiable "java/lang/IllegalArgumentException" 6, .instantiable "java/lang/UnsupportedOperationException" 6, .instantiable "java/lang/IndexOutOfBoundsException" 6,
  .arrayClass .int, .arrayClass .long, .initialized "HexIsland", .initialized "java/lang/Throwable", .laysStatic "HexIsland" "PRICES" "[I", .laysStatic "HexIsland" "HEX_CORNERS" "[I", .laysStatic "HexIsland" "EDGE_CORNERS" "[I", .laysStatic "HexIsland" "CORNER_EDGES" "[I"]
theorem zz_iw_in : zz_iw.all (fun w => decide (w ∈ lw_tbl)) = true := by decide +kernel
def zz_xw9 : List Cond := [.castable "java/lang/IllegalStateException" "java/lang/IllegalStateException", .castable "java/lang/IllegalArgumentException" "java/lang/IllegalArgumentException", .castable "java/lang/UnsupportedOperationException" "java/lang/UnsupportedOperationException", .castable "java/lang/IndexOutOfBoundsException" "java/lang/IndexOutOfBoundsException",
  .laysStatic Bundle.tN "UNASSIGNED_STACK" Bundle.steD, .laysStatic Bundle.tN "SUPPRESSED_SENTINEL" Bundle.listD, .declares ⟨"java/lang/RuntimeException", "<init>", "()V"⟩, .declares ⟨"java/lang/Exception", "<init>", "()V"⟩, .declares ⟨"java/lang/Throwable", "<init>", "()V"⟩]
theorem zz_xw9_in : zz_xw9.all (fun w => decide (w ∈ lw_tbl)) = true := by decide +kernel
def zz_fw : List Cond := [.isRef (.static Bundle.tN "UNASSIGNED_STACK" Bundle.steD), .isRef (.static Bundle.tN "SUPPRESSED_SENTINEL" Bundle.listD),
  .arrayOf (.static "HexIsland" "PRICES" "[I") .int, .arrayOf (.static "HexIsland" "HEX_CORNERS" "[I") .int, .arrayOf (.static "HexIsland" "EDGE_CORNERS" "[I") .int, .arrayOf (.static "HexIsland" "CORNER_EDGES" "[I") .int,
  .eq (.length (.static "HexIsland" "PRICES" "[I")) (.int (Int32.ofNat 20)), .eq (.length (.static "HexIsland" "HEX_CORNERS" "[I")) (.int (Int32.ofNat 114)), .eq (.length (.static "HexIsland" "EDGE_CORNERS" "[I")) (.int (Int32.ofNat 144)), .eq (.length (.static "HexIsland" "CORNER_EDGES" "[I")) (.int (Int32.ofNat 162))]
theorem zz_fw_in : zz_fw.all (fun w => decide (w ∈ zz_fl)) = true := by decide +kernel
theorem zz_nc_in : zz_ex4.all (fun E => zz_ex4.all fun nm => decide (E = nm) || decide (Cond.not (.castable E nm) ∈ zz_fl)) = true := by decide +kernel
theorem zz_env_of {b : Nat} {s : State} (hts : ∀ w ∈ lw_tbl, w.before #[Value.ref b] s = true) (hgv : (Cond.and given_1 narrow_1).before #[Value.ref b] s = true) : zz_env s := by
  have hf : ∀ w ∈ zz_fl, w.before #[Value.ref b] s = true := flat_of_before _ hgv
  have h9 : ∀ (k : Nat) (w : Cond), zz_xw9[k]? = some w → w.before #[Value.ref b] s = true := fun k w hk => hts w (by simpa using List.all_eq_true.mp zz_xw9_in w (List.mem_of_getElem? hk))
  have hw : ∀ (k : Nat) (w : Cond), zz_fw[k]? = some w → w.before #[Value.ref b] s = true := fun k w hk => hf w (by simpa using List.all_eq_true.mp zz_fw_in w (List.mem_of_getElem? hk))
  have h4 : ∀ (k : Nat) (w : Cond), zz_iw[k]? = some w → w.before #[Value.ref b] s = true := fun k w hk => hts w (by simpa using List.all_eq_true.mp zz_iw_in w (List.mem_of_getElem? hk))
  refine ⟨fun w hw1 => ?_, fun E hE nm hnm hne => ?_, va_tabs rfl rfl (h4 10 _ rfl)⟩
  · simp only [zz_xw, List.mem_cons, List.not_mem_nil, or_false] at hw1
    rcases hw1 with rfl | rfl | rfl | rfl | rfl | rfl | rfl | rfl | rfl | rfl | rfl
    · exact va_tabs rfl rfl (h9 0 _ rfl)
    · exact va_tabs rfl rfl (h9 1 _ rfl)
    · exact va_tabs rfl rfl (h9 2 _ rfl)
    · exact va_tabs rfl rfl (h9 3 _ rfl)
    · exact hw 0 _ rfl
    · exact hw 1 _ rfl
    · exact h9 4 _ rfl
    · exact h9 5 _ rfl
    · exact va_tabs rfl rfl (h9 6 _ rfl)
    · exact va_tabs rfl rfl (h9 7 _ rfl)
    · exact va_tabs rfl rfl (h9 8 _ rfl)
  · have h1 := List.all_eq_true.mp (List.all_eq_true.mp zz_nc_in E hE) nm hnm
    simp only [Bool.or_eq_true, decide_eq_true_eq] at h1
    exact va_Nc.of (hf _ (h1.resolve_left hne))
theorem zz_lwZ {below : List Frame} {a : Array Value} {s t : State} {D : va_G} {cI cJ : ClassId} {A : List Nat} {r : zz_R} {mc ms : Nat} {ck : Bool} (hr : r.1 = .inl (some (.int 1))) (hc : mc ≤ 601024) (hs : ms ≤ 7293034) (h : zz_MQ below (zz_Q s D cI cJ A r) a s mc ms s.heap.size ck t) : lw_Z below a s t := by
  obtain ⟨o, h1, h2, ⟨-, B, -, ho⟩, L, ⟨hW, hsame⟩, hL, -⟩ := h
  rw [hr] at ho
  obtain ⟨w, hw, rfl⟩ := ho
  have hw' : w = .int 1 := hw
  subst hw'
  obtain ⟨e1, e2, e3, e4, e5, e6⟩ := hsame
  refine ⟨_, h1, h2, rfl, ⟨_, rfl⟩, hW, e1, e2, Nat.le_trans e3 (by omega), e4, Nat.le_trans e5 hs, fun q c hq => ?_⟩
  obtain ⟨c', g1, g2, g3, g4⟩ := e6 q c hq
  refine ⟨c', g1, g2, g3, fun i _ => g4 i (fun hm => ?_)⟩
  have hlt : q < s.heap.size := (Array.getElem?_eq_some_iff.mp hq).1
  exact absurd hlt (Nat.not_lt.mpr (hL _ hm))
def zz_goal : Prop := ∀ (L : Nat) (xs : Nat → Int32), L ≤ 2048 → ∃ (d : Nat) (r : zz_R), d ≤ 1000 ∧ zz_Run zz_prog d 179 (0, [some (.ref 0), none, none, none, none, none, none], [], true, zz_h0 L xs) = some r ∧ r.1 = .inl (some (.int 1)) ∧ r.2.2.1.length ≤ 601000 ∧ zz_size r.2.2 ≤ 7293000
theorem zz_start (hg : zz_goal) {p : Program} {e : Env} {s : State} {m : MethodId} {below : List Frame} {meth : Method} {c : Code} (l : Launch) (htr : l.stackTraces = false) (hname : meth.name = "law") (htab : c.exceptionTable.toList = []) {b L : Nat} {xs : Nat → Int32} (hL : L ≤ 2048) (C0 : lw_At p s m meth c b L xs) : W p l e room_1 s m #[Value.ref b] below meth c s.heap [] 0 0 (lw_Z below #[Value.ref b] s) (entryFrame m ([Value.ref b] : List Value).toArray 7) := by
  obtain ⟨hexec, hb, hr, hml, hown, hts, hX, hbl, hlocks, hgv⟩ := C0
  obtain ⟨d, r, hd, hrun, hr1, hrc, hrs⟩ := hg L xs hL
  have hf : ∀ w ∈ zz_fl, w.before #[Value.ref b] s = true := flat_of_before _ hgv
  have hw : ∀ (k : Nat) (w : Cond), zz_fw[k]? = some w → w.before #[Value.ref b] s = true := fun k w hk => hf w (by simpa using List.all_eq_true.mp zz_fw_in w (List.mem_of_getElem? hk))
  have h4 : ∀ (k : Nat) (w : Cond), zz_iw[k]? = some w → w.before #[Value.ref b] s = true := fun k w hk => hts w (by simpa using List.all_eq_true.mp zz_iw_in w (List.mem_of_getElem? hk))
  have htz : ∀ w ∈ zz_ws, w.before #[Value.ref b] s = true := fun w hw => hts w (List.mem_filter.mp hw).1
  have hel : ∀ (nm : String) (vs : List Int32) (q : Nat), zz_walk nm 0 vs (zz_fl.drop q) = true → ∀ j, j < vs.length → (zz_eqw nm j (vs.getD j 0)).before #[Value.ref b] s = true := by
    intro nm vs q hq j hj
    have h1 := zz_walk_in hq j hj
    rw [Nat.zero_add] at h1
    exact hf _ (List.mem_of_mem_drop h1)
  obtain ⟨a1, p1, p2, p3⟩ := zz_stat (vs := zz_t1) (n := 20) (h4 11 _ rfl) (h4 9 _ rfl) (hw 2 _ rfl) (hw 6 _ rfl) (by omega) rfl (hel "PRICES" zz_t1 7 zz_wk1)
  obtain ⟨a2, q1, q2, q3⟩ := zz_stat (vs := zz_t2) (n := 114) (h4 12 _ rfl) (h4 9 _ rfl) (hw 3 _ rfl) (hw 7 _ rfl) (by omega) rfl (hel "HEX_CORNERS" zz_t2 344 zz_wk2)
  obtain ⟨a3, r1, r2, r3⟩ := zz_stat (vs := zz_t3) (n := 144) (h4 13 _ rfl) (h4 9 _ rfl) (hw 4 _ rfl) (hw 8 _ rfl) (by omega) rfl (hel "EDGE_CORNERS" zz_t3 30 zz_wk3)
  obtain ⟨a4, s1, s2, s3⟩ := zz_stat (vs := zz_t4) (n := 162) (h4 14 _ rfl) (h4 9 _ rfl) (hw 5 _ rfl) (hw 9 _ rfl) (by omega) rfl (hel "CORNER_EDGES" zz_t4 177 zz_wk4)
  obtain ⟨D, cI, cJ, hK⟩ := zz_known htz (fun cc q hq => by
    have hlt : cc < 7 := (List.getElem?_eq_some_iff.mp hq).1
    match cc, hlt, hq with
    | 0, _, hq => cases hq; exact ⟨18, h4 0 _ rfl⟩
    | 1, _, hq => cases hq; exact ⟨10, h4 1 _ rfl⟩
    | 2, _, hq => cases hq; exact ⟨25, h4 2 _ rfl⟩
    | 3, _, hq => cases hq; exact ⟨6, h4 3 _ rfl⟩
    | 4, _, hq => cases hq; exact ⟨6, h4 4 _ rfl⟩
    | 5, _, hq => cases hq; exact ⟨6, h4 5 _ rfl⟩
    | 6, _, hq => cases hq; exact ⟨6, h4 6 _ rfl⟩) (h4 7 _ rfl) (h4 8 _ rfl)
  obtain ⟨n, hn⟩ := zz_Run_iff.mp hrun
  have hctx : zz_Ctx s p s m #[Value.ref b] meth c 179 := ⟨hexec, hb, hml, hr, hlocks, hname, hown, htz, Vm.Alike.refl _, by rw [htab]; rfl, fun q _ => rfl⟩
  have hR : zz_HR s D zz_cl zz_fk cI cJ [b, a1, a2, a3, a4] (zz_h0 L xs) s.heap [] := by
    refine ⟨rfl, (by show 5 ≤ 5; omega), (fun i f j hj => by cases hj), (fun k q hq => by cases hq), ⟨(fun i j x y hx => by cases hx), (fun k q hq => by cases hq)⟩, ⟨Nat.le_refl _, (fun q _ _ => rfl), (fun q hq => by cases hq)⟩, (fun i hi => ?_), (fun i q h5 hq => ?_)⟩
    · match i, hi with
      | 0, _ => exact ⟨L, b, rfl, rfl, hbl, hX, fun nm h => by cases h⟩
      | 1, _ => exact ⟨20, a1, rfl, rfl, p1, p2, fun nm h => by cases h; exact p3⟩
      | 2, _ => exact ⟨114, a2, rfl, rfl, q1, q2, fun nm h => by cases h; exact q3⟩
      | 3, _ => exact ⟨144, a3, rfl, rfl, r1, r2, fun nm h => by cases h; exact r3⟩
      | 4, _ => exact ⟨162, a4, rfl, rfl, s1, s2, fun nm h => by cases h; exact s3⟩
    · have hlt : i < 5 := (List.getElem?_eq_some_iff.mp hq).1
      omega
  have hent := zz_entry (A := [b, a1, a2, a3, a4]) (as := [.ref 0]) (vs := [.ref b]) (n := 7) ⟨.ref b, [], rfl, ⟨b, rfl, rfl⟩, rfl⟩ (by show 1 ≤ 7; omega)
  have hgo := zz_sound (l := l) hK (zz_env_of hts hgv) htr n d 179 _ r hn (by omega) p e room_1 s m #[Value.ref b] below meth c s.heap [] 0 0 _ [] [b, a1, a2, a3, a4] hctx hent (rfl : ([] : List Value) = []) hR (fun _ => ⟨rfl, rfl, rfl⟩) (by show d + 8 ≤ 2048; omega) (by show 60 * d + 120 ≤ 84000; omega) (by show 0 + (r.2.2.1.length - 5) ≤ 601024; omega) (by show 0 + (zz_size r.2.2 - _) ≤ 7293034; omega)
  rw [lg_entry_eq]
  exact zz_W_mono (fun t ht => zz_lwZ hr1 (by show 0 + (r.2.2.1.length - 5) ≤ 601024; omega) (by show 0 + (zz_size r.2.2 - _) ≤ 7293034; omega) ht) hgo
