def zz_clp : List (List Nat) := [[150, 152, 154, 156, 158, 160, 162, 164, 166, 168, 170, 172, 174, 176, 178, 180, 182, 184], [198, 200, 202, 204, 206, 208, 210, 212, 214, 216], [798, 800, 802, 804, 806, 808, 810, 812, 814, 816, 818, 820, 822, 824, 826, 828, 830, 832, 834, 836, 838, 840, 842, 844, 846], [], [], [], []]
def zz_hws : List Nat → List Cond → Bool
  | [], [] => true
  | i :: is, w :: ws => zz_hw i w && zz_hws is ws
  | _, _ => false
theorem zz_hws_in : ∀ {is : List Nat} {ws : List Cond}, zz_hws is ws = true → ∀ w ∈ ws, w ∈ zz_ws
  | [], [], _, w, hw => by cases hw
  | [], _ :: _, h, _, _ => by cases h
  | _ :: _, [], h, _, _ => by cases h
  | i :: is, w0 :: ws, h, w, hw => by
    simp only [zz_hws, Bool.and_eq_true] at h
    rcases List.mem_cons.mp hw with rfl | hw
    · exact zz_hw_in h.1
    · exact zz_hws_in h.2 w hw
def zz_clsB (c : Nat) : Bool := match zz_cl[c]? with
  | some (C, T, N) => zz_hws (zz_clp.getD c []) (u_ws C T N) && decide ((zz_fk.getD c []).length = N) && (List.range N).all (fun k => decide (parseFieldDescriptor (T k).2.2.1 = some (zz_ty c k)) && zz_kty ((zz_fk.getD c []).getD k 0) (zz_ty c k) && decide ((T k).1 = C) && (List.range N).all (fun b => decide (k = b) || decide ((T k).2.1 ≠ (T b).2.1)))
  | none => true
theorem zz_clsB_ok : (List.range 7).all zz_clsB = true := by decide +kernel
theorem zz_cls {c N : Nat} {C : String} {T : u_T} (h : zz_cl[c]? = some (C, T, N)) : (∀ w ∈ u_ws C T N, w ∈ zz_ws) ∧ (zz_fk.getD c []).length = N ∧ (∀ k, k < N → parseFieldDescriptor (T k).2.2.1 = some (zz_ty c k)) ∧ (∀ k, k < N → zz_kty ((zz_fk.getD c []).getD k 0) (zz_ty c k) = true) ∧ (∀ k, k < N → (T k).1 = C) ∧ (∀ a, a < N → ∀ b, b < N → a ≠ b → (T a).2.1 ≠ (T b).2.1) := by
  have hc : c < 7 := (List.getElem?_eq_some_iff.mp h).1
  have hB := List.all_eq_true.mp zz_clsB_ok c (List.mem_range.mpr hc)
  unfold zz_clsB at hB
  rw [h] at hB
  simp only [Bool.and_eq_true, decide_eq_true_eq] at hB
  obtain ⟨⟨h1, h2⟩, h3⟩ := hB
  have h4 : ∀ k, k < N → ((parseFieldDescriptor (T k).2.2.1 = some (zz_ty c k) ∧ zz_kty ((zz_fk.getD c []).getD k 0) (zz_ty c k) = true) ∧ (T k).1 = C) ∧ ∀ b, b < N → k = b ∨ (T k).2.1 ≠ (T b).2.1 := by
    intro k hk
    have h5 := List.all_eq_true.mp h3 k (List.mem_range.mpr hk)
    simp only [Bool.and_eq_true, decide_eq_true_eq] at h5
    refine ⟨h5.1, fun b hb => ?_⟩
    have h6 := List.all_eq_true.mp h5.2 b (List.mem_range.mpr hb)
    simpa only [Bool.or_eq_true, decide_eq_true_eq] using h6
  exact ⟨zz_hws_in h1, h2, fun k hk => (h4 k hk).1.1.1, fun k hk => (h4 k hk).1.1.2, fun k hk => (h4 k hk).1.2, fun a ha b hb hab => ((h4 a ha).2 b hb).resolve_left hab⟩
theorem zz_kty_dv {t : Nat} {ty : FieldType} (h : zz_kty t ty = true) : defaultValue ty = zz_dv t := by
  unfold zz_kty at h
  split at h <;> first | rfl | cases h
def zz_sup : List String := ["java/lang/RuntimeException", "java/lang/Exception"]
def zz_atB (c : Nat) : Bool := (Bundle.ownAtoms0 "HexIsland" (zz_exi.getD c 0) (zz_en c) zz_sup).all fun w => (decide (w ∈ lw_tbl) && goodWord w) || decide (w ∈ zz_xw)
theorem zz_at3 : zz_atB 3 = true := by decide +kernel
theorem zz_at4 : zz_atB 4 = true := by decide +kernel
theorem zz_at5 : zz_atB 5 = true := by decide +kernel
theorem zz_at6 : zz_atB 6 = true := by decide +kernel
theorem zz_atoms {c : Nat} {args : Array Value} {s : State} (h3 : 3 ≤ c) (h7 : c < 7) (hts : ∀ w ∈ zz_ws, w.before args s = true) (hx : ∀ w ∈ zz_xw, w.before args s = true) : ∀ w ∈ Bundle.ownAtoms0 "HexIsland" (zz_exi.getD c 0) (zz_en c) zz_sup, w.before args s = true := by
  have hB : zz_atB c = true := by
    have : c = 3 ∨ c = 4 ∨ c = 5 ∨ c = 6 := by omega
    rcases this with rfl | rfl | rfl | rfl
    · exact zz_at3
    · exact zz_at4
    · exact zz_at5
    · exact zz_at6
  intro w hw
  have h := List.all_eq_true.mp hB w hw
  simp only [Bool.or_eq_true, Bool.and_eq_true, decide_eq_true_eq] at h
  rcases h with h | h
  · exact hts w (List.mem_filter.mpr h)
  · exact hx w h
theorem zz_fit {c : Nat} (h3 : 3 ≤ c) (h7 : c < 7) : Bundle.fit (zz_en c) = true ∧ zz_en c ∈ zz_ex4 ∧ Cond.castable (zz_en c) (zz_en c) ∈ zz_xw := by
  have : c = 3 ∨ c = 4 ∨ c = 5 ∨ c = 6 := by omega
  rcases this with rfl | rfl | rfl | rfl <;> exact ⟨by decide +kernel, by decide +kernel, by decide +kernel⟩
theorem zz_fit_sup : ∀ n ∈ zz_sup, Bundle.fit n = true := by decide +kernel
theorem zz_en_inj {c d : Nat} (h3 : 3 ≤ c) (h7 : c < 7) (k3 : 3 ≤ d) (k7 : d < 7) : zz_en c = zz_en d ↔ c = d := by
  have h1 : c = 3 ∨ c = 4 ∨ c = 5 ∨ c = 6 := by omega
  have h2 : d = 3 ∨ d = 4 ∨ d = 5 ∨ d = 6 := by omega
  rcases h1 with rfl | rfl | rfl | rfl <;> rcases h2 with rfl | rfl | rfl | rfl <;> decide +kernel
theorem zz_en_cl {c : Nat} (h3 : 3 ≤ c) (h7 : c < 7) : zz_cl[c]? = some (zz_en c, zz_TE, 0) := by
  have h1 : c = 3 ∨ c = 4 ∨ c = 5 ∨ c = 6 := by omega
  rcases h1 with rfl | rfl | rfl | rfl <;> rfl
