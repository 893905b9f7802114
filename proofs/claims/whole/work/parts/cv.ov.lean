theorem sw_or {Q : Nat → Prop} {v : Int32} {dflt : Nat} (h0 : Q dflt) : ∀ (l : List (Int32 × Nat)), (∀ p ∈ l, Q p.2) → Q (zz_sw v dflt l)
  | [], _ => h0
  | (k, t) :: r, h => by
    unfold zz_sw
    split
    · exact h (k, t) (List.mem_cons_self ..)
    · exact sw_or h0 r (fun p hp => h p (List.mem_cons_of_mem _ hp))
theorem law_c {n i : Nat} (hn : n ≤ 2048) (hi : i ≤ 2048) : (Int32.ofNat n - 4 < nI i) = (n < i + 4) := by
  rw [zz_ofN, Int32.lt_iff_toInt_lt, Int32.toInt_sub, nI_toInt (by omega), nI_toInt (by omega), show (4 : Int32).toInt = 4 from rfl, Int.bmod_def]
  apply propext
  split <;> omega
section OV
variable {d n i : Nat} {I : Nat → Nat → Int32} {J : Nat → Nat → Int64} {ex : List (Nat × Nat)} {f : Bool} {l5 l6 : Option Value}
theorem law_step (hR : Rel I (J 5 4)) (hi : i + 4 ≤ n) (hn : n ≤ 2048) : Nx d n i ex (23, [some (.ref 0), some (.ref 5), some (.ref 23), some (.ref 44), some (.int (nI i)), l5, l6], [], f, zz_hp n I J ex) := by
  have key : zz_Run zz_prog (d + 21) 179 (23, [some (.ref 0), some (.ref 5), some (.ref 23), some (.ref 44), some (.int (nI i)), l5, l6], [], f, zz_hp n I J ex) = zz_Run zz_prog (d + 21) 179 (zz_sw (I 0 i &&& 31) 1529 [(0, 156), (1, 216), (2, 284), (3, 352), (4, 400), (5, 468), (6, 524), (7, 592), (8, 672), (9, 740), (10, 800), (11, 844), (12, 888), (13, 968), (14, 1012), (15, 1056), (16, 1069), (17, 1082), (18, 1095), (19, 1163), (20, 1231), (21, 1287), (22, 1343), (23, 1356), (24, 1424), (25, 1449)], [some (.ref 0), some (.ref 5), some (.ref 23), some (.ref 44), some (.int (nI i)), l5, l6], [], f, zz_hp n I J ex) := by
    rw [s179_23, s179_25, s179_26 (by decide), s179_27, s179_28, s179_29, zz_ary_0]
    have hc : ¬ (Int32.ofNat n - 4 < nI i) := by
      rw [law_c hn (by omega)]
      omega
    rw [if_neg hc, s179_32, s179_33, s179_35 (by decide), zz_ary_0, zz_nI_in (by omega) (by omega), zz_ck_t, zz_nI_ix (by omega), s179_36, s179_38, s179_39]
  unfold Nx
  rw [key]
  exact sw_or (Q := fun q => Nx d n i ex (q, [some (.ref 0), some (.ref 5), some (.ref 23), some (.ref 44), some (.int (nI i)), l5, l6], [], f, zz_hp n I J ex)) ⟨I, J, ex, f, l5, l6, rfl, hR, Or.inl rfl⟩ _ (by
    simp only [List.forall_mem_cons]
    exact ⟨l156 hR hi hn, l216 hR hi hn, l284 hR hi hn, l352 hR hi hn, l400 hR hi hn, l468 hR hi hn, l524 hR hi hn, l592 hR hi hn, l672 hR hi hn, l740 hR hi hn, l800 hR hi hn, l844 hR hi hn, l888 hR hi hn, l968 hR hi hn, l1012 hR hi hn, l1056 hR hi hn, l1069 hR hi hn, l1082 hR hi hn, l1095 hR hi hn, l1163 hR hi hn, l1231 hR hi hn, l1287 hR hi hn, l1343 hR hi hn, l1356 hR hi hn, l1424 hR hi hn, l1449 hR hi hn, fun p hp => by cases hp⟩)
theorem law_end (hi : n < i + 4) (hn : n ≤ 2048) (h2 : i ≤ 2048) : zz_Run zz_prog (d + 21) 179 (23, [some (.ref 0), some (.ref 5), some (.ref 23), some (.ref 44), some (.int (nI i)), l5, l6], [], f, zz_hp n I J ex) = some (.inl (some (.int 1)), f, zz_hp n I J ex) := by
  rw [s179_23, s179_25, s179_26 (by decide), s179_27, s179_28, s179_29, zz_ary_0]
  have hc : Int32.ofNat n - 4 < nI i := by
    rw [law_c hn h2]
    exact hi
  rw [if_pos hc, s179_1535, s179_1536]
  exact rfl
theorem law_loop (hR : Rel I (J 5 4)) (hn : n ≤ 2048) : ∃ I' J' ex' f', zz_Run zz_prog (d + 21) 179 (23, [some (.ref 0), some (.ref 5), some (.ref 23), some (.ref 44), some (.int 0), l5, l6], [], f, zz_hp n I J []) = some (.inl (some (.int 1)), f', zz_hp n I' J' ex') ∧ ex'.length ≤ 512 ∧ ∀ x ∈ ex', x.1 = 4 := by
  obtain ⟨s', h1, X, J', ex', f', m5, m6, rfl, hRX, hl, hx⟩ := zz_forR (F := fun c => zz_Run zz_prog (d + 21) 179 c) (N := n / 4) (P := fun k s => ∃ (X : Nat → Nat → Int32) (J' : Nat → Nat → Int64) (ex' : List (Nat × Nat)) (f' : Bool) (m5 m6 : Option Value), s = (23, [some (.ref 0), some (.ref 5), some (.ref 23), some (.ref 44), some (.int (nI (4 * k))), m5, m6], [], f', zz_hp n X J' ex') ∧ Rel X (J' 5 4) ∧ ex'.length ≤ k ∧ ∀ x ∈ ex', x.1 = 4) (fun k s hk hP => by
    obtain ⟨X, J', ex', f', m5, m6, rfl, hRX, hl, hx⟩ := hP
    obtain ⟨Y, J2, ex2, f2, a5, a6, g1, g2, g3⟩ := law_step (d := d) (ex := ex') (f := f') (l5 := m5) (l6 := m6) hRX (i := 4 * k) (n := n) (by omega) hn
    refine ⟨(23, [some (.ref 0), some (.ref 5), some (.ref 23), some (.ref 44), some (.int (nI (4 * (k + 1)))), a5, a6], [], f2, zz_hp n Y J2 ex2), ?_, Y, J2, ex2, f2, a5, a6, rfl, g2, ?_, ?_⟩
    · rw [g1, s179_1529, zz_sl_r, s179_1532, zz_na4, show 4 * k + 4 = 4 * (k + 1) by omega]
    · rcases g3 with rfl | ⟨e, rfl⟩
      · omega
      · rw [List.length_append]
        show ex'.length + 1 ≤ k + 1
        omega
    · rcases g3 with rfl | ⟨e, rfl⟩
      · exact hx
      · intro x hx2
        rcases List.mem_append.mp hx2 with z | z
        · exact hx x z
        · rw [List.mem_singleton.mp z]) (n / 4) 0 (by omega) _ ⟨I, J, [], f, l5, l6, rfl, hR, Nat.le_refl 0, fun x hx => by cases hx⟩
  refine ⟨X, J', ex', f', ?_, by omega, hx⟩
  exact h1.trans (law_end (by omega) hn (by omega))
end OV
