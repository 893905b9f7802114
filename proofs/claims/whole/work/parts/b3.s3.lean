def sup (s : Nat → Int32) (i : Nat) (v : Int32) : Nat → Int32 := fun j => if j = i then v else s j
theorem sup_eq {s : Nat → Int32} {i : Nat} {v : Int32} : sup s i v i = v := if_pos rfl
theorem sup_ne {s : Nat → Int32} {i j : Nat} {v : Int32} (h : ¬ j = i) : sup s i v j = s j := if_neg h
theorem up_sup {I : Nat → Nat → Int32} {a i : Nat} {v : Int32} : zz_up I a i v a = sup (I a) i v := by
  funext j
  by_cases z : j = i
  · subst z
    rw [up_eq, sup_eq]
  · rw [up_nf z, sup_ne z]
theorem rep_sup {s : Nat → Int32} {N : Nat → Nat} (h : ∀ j, j < 180 → s j = nI (N j)) {i v : Nat} {x : Int32} (hx : x = nI v) : ∀ j, j < 180 → sup s i x j = nI (nup N i v j) := fun j hj => by
  by_cases z : j = i
  · subst z
    rw [sup_eq, nup_eq, hx]
  · rw [sup_ne z, nup_ne z]
    exact h j hj
theorem rep_sup2 {s : Nat → Int32} {N : Nat → Nat} (h : ∀ j, j < 180 → s j = nI (N j)) {i : Nat} {x : Int32} (hi : 180 ≤ i) : ∀ j, j < 180 → sup s i x j = nI (N j) := fun j hj => by
  rw [sup_ne (by omega)]
  exact h j hj
section SS3
variable {I X : Nat → Nat → Int32} {s s' : Nat → Int32} {t pc : Nat} {y : Int64}
theorem Cst.u10 (h : Cst I 9 s) {i : Nat} (hi : i < 72) {v w : Int32} (hv : v = w - 1) : Cst (zz_up I 10 i v) 9 (sup s (i) w) := by
  obtain ⟨g1, g2, g3, g4, g5, g6, g7, g8, g9, g10, g11, g12, g13, g14, g15, g16, g17, g18, g19⟩ := h
  refine ⟨fun e he => ?_, fun e he => ?_, fun e he => ?_, fun e he => ?_, fun e he => ?_, fun e he => ?_, ?_, ?_, ?_, ?_, ?_, ?_, ?_, ?_, ?_, fun z => ?_, fun z => ?_, fun z => ?_, fun z => ?_⟩
  · show zz_up I 10 i v 10 e = _
    by_cases z : e = i
    · subst z
      rw [up_eq, sup_eq, hv]
    · rw [up_nf z, sup_ne (by omega)]
      exact g1 e he
  · rw [up_ne (by decide), sup_ne (by omega)]
    exact g2 e he
  · rw [up_ne (by decide), sup_ne (by omega)]
    exact g3 e he
  · rw [up_ne (by decide), sup_ne (by omega)]
    exact g4 e he
  · rw [up_ne (by decide), sup_ne (by omega)]
    exact g5 e he
  · rw [up_ne (by decide), sup_ne (by omega)]
    exact g6 e he
  · rw [up_ne (by decide), sup_ne (by omega)]
    exact g7
  · rw [up_ne (by decide), sup_ne (by omega)]
    exact g8
  · rw [up_ne (by decide), sup_ne (by omega)]
    exact g9
  · rw [up_ne (by decide), sup_ne (by omega)]
    exact g10
  · rw [up_ne (by decide), sup_ne (by omega)]
    exact g11
  · rw [up_ne (by decide), sup_ne (by omega)]
    exact g12
  · rw [up_ne (by decide), sup_ne (by omega)]
    exact g13
  · rw [up_ne (by decide), sup_ne (by omega)]
    exact g14
  · rw [up_ne (by decide), sup_ne (by omega)]
    exact g15
  · rw [sup_ne (by omega)] at z
    rw [up_ne (by decide), sup_ne (by omega)]
    exact g16 z
  · rw [sup_ne (by omega)] at z
    rw [up_ne (by decide), sup_ne (by omega)]
    exact g17 z
  · rw [sup_ne (by omega)] at z
    rw [up_ne (by decide), sup_ne (by omega)]
    exact g18 z
  · rw [sup_ne (by omega)] at z
    rw [up_ne (by decide), sup_ne (by omega)]
    exact g19 z
theorem Cst.u11 (h : Cst I 9 s) {i : Nat} (hi : i < 54) {v w : Int32} (hv : v = w - 1) : Cst (zz_up I 11 i v) 9 (sup s (72 + i) w) := by
  obtain ⟨g1, g2, g3, g4, g5, g6, g7, g8, g9, g10, g11, g12, g13, g14, g15, g16, g17, g18, g19⟩ := h
  refine ⟨fun e he => ?_, fun e he => ?_, fun e he => ?_, fun e he => ?_, fun e he => ?_, fun e he => ?_, ?_, ?_, ?_, ?_, ?_, ?_, ?_, ?_, ?_, fun z => ?_, fun z => ?_, fun z => ?_, fun z => ?_⟩
  · rw [up_ne (by decide), sup_ne (by omega)]
    exact g1 e he
  · show zz_up I 11 i v 11 e = _
    by_cases z : e = i
    · subst z
      rw [up_eq, sup_eq, hv]
    · rw [up_nf z, sup_ne (by omega)]
      exact g2 e he
  · rw [up_ne (by decide), sup_ne (by omega)]
    exact g3 e he
  · rw [up_ne (by decide), sup_ne (by omega)]
    exact g4 e he
  · rw [up_ne (by decide), sup_ne (by omega)]
    exact g5 e he
  · rw [up_ne (by decide), sup_ne (by omega)]
    exact g6 e he
  · rw [up_ne (by decide), sup_ne (by omega)]
    exact g7
  · rw [up_ne (by decide), sup_ne (by omega)]
    exact g8
  · rw [up_ne (by decide), sup_ne (by omega)]
    exact g9
  · rw [up_ne (by decide), sup_ne (by omega)]
    exact g10
  · rw [up_ne (by decide), sup_ne (by omega)]
    exact g11
  · rw [up_ne (by decide), sup_ne (by omega)]
    exact g12
  · rw [up_ne (by decide), sup_ne (by omega)]
    exact g13
  · rw [up_ne (by decide), sup_ne (by omega)]
    exact g14
  · rw [up_ne (by decide), sup_ne (by omega)]
    exact g15
  · rw [sup_ne (by omega)] at z
    rw [up_ne (by decide), sup_ne (by omega)]
    exact g16 z
  · rw [sup_ne (by omega)] at z
    rw [up_ne (by decide), sup_ne (by omega)]
    exact g17 z
  · rw [sup_ne (by omega)] at z
    rw [up_ne (by decide), sup_ne (by omega)]
    exact g18 z
  · rw [sup_ne (by omega)] at z
    rw [up_ne (by decide), sup_ne (by omega)]
    exact g19 z
theorem Cst.u12 (h : Cst I 9 s) {i : Nat} (hi : i < 25) {v w : Int32} (hv : v = w) : Cst (zz_up I 12 i v) 9 (sup s (126 + i) w) := by
  obtain ⟨g1, g2, g3, g4, g5, g6, g7, g8, g9, g10, g11, g12, g13, g14, g15, g16, g17, g18, g19⟩ := h
  refine ⟨fun e he => ?_, fun e he => ?_, fun e he => ?_, fun e he => ?_, fun e he => ?_, fun e he => ?_, ?_, ?_, ?_, ?_, ?_, ?_, ?_, ?_, ?_, fun z => ?_, fun z => ?_, fun z => ?_, fun z => ?_⟩
  · rw [up_ne (by decide), sup_ne (by omega)]
    exact g1 e he
  · rw [up_ne (by decide), sup_ne (by omega)]
    exact g2 e he
  · show zz_up I 12 i v 12 e = _
    by_cases z : e = i
    · subst z
      rw [up_eq, sup_eq, hv]
    · rw [up_nf z, sup_ne (by omega)]
      exact g3 e he
  · rw [up_ne (by decide), sup_ne (by omega)]
    exact g4 e he
  · rw [up_ne (by decide), sup_ne (by omega)]
    exact g5 e he
  · rw [up_ne (by decide), sup_ne (by omega)]
    exact g6 e he
  · rw [up_ne (by decide), sup_ne (by omega)]
    exact g7
  · rw [up_ne (by decide), sup_ne (by omega)]
    exact g8
  · rw [up_ne (by decide), sup_ne (by omega)]
    exact g9
  · rw [up_ne (by decide), sup_ne (by omega)]
    exact g10
  · rw [up_ne (by decide), sup_ne (by omega)]
    exact g11
  · rw [up_ne (by decide), sup_ne (by omega)]
    exact g12
  · rw [up_ne (by decide), sup_ne (by omega)]
    exact g13
  · rw [up_ne (by decide), sup_ne (by omega)]
    exact g14
  · rw [up_ne (by decide), sup_ne (by omega)]
    exact g15
  · rw [sup_ne (by omega)] at z
    rw [up_ne (by decide), sup_ne (by omega)]
    exact g16 z
  · rw [sup_ne (by omega)] at z
    rw [up_ne (by decide), sup_ne (by omega)]
    exact g17 z
  · rw [sup_ne (by omega)] at z
    rw [up_ne (by decide), sup_ne (by omega)]
    exact g18 z
  · rw [sup_ne (by omega)] at z
    rw [up_ne (by decide), sup_ne (by omega)]
    exact g19 z
theorem Cst.u13 (h : Cst I 9 s) {i : Nat} (hi : i < 20) {v w : Int32} (hv : v = w) : Cst (zz_up I 13 i v) 9 (sup s (151 + i) w) := by
  obtain ⟨g1, g2, g3, g4, g5, g6, g7, g8, g9, g10, g11, g12, g13, g14, g15, g16, g17, g18, g19⟩ := h
  refine ⟨fun e he => ?_, fun e he => ?_, fun e he => ?_, fun e he => ?_, fun e he => ?_, fun e he => ?_, ?_, ?_, ?_, ?_, ?_, ?_, ?_, ?_, ?_, fun z => ?_, fun z => ?_, fun z => ?_, fun z => ?_⟩
  · rw [up_ne (by decide), sup_ne (by omega)]
    exact g1 e he
  · rw [up_ne (by decide), sup_ne (by omega)]
    exact g2 e he
  · rw [up_ne (by decide), sup_ne (by omega)]
    exact g3 e he
  · show zz_up I 13 i v 13 e = _
    by_cases z : e = i
    · subst z
      rw [up_eq, sup_eq, hv]
    · rw [up_nf z, sup_ne (by omega)]
      exact g4 e he
  · rw [up_ne (by decide), sup_ne (by omega)]
    exact g5 e he
  · rw [up_ne (by decide), sup_ne (by omega)]
    exact g6 e he
  · rw [up_ne (by decide), sup_ne (by omega)]
    exact g7
  · rw [up_ne (by decide), sup_ne (by omega)]
    exact g8
  · rw [up_ne (by decide), sup_ne (by omega)]
    exact g9
  · rw [up_ne (by decide), sup_ne (by omega)]
    exact g10
  · rw [up_ne (by decide), sup_ne (by omega)]
    exact g11
  · rw [up_ne (by decide), sup_ne (by omega)]
    exact g12
  · rw [up_ne (by decide), sup_ne (by omega)]
    exact g13
  · rw [up_ne (by decide), sup_ne (by omega)]
    exact g14
  · rw [up_ne (by decide), sup_ne (by omega)]
    exact g15
  · rw [sup_ne (by omega)] at z
    rw [up_ne (by decide), sup_ne (by omega)]
    exact g16 z
  · rw [sup_ne (by omega)] at z
    rw [up_ne (by decide), sup_ne (by omega)]
    exact g17 z
  · rw [sup_ne (by omega)] at z
    rw [up_ne (by decide), sup_ne (by omega)]
    exact g18 z
  · rw [sup_ne (by omega)] at z
    rw [up_ne (by decide), sup_ne (by omega)]
    exact g19 z
theorem Cst.u14 (h : Cst I 9 s) {i : Nat} (hi : i < 5) {v w : Int32} (hv : v = w) : Cst (zz_up I 14 i v) 9 (sup s (171 + i) w) := by
  obtain ⟨g1, g2, g3, g4, g5, g6, g7, g8, g9, g10, g11, g12, g13, g14, g15, g16, g17, g18, g19⟩ := h
  refine ⟨fun e he => ?_, fun e he => ?_, fun e he => ?_, fun e he => ?_, fun e he => ?_, fun e he => ?_, ?_, ?_, ?_, ?_, ?_, ?_, ?_, ?_, ?_, fun z => ?_, fun z => ?_, fun z => ?_, fun z => ?_⟩
  · rw [up_ne (by decide), sup_ne (by omega)]
    exact g1 e he
  · rw [up_ne (by decide), sup_ne (by omega)]
    exact g2 e he
  · rw [up_ne (by decide), sup_ne (by omega)]
    exact g3 e he
  · rw [up_ne (by decide), sup_ne (by omega)]
    exact g4 e he
  · show zz_up I 14 i v 14 e = _
    by_cases z : e = i
    · subst z
      rw [up_eq, sup_eq, hv]
    · rw [up_nf z, sup_ne (by omega)]
      exact g5 e he
  · rw [up_ne (by decide), sup_ne (by omega)]
    exact g6 e he
  · rw [up_ne (by decide), sup_ne (by omega)]
    exact g7
  · rw [up_ne (by decide), sup_ne (by omega)]
    exact g8
  · rw [up_ne (by decide), sup_ne (by omega)]
    exact g9
  · rw [up_ne (by decide), sup_ne (by omega)]
    exact g10
  · rw [up_ne (by decide), sup_ne (by omega)]
    exact g11
  · rw [up_ne (by decide), sup_ne (by omega)]
    exact g12
  · rw [up_ne (by decide), sup_ne (by omega)]
    exact g13
  · rw [up_ne (by decide), sup_ne (by omega)]
    exact g14
  · rw [up_ne (by decide), sup_ne (by omega)]
    exact g15
  · rw [sup_ne (by omega)] at z
    rw [up_ne (by decide), sup_ne (by omega)]
    exact g16 z
  · rw [sup_ne (by omega)] at z
    rw [up_ne (by decide), sup_ne (by omega)]
    exact g17 z
  · rw [sup_ne (by omega)] at z
    rw [up_ne (by decide), sup_ne (by omega)]
    exact g18 z
  · rw [sup_ne (by omega)] at z
    rw [up_ne (by decide), sup_ne (by omega)]
    exact g19 z
theorem Cst.u15 (h : Cst I 9 s) {i : Nat} (hi : i < 4) {v w : Int32} (hv : v = w) : Cst (zz_up I 15 i v) 9 (sup s (176 + i) w) := by
  obtain ⟨g1, g2, g3, g4, g5, g6, g7, g8, g9, g10, g11, g12, g13, g14, g15, g16, g17, g18, g19⟩ := h
  refine ⟨fun e he => ?_, fun e he => ?_, fun e he => ?_, fun e he => ?_, fun e he => ?_, fun e he => ?_, ?_, ?_, ?_, ?_, ?_, ?_, ?_, ?_, ?_, fun z => ?_, fun z => ?_, fun z => ?_, fun z => ?_⟩
  · rw [up_ne (by decide), sup_ne (by omega)]
    exact g1 e he
  · rw [up_ne (by decide), sup_ne (by omega)]
    exact g2 e he
  · rw [up_ne (by decide), sup_ne (by omega)]
    exact g3 e he
  · rw [up_ne (by decide), sup_ne (by omega)]
    exact g4 e he
  · rw [up_ne (by decide), sup_ne (by omega)]
    exact g5 e he
  · show zz_up I 15 i v 15 e = _
    by_cases z : e = i
    · subst z
      rw [up_eq, sup_eq, hv]
    · rw [up_nf z, sup_ne (by omega)]
      exact g6 e he
  · rw [up_ne (by decide), sup_ne (by omega)]
    exact g7
  · rw [up_ne (by decide), sup_ne (by omega)]
    exact g8
  · rw [up_ne (by decide), sup_ne (by omega)]
    exact g9
  · rw [up_ne (by decide), sup_ne (by omega)]
    exact g10
  · rw [up_ne (by decide), sup_ne (by omega)]
    exact g11
  · rw [up_ne (by decide), sup_ne (by omega)]
    exact g12
  · rw [up_ne (by decide), sup_ne (by omega)]
    exact g13
  · rw [up_ne (by decide), sup_ne (by omega)]
    exact g14
  · rw [up_ne (by decide), sup_ne (by omega)]
    exact g15
  · rw [sup_ne (by omega)] at z
    rw [up_ne (by decide), sup_ne (by omega)]
    exact g16 z
  · rw [sup_ne (by omega)] at z
    rw [up_ne (by decide), sup_ne (by omega)]
    exact g17 z
  · rw [sup_ne (by omega)] at z
    rw [up_ne (by decide), sup_ne (by omega)]
    exact g18 z
  · rw [sup_ne (by omega)] at z
    rw [up_ne (by decide), sup_ne (by omega)]
    exact g19 z
theorem Cst.v1 (h : Cst I 9 s) (v : Int32) : Cst (zz_up I 9 1 v) 9 (sup s 181 v) := by
  obtain ⟨g1, g2, g3, g4, g5, g6, g7, g8, g9, g10, g11, g12, g13, g14, g15, g16, g17, g18, g19⟩ := h
  refine ⟨fun e he => ?_, fun e he => ?_, fun e he => ?_, fun e he => ?_, fun e he => ?_, fun e he => ?_, ?_, ?_, ?_, ?_, ?_, ?_, ?_, ?_, ?_, fun z => ?_, fun z => ?_, fun z => ?_, fun z => ?_⟩
  · rw [up_ne (by decide), sup_ne (by omega)]
    exact g1 e he
  · rw [up_ne (by decide), sup_ne (by omega)]
    exact g2 e he
  · rw [up_ne (by decide), sup_ne (by omega)]
    exact g3 e he
  · rw [up_ne (by decide), sup_ne (by omega)]
    exact g4 e he
  · rw [up_ne (by decide), sup_ne (by omega)]
    exact g5 e he
  · rw [up_ne (by decide), sup_ne (by omega)]
    exact g6 e he
  · rw [up_nf (by decide), sup_ne (by omega)]
    exact g7
  · rw [up_eq, sup_eq]
  · rw [up_nf (by decide), sup_ne (by omega)]
    exact g9
  · rw [up_nf (by decide), sup_ne (by omega)]
    exact g10
  · rw [up_nf (by decide), sup_ne (by omega)]
    exact g11
  · rw [up_nf (by decide), sup_ne (by omega)]
    exact g12
  · rw [up_nf (by decide), sup_ne (by omega)]
    exact g13
  · rw [up_nf (by decide), sup_ne (by omega)]
    exact g14
  · rw [up_nf (by decide), sup_ne (by omega)]
    exact g15
  · rw [sup_ne (by omega)] at z
    rw [up_nf (by decide), sup_ne (by omega)]
    exact g16 z
  · rw [sup_ne (by omega)] at z
    rw [up_nf (by decide), sup_ne (by omega)]
    exact g17 z
  · rw [sup_ne (by omega)] at z
    rw [up_nf (by decide), sup_ne (by omega)]
    exact g18 z
  · rw [sup_ne (by omega)] at z
    rw [up_nf (by decide), sup_ne (by omega)]
    exact g19 z
theorem Cst.v4 (h : Cst I 9 s) (v : Int32) : Cst (zz_up I 9 4 v) 9 (sup s 182 v) := by
  obtain ⟨g1, g2, g3, g4, g5, g6, g7, g8, g9, g10, g11, g12, g13, g14, g15, g16, g17, g18, g19⟩ := h
  refine ⟨fun e he => ?_, fun e he => ?_, fun e he => ?_, fun e he => ?_, fun e he => ?_, fun e he => ?_, ?_, ?_, ?_, ?_, ?_, ?_, ?_, ?_, ?_, fun z => ?_, fun z => ?_, fun z => ?_, fun z => ?_⟩
  · rw [up_ne (by decide), sup_ne (by omega)]
    exact g1 e he
  · rw [up_ne (by decide), sup_ne (by omega)]
    exact g2 e he
  · rw [up_ne (by decide), sup_ne (by omega)]
    exact g3 e he
  · rw [up_ne (by decide), sup_ne (by omega)]
    exact g4 e he
  · rw [up_ne (by decide), sup_ne (by omega)]
    exact g5 e he
  · rw [up_ne (by decide), sup_ne (by omega)]
    exact g6 e he
  · rw [up_nf (by decide), sup_ne (by omega)]
    exact g7
  · rw [up_nf (by decide), sup_ne (by omega)]
    exact g8
  · rw [up_eq, sup_eq]
  · rw [up_nf (by decide), sup_ne (by omega)]
    exact g10
  · rw [up_nf (by decide), sup_ne (by omega)]
    exact g11
  · rw [up_nf (by decide), sup_ne (by omega)]
    exact g12
  · rw [up_nf (by decide), sup_ne (by omega)]
    exact g13
  · rw [up_nf (by decide), sup_ne (by omega)]
    exact g14
  · rw [up_nf (by decide), sup_ne (by omega)]
    exact g15
  · rw [sup_ne (by omega)] at z
    rw [up_nf (by decide), sup_ne (by omega)]
    exact g16 z
  · rw [sup_ne (by omega)] at z
    rw [up_nf (by decide), sup_ne (by omega)]
    exact g17 z
  · rw [sup_ne (by omega)] at z
    rw [up_nf (by decide), sup_ne (by omega)]
    exact g18 z
  · rw [sup_ne (by omega)] at z
    rw [up_nf (by decide), sup_ne (by omega)]
    exact g19 z
theorem Cst.v5 (h : Cst I 9 s) (v : Int32) : Cst (zz_up I 9 5 v) 9 (sup s 183 v) := by
  obtain ⟨g1, g2, g3, g4, g5, g6, g7, g8, g9, g10, g11, g12, g13, g14, g15, g16, g17, g18, g19⟩ := h
  refine ⟨fun e he => ?_, fun e he => ?_, fun e he => ?_, fun e he => ?_, fun e he => ?_, fun e he => ?_, ?_, ?_, ?_, ?_, ?_, ?_, ?_, ?_, ?_, fun z => ?_, fun z => ?_, fun z => ?_, fun z => ?_⟩
  · rw [up_ne (by decide), sup_ne (by omega)]
    exact g1 e he
  · rw [up_ne (by decide), sup_ne (by omega)]
    exact g2 e he
  · rw [up_ne (by decide), sup_ne (by omega)]
    exact g3 e he
  · rw [up_ne (by decide), sup_ne (by omega)]
    exact g4 e he
  · rw [up_ne (by decide), sup_ne (by omega)]
    exact g5 e he
  · rw [up_ne (by decide), sup_ne (by omega)]
    exact g6 e he
  · rw [up_nf (by decide), sup_ne (by omega)]
    exact g7
  · rw [up_nf (by decide), sup_ne (by omega)]
    exact g8
  · rw [up_nf (by decide), sup_ne (by omega)]
    exact g9
  · rw [up_eq, sup_eq]
  · rw [up_nf (by decide), sup_ne (by omega)]
    exact g11
  · rw [up_nf (by decide), sup_ne (by omega)]
    exact g12
  · rw [up_nf (by decide), sup_ne (by omega)]
    exact g13
  · rw [up_nf (by decide), sup_ne (by omega)]
    exact g14
  · rw [up_nf (by decide), sup_ne (by omega)]
    exact g15
  · rw [sup_ne (by omega)] at z
    rw [up_nf (by decide), sup_ne (by omega)]
    exact g16 z
  · rw [sup_ne (by omega)] at z
    rw [up_nf (by decide), sup_ne (by omega)]
    exact g17 z
  · rw [sup_ne (by omega)] at z
    rw [up_nf (by decide), sup_ne (by omega)]
    exact g18 z
  · rw [sup_ne (by omega)] at z
    rw [up_nf (by decide), sup_ne (by omega)]
    exact g19 z
theorem Cst.v7 (h : Cst I 9 s) (v : Int32) : Cst (zz_up I 9 7 v) 9 (sup s 186 v) := by
  obtain ⟨g1, g2, g3, g4, g5, g6, g7, g8, g9, g10, g11, g12, g13, g14, g15, g16, g17, g18, g19⟩ := h
  refine ⟨fun e he => ?_, fun e he => ?_, fun e he => ?_, fun e he => ?_, fun e he => ?_, fun e he => ?_, ?_, ?_, ?_, ?_, ?_, ?_, ?_, ?_, ?_, fun z => ?_, fun z => ?_, fun z => ?_, fun z => ?_⟩
  · rw [up_ne (by decide), sup_ne (by omega)]
    exact g1 e he
  · rw [up_ne (by decide), sup_ne (by omega)]
    exact g2 e he
  · rw [up_ne (by decide), sup_ne (by omega)]
    exact g3 e he
  · rw [up_ne (by decide), sup_ne (by omega)]
    exact g4 e he
  · rw [up_ne (by decide), sup_ne (by omega)]
    exact g5 e he
  · rw [up_ne (by decide), sup_ne (by omega)]
    exact g6 e he
  · rw [up_nf (by decide), sup_ne (by omega)]
    exact g7
  · rw [up_nf (by decide), sup_ne (by omega)]
    exact g8
  · rw [up_nf (by decide), sup_ne (by omega)]
    exact g9
  · rw [up_nf (by decide), sup_ne (by omega)]
    exact g10
  · rw [up_eq, sup_eq]
  · rw [up_nf (by decide), sup_ne (by omega)]
    exact g12
  · rw [up_nf (by decide), sup_ne (by omega)]
    exact g13
  · rw [up_nf (by decide), sup_ne (by omega)]
    exact g14
  · rw [up_nf (by decide), sup_ne (by omega)]
    exact g15
  · rw [sup_ne (by omega)] at z
    rw [up_nf (by decide), sup_ne (by omega)]
    exact g16 z
  · rw [sup_ne (by omega)] at z
    rw [up_nf (by decide), sup_ne (by omega)]
    exact g17 z
  · rw [sup_ne (by omega)] at z
    rw [up_nf (by decide), sup_ne (by omega)]
    exact g18 z
  · rw [sup_ne (by omega)] at z
    rw [up_nf (by decide), sup_ne (by omega)]
    exact g19 z
theorem Cst.v8 (h : Cst I 9 s) (v : Int32) : Cst (zz_up I 9 8 v) 9 (sup s 187 v) := by
  obtain ⟨g1, g2, g3, g4, g5, g6, g7, g8, g9, g10, g11, g12, g13, g14, g15, g16, g17, g18, g19⟩ := h
  refine ⟨fun e he => ?_, fun e he => ?_, fun e he => ?_, fun e he => ?_, fun e he => ?_, fun e he => ?_, ?_, ?_, ?_, ?_, ?_, ?_, ?_, ?_, ?_, fun z => ?_, fun z => ?_, fun z => ?_, fun z => ?_⟩
  · rw [up_ne (by decide), sup_ne (by omega)]
    exact g1 e he
  · rw [up_ne (by decide), sup_ne (by omega)]
    exact g2 e he
  · rw [up_ne (by decide), sup_ne (by omega)]
    exact g3 e he
  · rw [up_ne (by decide), sup_ne (by omega)]
    exact g4 e he
  · rw [up_ne (by decide), sup_ne (by omega)]
    exact g5 e he
  · rw [up_ne (by decide), sup_ne (by omega)]
    exact g6 e he
  · rw [up_nf (by decide), sup_ne (by omega)]
    exact g7
  · rw [up_nf (by decide), sup_ne (by omega)]
    exact g8
  · rw [up_nf (by decide), sup_ne (by omega)]
    exact g9
  · rw [up_nf (by decide), sup_ne (by omega)]
    exact g10
  · rw [up_nf (by decide), sup_ne (by omega)]
    exact g11
  · rw [up_eq, sup_eq]
  · rw [up_nf (by decide), sup_ne (by omega)]
    exact g13
  · rw [up_nf (by decide), sup_ne (by omega)]
    exact g14
  · rw [up_nf (by decide), sup_ne (by omega)]
    exact g15
  · rw [sup_ne (by omega)] at z
    rw [up_nf (by decide), sup_ne (by omega)]
    exact g16 z
  · rw [sup_ne (by omega)] at z
    rw [up_nf (by decide), sup_ne (by omega)]
    exact g17 z
  · rw [sup_ne (by omega)] at z
    rw [up_nf (by decide), sup_ne (by omega)]
    exact g18 z
  · rw [sup_ne (by omega)] at z
    rw [up_nf (by decide), sup_ne (by omega)]
    exact g19 z
theorem Cst.v9 (h : Cst I 9 s) (v : Int32) : Cst (zz_up I 9 9 v) 9 (sup s 188 v) := by
  obtain ⟨g1, g2, g3, g4, g5, g6, g7, g8, g9, g10, g11, g12, g13, g14, g15, g16, g17, g18, g19⟩ := h
  refine ⟨fun e he => ?_, fun e he => ?_, fun e he => ?_, fun e he => ?_, fun e he => ?_, fun e he => ?_, ?_, ?_, ?_, ?_, ?_, ?_, ?_, ?_, ?_, fun z => ?_, fun z => ?_, fun z => ?_, fun z => ?_⟩
  · rw [up_ne (by decide), sup_ne (by omega)]
    exact g1 e he
  · rw [up_ne (by decide), sup_ne (by omega)]
    exact g2 e he
  · rw [up_ne (by decide), sup_ne (by omega)]
    exact g3 e he
  · rw [up_ne (by decide), sup_ne (by omega)]
    exact g4 e he
  · rw [up_ne (by decide), sup_ne (by omega)]
    exact g5 e he
  · rw [up_ne (by decide), sup_ne (by omega)]
    exact g6 e he
  · rw [up_nf (by decide), sup_ne (by omega)]
    exact g7
  · rw [up_nf (by decide), sup_ne (by omega)]
    exact g8
  · rw [up_nf (by decide), sup_ne (by omega)]
    exact g9
  · rw [up_nf (by decide), sup_ne (by omega)]
    exact g10
  · rw [up_nf (by decide), sup_ne (by omega)]
    exact g11
  · rw [up_nf (by decide), sup_ne (by omega)]
    exact g12
  · rw [up_eq, sup_eq]
  · rw [up_nf (by decide), sup_ne (by omega)]
    exact g14
  · rw [up_nf (by decide), sup_ne (by omega)]
    exact g15
  · rw [sup_ne (by omega)] at z
    rw [up_nf (by decide), sup_ne (by omega)]
    exact g16 z
  · rw [sup_ne (by omega)] at z
    rw [up_nf (by decide), sup_ne (by omega)]
    exact g17 z
  · rw [sup_ne (by omega)] at z
    rw [up_nf (by decide), sup_ne (by omega)]
    exact g18 z
  · rw [sup_ne (by omega)] at z
    rw [up_nf (by decide), sup_ne (by omega)]
    exact g19 z
theorem Cst.v10 (h : Cst I 9 s) (v : Int32) : Cst (zz_up I 9 10 v) 9 (sup s 189 v) := by
  obtain ⟨g1, g2, g3, g4, g5, g6, g7, g8, g9, g10, g11, g12, g13, g14, g15, g16, g17, g18, g19⟩ := h
  refine ⟨fun e he => ?_, fun e he => ?_, fun e he => ?_, fun e he => ?_, fun e he => ?_, fun e he => ?_, ?_, ?_, ?_, ?_, ?_, ?_, ?_, ?_, ?_, fun z => ?_, fun z => ?_, fun z => ?_, fun z => ?_⟩
  · rw [up_ne (by decide), sup_ne (by omega)]
    exact g1 e he
  · rw [up_ne (by decide), sup_ne (by omega)]
    exact g2 e he
  · rw [up_ne (by decide), sup_ne (by omega)]
    exact g3 e he
  · rw [up_ne (by decide), sup_ne (by omega)]
    exact g4 e he
  · rw [up_ne (by decide), sup_ne (by omega)]
    exact g5 e he
  · rw [up_ne (by decide), sup_ne (by omega)]
    exact g6 e he
  · rw [up_nf (by decide), sup_ne (by omega)]
    exact g7
  · rw [up_nf (by decide), sup_ne (by omega)]
    exact g8
  · rw [up_nf (by decide), sup_ne (by omega)]
    exact g9
  · rw [up_nf (by decide), sup_ne (by omega)]
    exact g10
  · rw [up_nf (by decide), sup_ne (by omega)]
    exact g11
  · rw [up_nf (by decide), sup_ne (by omega)]
    exact g12
  · rw [up_nf (by decide), sup_ne (by omega)]
    exact g13
  · rw [up_eq, sup_eq]
  · rw [up_nf (by decide), sup_ne (by omega)]
    exact g15
  · rw [sup_ne (by omega)] at z
    rw [up_nf (by decide), sup_ne (by omega)]
    exact g16 z
  · rw [sup_ne (by omega)] at z
    rw [up_nf (by decide), sup_ne (by omega)]
    exact g17 z
  · rw [sup_ne (by omega)] at z
    rw [up_nf (by decide), sup_ne (by omega)]
    exact g18 z
  · rw [sup_ne (by omega)] at z
    rw [up_nf (by decide), sup_ne (by omega)]
    exact g19 z
theorem Cst.v11 (h : Cst I 9 s) (v : Int32) : Cst (zz_up I 9 11 v) 9 (sup s 184 v) := by
  obtain ⟨g1, g2, g3, g4, g5, g6, g7, g8, g9, g10, g11, g12, g13, g14, g15, g16, g17, g18, g19⟩ := h
  refine ⟨fun e he => ?_, fun e he => ?_, fun e he => ?_, fun e he => ?_, fun e he => ?_, fun e he => ?_, ?_, ?_, ?_, ?_, ?_, ?_, ?_, ?_, ?_, fun z => ?_, fun z => ?_, fun z => ?_, fun z => ?_⟩
  · rw [up_ne (by decide), sup_ne (by omega)]
    exact g1 e he
  · rw [up_ne (by decide), sup_ne (by omega)]
    exact g2 e he
  · rw [up_ne (by decide), sup_ne (by omega)]
    exact g3 e he
  · rw [up_ne (by decide), sup_ne (by omega)]
    exact g4 e he
  · rw [up_ne (by decide), sup_ne (by omega)]
    exact g5 e he
  · rw [up_ne (by decide), sup_ne (by omega)]
    exact g6 e he
  · rw [up_nf (by decide), sup_ne (by omega)]
    exact g7
  · rw [up_nf (by decide), sup_ne (by omega)]
    exact g8
  · rw [up_nf (by decide), sup_ne (by omega)]
    exact g9
  · rw [up_nf (by decide), sup_ne (by omega)]
    exact g10
  · rw [up_nf (by decide), sup_ne (by omega)]
    exact g11
  · rw [up_nf (by decide), sup_ne (by omega)]
    exact g12
  · rw [up_nf (by decide), sup_ne (by omega)]
    exact g13
  · rw [up_nf (by decide), sup_ne (by omega)]
    exact g14
  · rw [up_eq, sup_eq]
  · rw [sup_ne (by omega)] at z
    rw [up_nf (by decide), sup_ne (by omega)]
    exact g16 z
  · rw [sup_ne (by omega)] at z
    rw [up_nf (by decide), sup_ne (by omega)]
    exact g17 z
  · rw [sup_ne (by omega)] at z
    rw [up_nf (by decide), sup_ne (by omega)]
    exact g18 z
  · rw [sup_ne (by omega)] at z
    rw [up_nf (by decide), sup_ne (by omega)]
    exact g19 z
theorem Cst.v0 (h : Cst I 9 s) (v : Int32) (h7 : v = 7 → I 9 6 = s 185) (h2 : v = 2 → I 9 3 = s 192) (h1 : v = 1 → I 9 2 = s 191) (h2' : v = 2 → I 9 2 + 1 = s 191) : Cst (zz_up I 9 0 v) 9 (sup s 180 v) := by
  obtain ⟨g1, g2, g3, g4, g5, g6, g7, g8, g9, g10, g11, g12, g13, g14, g15, g16, g17, g18, g19⟩ := h
  refine ⟨fun e he => ?_, fun e he => ?_, fun e he => ?_, fun e he => ?_, fun e he => ?_, fun e he => ?_, ?_, ?_, ?_, ?_, ?_, ?_, ?_, ?_, ?_, fun z => ?_, fun z => ?_, fun z => ?_, fun z => ?_⟩
  · rw [up_ne (by decide), sup_ne (by omega)]
    exact g1 e he
  · rw [up_ne (by decide), sup_ne (by omega)]
    exact g2 e he
  · rw [up_ne (by decide), sup_ne (by omega)]
    exact g3 e he
  · rw [up_ne (by decide), sup_ne (by omega)]
    exact g4 e he
  · rw [up_ne (by decide), sup_ne (by omega)]
    exact g5 e he
  · rw [up_ne (by decide), sup_ne (by omega)]
    exact g6 e he
  · rw [up_eq, sup_eq]
  · rw [up_nf (by decide), sup_ne (by omega)]
    exact g8
  · rw [up_nf (by decide), sup_ne (by omega)]
    exact g9
  · rw [up_nf (by decide), sup_ne (by omega)]
    exact g10
  · rw [up_nf (by decide), sup_ne (by omega)]
    exact g11
  · rw [up_nf (by decide), sup_ne (by omega)]
    exact g12
  · rw [up_nf (by decide), sup_ne (by omega)]
    exact g13
  · rw [up_nf (by decide), sup_ne (by omega)]
    exact g14
  · rw [up_nf (by decide), sup_ne (by omega)]
    exact g15
  · rw [sup_eq] at z
    rw [up_nf (by decide), sup_ne (by omega)]
    exact h7 z
  · rw [sup_eq] at z
    rw [up_nf (by decide), sup_ne (by omega)]
    exact h2 z
  · rw [sup_eq] at z
    rw [up_nf (by decide), sup_ne (by omega)]
    exact h1 z
  · rw [sup_eq] at z
    rw [up_nf (by decide), sup_ne (by omega)]
    exact h2' z
theorem Cst.v0p (h : Cst I 9 s) (v : Int32) (h1 : ¬ v = 7) (h2 : ¬ v = 2) (h3 : ¬ v = 1) : Cst (zz_up I 9 0 v) 9 (sup s 180 v) := h.v0 v (fun z => absurd z h1) (fun z => absurd z h2) (fun z => absurd z h3) (fun z => absurd z h2)
end SS3
