def nup (N : Nat → Nat) (i v : Nat) : Nat → Nat := fun j => if j = i then v else N j
theorem nup_eq {N : Nat → Nat} {i v : Nat} : nup N i v i = v := if_pos rfl
theorem nup_ne {N : Nat → Nat} {i v j : Nat} (h : ¬ j = i) : nup N i v j = N j := if_neg h
theorem rep_up {I : Nat → Nat → Int32} {a : Nat} {N : Nat → Nat} (h : ∀ j, j < 180 → I a j = nI (N j)) {i v : Nat} {x : Int32} (hx : x = nI v) : ∀ j, j < 180 → zz_up I a i x a j = nI (nup N i v j) := fun j hj => by
  by_cases z : j = i
  · subst z
    rw [up_eq, nup_eq, hx]
  · rw [up_nf z, nup_ne z]
    exact h j hj
def ord (pc x : Nat) : Nat := if x < pc then x else 2 * pc - 1 - x
def hct (pc x p : Nat) : Nat := (if p < x then 1 else 0) + (if 2 * pc - 1 - p < x then 1 else 0)
def roadN (N : Nat → Nat) (p : Nat) : Nat := cN (fun e => decide (N e = p + 1)) 72
def hutN (N : Nat → Nat) (p : Nat) : Nat := cN (fun c => decide (N (72 + c) = p + 1)) 54
def Vn (pc D : Nat) (N : Nat → Nat) : Prop := (∀ e, e < 72 → N e ≤ pc) ∧ (∀ c, c < 54 → N (72 + c) = 0 ∨ (1 ≤ N (72 + c) ∧ N (72 + c) ≤ pc) ∨ (9 ≤ N (72 + c) ∧ N (72 + c) ≤ pc + 8)) ∧ (∀ g, g < 5 → N (126 + g) + N (131 + g) + N (136 + g) + N (141 + g) + N (146 + g) = 19) ∧ (∀ j, 151 ≤ j → j < 176 → N j ≤ D) ∧ (∀ j, 176 ≤ j → j < 180 → N j ≤ 100) ∧ (∀ p, p < 4 → roadN N p ≤ 15)
def Vsu (pc f t x : Nat) (N : Nat → Nat) (s : Nat → Int32) : Prop := (f = 1 → x < 2 * pc ∧ t = ord pc x) ∧ (f = 2 → 1 ≤ x ∧ x ≤ 2 * pc ∧ t = ord pc (x - 1) ∧ ∃ c, c < 54 ∧ s 192 = nI c) ∧ (f ≤ 2 → (∀ p, p < pc → hutN N p ≤ hct pc x p ∧ roadN N p ≤ hct pc (if f = 2 then x - 1 else x) p) ∧ (∀ g, g < 5 → 19 ≤ N (146 + g) + 3 * (x - pc)))
def Vfl (pc f t D x : Nat) (s : Nat → Int32) : Prop := s 180 = nI f ∧ 1 ≤ f ∧ f ≤ 8 ∧ s 181 = nI t ∧ t < pc ∧ s 183 = nI D ∧ D ≤ 16 ∧ (s 184 = 0 ∨ s 184 = 1) ∧ (s 186 = -1 ∨ ∃ q, q < pc ∧ s 186 = nI q) ∧ (s 189 = -1 ∨ ∃ a, a < pc ∧ s 189 = nI a) ∧ s 190 = (if f = 8 then nI t else -1) ∧ s 191 = nI x ∧ x ≤ 8
def Vaw (pc : Nat) (s : Nat → Int32) : Prop := awM (fun _ => s) pc = s 189
def Vpt (f t : Nat) (tg : Int32) (s : Nat → Int32) : Prop := 3 ≤ f → f ≤ 7 → ¬ tg ≤ ptm (fun _ => s) t
def Vst (pc : Nat) (tg : Int32) (s : Nat → Int32) : Prop := ∃ (N : Nat → Nat) (f t D x : Nat), (∀ j, j < 180 → s j = nI (N j)) ∧ Vn pc D N ∧ Vfl pc f t D x s ∧ Vsu pc f t x N s ∧ Vaw pc s ∧ Vpt f t tg s
def L0 (s : Nat → Int32) : Prop := (∀ j, j < 180 → s j = nI (if 146 ≤ j ∧ j < 151 then 19 else 0)) ∧ s 180 = 0 ∧ s 181 = -1 ∧ s 182 = -1 ∧ s 183 = 0 ∧ s 184 = 0 ∧ s 185 = 0 ∧ s 186 = -1 ∧ s 187 = 0 ∧ s 188 = 0 ∧ s 189 = -1 ∧ s 190 = -1 ∧ s 191 = 0 ∧ s 192 = 0
def Hxs (I : Nat → Nat → Int32) (gd nm : Nat → Nat) : Prop := ∀ q, q < 19 → I 6 q = nI (gd q) ∧ gd q ≤ 5 ∧ I 31 q = nI (gd q) ∧ I 7 q = I 32 q ∧ I 7 q = nI (nm q) ∧ ((gd q = 5 ∧ nm q = 0) ∨ (gd q < 5 ∧ 2 ≤ nm q ∧ nm q ≤ 12))
def Rel (I : Nat → Nat → Int32) (y : Int64) : Prop := Tb I ∧ Tm I ∧ (∃ gd nm, Hxs I gd nm) ∧ (∃ P pe pk, Prt I P pe pk) ∧ (∀ k, k < 16 → I 35 k = nI (dkN y k)) ∧ (I 5 9 = 0 ∨ I 5 9 = 1) ∧ I 23 3 = I 5 9 ∧ I 23 16 = I 5 6 ∧ (∃ pc, I 5 5 = nI pc ∧ I 23 15 = nI pc ∧ pc ≤ 4 ∧ Cst I 9 (I 24) ∧ (((pc = 0 ∧ I 9 2 = 0) ∧ I 5 9 = 0 ∧ L0 (I 24)) ∨ (2 ≤ pc ∧ Vst pc (I 5 6) (I 24) ∧ (I 5 9 = 1 → Cst I 16 (I 25) ∧ Vst pc (I 5 6) (I 25)))))
section SS1
variable {I X : Nat → Nat → Int32} {s : Nat → Int32} {t pc : Nat} {y : Int64}
theorem Cst.cong {a : Nat} {s s' : Nat → Int32} (h : Cst I a s) (h1 : ∀ b j, a ≤ b → b ≤ a + 6 → X b j = I b j) (h2 : ∀ j, s' j = s j) : Cst X a s' := by
  have e : s' = s := funext h2
  subst e
  obtain ⟨g1, g2, g3, g4, g5, g6, g7, g8, g9, g10, g11, g12, g13, g14, g15, g16, g17, g18, g19⟩ := h
  refine ⟨fun e he => ?_, fun e he => ?_, fun e he => ?_, fun e he => ?_, fun e he => ?_, fun e he => ?_, ?_, ?_, ?_, ?_, ?_, ?_, ?_, ?_, ?_, fun z => ?_, fun z => ?_, fun z => ?_, fun z => ?_⟩
  · rw [h1 _ _ (by omega) (by omega)]; exact g1 e he
  · rw [h1 _ _ (by omega) (by omega)]; exact g2 e he
  · rw [h1 _ _ (by omega) (by omega)]; exact g3 e he
  · rw [h1 _ _ (by omega) (by omega)]; exact g4 e he
  · rw [h1 _ _ (by omega) (by omega)]; exact g5 e he
  · rw [h1 _ _ (by omega) (by omega)]; exact g6 e he
  · rw [h1 _ _ (by omega) (by omega)]; exact g7
  · rw [h1 _ _ (by omega) (by omega)]; exact g8
  · rw [h1 _ _ (by omega) (by omega)]; exact g9
  · rw [h1 _ _ (by omega) (by omega)]; exact g10
  · rw [h1 _ _ (by omega) (by omega)]; exact g11
  · rw [h1 _ _ (by omega) (by omega)]; exact g12
  · rw [h1 _ _ (by omega) (by omega)]; exact g13
  · rw [h1 _ _ (by omega) (by omega)]; exact g14
  · rw [h1 _ _ (by omega) (by omega)]; exact g15
  · rw [h1 _ _ (by omega) (by omega)]; exact g16 z
  · rw [h1 _ _ (by omega) (by omega)]; exact g17 z
  · rw [h1 _ _ (by omega) (by omega)]; exact g18 z
  · rw [h1 _ _ (by omega) (by omega)]; exact g19 z
theorem Tb.cong (h : Tb I) (h1 : ∀ b j, b ≤ 4 → X b j = I b j) : Tb X := ⟨fun j => by rw [h1 _ _ (by omega)]; exact h.1 j, fun j => by rw [h1 _ _ (by omega)]; exact h.2.1 j, fun j => by rw [h1 _ _ (by omega)]; exact h.2.2.1 j, fun j => by rw [h1 _ _ (by omega)]; exact h.2.2.2 j⟩
theorem Tm.cong (h : Tm I) (h1 : ∀ b j, 28 ≤ b → b ≤ 36 → X b j = I b j) : Tm X := ⟨fun j hj => by rw [h1 _ _ (by omega) (by omega)]; exact h.1 j hj, fun j hj => by rw [h1 _ _ (by omega) (by omega)]; exact h.2.1 j hj, fun j hj => by rw [h1 _ _ (by omega) (by omega)]; exact h.2.2.1 j hj, fun j => by rw [h1 _ _ (by omega) (by omega)]; exact h.2.2.2 j⟩
theorem Hxs.cong {gd nm : Nat → Nat} (h : Hxs I gd nm) (h1 : ∀ b j, (b = 6 ∨ b = 7 ∨ b = 31 ∨ b = 32) → X b j = I b j) : Hxs X gd nm := fun q hq => by
  obtain ⟨g1, g2, g3, g4, g5, g6⟩ := h q hq
  refine ⟨?_, g2, ?_, ?_, ?_, g6⟩
  · rw [h1 _ _ (by omega), g1]
  · rw [h1 _ _ (by omega), g3]
  · rw [h1 _ _ (by omega), h1 _ _ (by omega), g4]
  · rw [h1 _ _ (by omega), g5]
theorem Prt.cong {P : Nat} {pe pk : Nat → Nat} (h : Prt I P pe pk) (h1 : ∀ b j, (b = 8 ∨ b = 33 ∨ b = 34) → X b j = I b j) (h2 : X 5 3 = I 5 3) (h3 : X 23 11 = I 23 11) : Prt X P pe pk := by
  obtain ⟨g1, g2, g3, g4, g5, g6⟩ := h
  refine ⟨by rw [h2, g1], by rw [h3, g2], g3, fun k hk => ?_, fun k c hk hc hi => ?_, fun c hc hi => ?_⟩
  · rw [h1 _ _ (by omega), h1 _ _ (by omega)]
    exact g4 k hk
  · rw [h1 _ _ (by omega)]
    exact g5 k c hk hc hi
  · rw [h1 _ _ (by omega)]
    exact g6 c hc hi
theorem Rel.cong (h : Rel I y) (h1 : ∀ b j, b < 39 → ¬ (b = 23 ∧ j = 0) → X b j = I b j) : Rel X y := by
  obtain ⟨g1, g2, ⟨gd, nm, g3⟩, ⟨P, pe, pk, g4⟩, g5, g6, g7, g8, pc, g9, g10, g11, g12, g13⟩ := h
  have e : ∀ j, X 24 j = I 24 j := fun j => h1 24 j (by omega) (by omega)
  have e24 : X 24 = I 24 := funext e
  have e25 : X 25 = I 25 := funext fun j => h1 25 j (by omega) (by omega)
  refine ⟨g1.cong (fun b j hb => h1 b j (by omega) (by omega)), g2.cong (fun b j hb hb2 => h1 b j (by omega) (by omega)), ⟨gd, nm, g3.cong (fun b j hb => h1 b j (by omega) (by omega))⟩, ⟨P, pe, pk, g4.cong (fun b j hb => h1 b j (by omega) (by omega)) (h1 _ _ (by omega) (by omega)) (h1 _ _ (by omega) (by omega))⟩, fun k hk => by rw [h1 _ _ (by omega) (by omega)]; exact g5 k hk, by rw [h1 _ _ (by omega) (by omega)]; exact g6, by rw [h1 _ _ (by omega) (by omega), h1 _ _ (by omega) (by omega)]; exact g7, by rw [h1 _ _ (by omega) (by omega), h1 _ _ (by omega) (by omega)]; exact g8, pc, by rw [h1 _ _ (by omega) (by omega)]; exact g9, by rw [h1 _ _ (by omega) (by omega)]; exact g10, g11, g12.cong (fun b j hb hb2 => h1 b j (by omega) (by omega)) e, ?_⟩
  rw [h1 5 9 (by omega) (by omega), h1 5 6 (by omega) (by omega), h1 9 2 (by omega) (by omega), e24, e25]
  rcases g13 with z | ⟨z1, z2, z3⟩
  · exact Or.inl z
  · exact Or.inr ⟨z1, z2, fun w => ⟨(z3 w).1.cong (fun b j hb hb2 => h1 b j (by omega) (by omega)) (fun _ => rfl), (z3 w).2⟩⟩
theorem Rel.thr (h : Rel I y) (c : Int32) : Rel (zz_up I 23 0 c) y := h.cong (fun b j _ hb => by
  by_cases z : b = 23
  · exact up_nf (fun w => hb ⟨z, w⟩)
  · exact up_ne z)
end SS1
