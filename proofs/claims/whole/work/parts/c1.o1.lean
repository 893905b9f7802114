def ThC (M : Nat) (A : List Value) (I : Nat → Nat → Int32) (e : Nat) : Prop := ∀ d n J ex, zz_Call zz_prog (d + 20) M (.ref 5 :: A) (zz_hp n I J ex) = some (.inr (zz_exa ex), false, zz_hp n I J (ex ++ [(4, e)]))
def OkC (M : Nat) (A : List Value) (I : Nat → Nat → Int32) (y : Int64) (I1 : Nat → Nat → Int32) (v : Option Value) : Prop := ∀ d n J ex, J 5 4 = y → ∃ f, zz_Call zz_prog (d + 20) M (.ref 5 :: A) (zz_hp n I J ex) = some (.inl v, f, zz_hp n I1 J ex)
def OkM (M : Nat) (A : List Value) (I : Nat → Nat → Int32) (y : Int64) (v : Option Value) (c : Int32) : Prop := ∀ d n J ex, ∃ X f, zz_Call zz_prog (d + 7) M (.ref 23 :: A) (zz_hp n I J ex) = some (.inl v, f, zz_hp n X J ex) ∧ X 23 0 = c ∧ Rel X y
def Opr (Mc : Nat) (Ac : List Value) (Mm : Nat) (Am : List Value) (cd : Nat → Int32) : Prop := ∀ I y, Rel I y → (∃ I1 v, OkC Mc Ac I y I1 v ∧ OkM Mm Am I1 y v 0) ∨ (∃ e, ThC Mc Ac I e ∧ ¬ cd e = 0 ∧ ∃ w, OkM Mm Am I y w (cd e))
section O1
variable {d n t pc s : Nat} {I X : Nat → Nat → Int32} {J : Nat → Nat → Int64} {ex : List (Nat × Nat)} {y : Int64}
theorem OkM.ref' {M : Nat} {A : List Value} {w : Option Value} {c : Int32} (hR : Rel I y) (h : ∀ d n J ex, ∃ f, zz_Call zz_prog (d + 7) M (.ref 23 :: A) (zz_hp n I J ex) = some (.inl w, f, zz_hp n (zz_up I 23 0 c) J ex)) : OkM M A I y w c := fun d n J ex => by
  obtain ⟨f, h1⟩ := h d n J ex
  exact ⟨_, f, h1, up_eq, hR.thr c⟩
theorem Rel.plc (h : Rel I y) : ∃ pc, I 5 5 = nI pc ∧ I 23 15 = nI pc ∧ pc ≤ 4 ∧ Cst I 9 (I 24) := by
  obtain ⟨-, -, -, -, -, -, -, -, pc, g9, g10, g11, g12, -⟩ := h
  exact ⟨pc, g9, g10, g11, g12⟩
theorem Rel.eqP (h : Rel I y) (p : Int32) : isP I p = isPm I p := by
  obtain ⟨pc, g1, g2, -, -⟩ := h.plc
  show (decide (0 ≤ p) && decide (p < I 5 5)) = (decide (0 ≤ p) && decide (p < I 23 15))
  rw [g1, g2]
theorem isP_nat (hp : I 5 5 = nI pc) (hpc : pc ≤ 4) {p : Int32} (h : isP I p = true) : ∃ q, q < pc ∧ p = nI q := by
  unfold isP at h
  rw [Bool.and_eq_true, decide_eq_true_eq, decide_eq_true_eq, hp] at h
  obtain ⟨h1, h2⟩ := h
  rw [Int32.le_iff_toInt_le, show (0 : Int32).toInt = 0 from rfl] at h1
  rw [Int32.lt_iff_toInt_lt, nI_toInt (by omega)] at h2
  refine ⟨p.toInt.toNat, by omega, ?_⟩
  apply Int32.toInt_inj.mp
  rw [nI_toInt (by omega)]
  omega
theorem isG_nat {p : Int32} (h : isG p = true) : ∃ q, q < 5 ∧ p = nI q := by
  unfold isG at h
  rw [Bool.and_eq_true, decide_eq_true_eq, decide_eq_true_eq] at h
  obtain ⟨h1, h2⟩ := h
  rw [Int32.le_iff_toInt_le, show (0 : Int32).toInt = 0 from rfl] at h1
  rw [Int32.lt_iff_toInt_lt, show (5 : Int32).toInt = 5 from rfl] at h2
  refine ⟨p.toInt.toNat, by omega, ?_⟩
  apply Int32.toInt_inj.mp
  rw [nI_toInt (by omega)]
  omega
theorem rng_nat {p : Int32} {m : Int32} {k : Nat} (hm : m.toInt = (k : Int)) (h1 : 0 ≤ p) (h2 : p ≤ m) (hk : k < 1000) : ∃ q, q ≤ k ∧ p = nI q := by
  rw [Int32.le_iff_toInt_le, show (0 : Int32).toInt = 0 from rfl] at h1
  rw [Int32.le_iff_toInt_le, hm] at h2
  refine ⟨p.toInt.toNat, by omega, ?_⟩
  apply Int32.toInt_inj.mp
  rw [nI_toInt (by omega)]
  omega
theorem op_phase : Opr 16 [] 144 [] (fun _ => 0) := fun I y hR => by
  obtain ⟨pc, -, -, -, hC⟩ := hR.plc
  refine Or.inl ⟨I, some (.int (I 24 180)), fun d n J ex _ => ⟨true, ?_⟩, OkM.ref' hR (fun d n J ex => ⟨false, c144 (d := d + 6)⟩)⟩
  rw [c16 (d := d + 19), hC.ph]
theorem op_turn : Opr 17 [] 145 [] (fun _ => 0) := fun I y hR => by
  obtain ⟨pc, -, -, -, hC⟩ := hR.plc
  refine Or.inl ⟨I, some (.int (I 24 181)), fun d n J ex _ => ⟨true, ?_⟩, OkM.ref' hR (fun d n J ex => ⟨false, c145 (d := d + 6)⟩)⟩
  rw [c17 (d := d + 19), hC.on]
theorem op_award : Opr 23 [] 151 [] (fun _ => 0) := fun I y hR => by
  obtain ⟨pc, -, -, -, hC⟩ := hR.plc
  refine Or.inl ⟨I, some (.int (I 24 189)), fun d n J ex _ => ⟨true, ?_⟩, OkM.ref' hR (fun d n J ex => ⟨false, c151 (d := d + 6)⟩)⟩
  rw [c23 (d := d + 19), hC.aw]
theorem Rel.win (hR : Rel I y) : (if I 24 180 = 8 then I 24 181 else -1) = I 24 190 := by
  obtain ⟨-, -, -, -, -, -, -, -, pc, g9, g10, g11, g12, g13⟩ := hR
  rcases g13 with ⟨-, -, z⟩ | ⟨-, ⟨N, f, t, D, x, -, -, z, -⟩, -⟩
  · rw [z.2.1, z.2.2.2.2.2.2.2.2.2.2.2.1, if_neg (by decide)]
  · obtain ⟨f1, f2, f3, f4, f5, f6, f7, f8, f9, f10, f11, f12, f13⟩ := z
    rw [f1, f4, f11]
    have : (nI f = 8) = (f = 8) := propext (zz_nI_eq (b := 8) (by omega) (by decide))
    simp only [this]
theorem op_winner : Opr 18 [] 146 [] (fun _ => 0) := fun I y hR => by
  obtain ⟨pc, -, -, -, hC⟩ := hR.plc
  refine Or.inl ⟨I, some (.int (I 24 190)), fun d n J ex _ => ⟨true, ?_⟩, OkM.ref' hR (fun d n J ex => ⟨false, c146 (d := d + 6)⟩)⟩
  rw [c18 (d := d + 19), hC.ph, hC.on, hR.win]
theorem op_goods (p g : Int32) : Opr 19 [.int p, .int g] 147 [.int p, .int g] (fun e => if e = 6 then 1 else 0) := fun I y hR => by
  obtain ⟨pc, h5, h15, hpc, hC⟩ := hR.plc
  by_cases hn : (¬ p = -1 ∧ isP I p = false) ∨ isG g = false
  · refine Or.inr ⟨6, fun d n J ex => c19e (d := d + 18) p g hn, by decide, _, OkM.ref' hR (fun d n J ex => ⟨false, c147n (d := d + 5) p g ?_⟩)⟩
    rw [← hR.eqP]
    exact hn
  · have hg : isG g = true := by
      cases z : isG g with
      | true => rfl
      | false => exact absurd (Or.inr z) hn
    obtain ⟨q, hq, rfl⟩ := isG_nat hg
    by_cases hp : p = -1
    · subst hp
      refine Or.inl ⟨I, some (.int (I 24 (146 + q))), fun d n J ex _ => ⟨true, ?_⟩, OkM.ref' hR (fun d n J ex => ⟨false, c147a (d := d + 5) q hq⟩)⟩
      rw [c19a (d := d + 18) q hq, hC.hd (by omega), show 126 + (4 * 5 + q) = 146 + q by omega]
    · have hp2 : isP I p = true := by
        cases z : isP I p with
        | true => rfl
        | false => exact absurd (Or.inl ⟨hp, z⟩) hn
      obtain ⟨r, hr, rfl⟩ := isP_nat h5 hpc hp2
      refine Or.inl ⟨I, some (.int (I 24 (126 + 5 * r + q))), fun d n J ex _ => ⟨true, ?_⟩, OkM.ref' hR (fun d n J ex => ⟨false, c147b (d := d + 5) h15 hpc r q hr hq⟩)⟩
      rw [c19b (d := d + 18) h5 hpc r q hr hq, hC.hd (by omega), show 126 + (r * 5 + q) = 126 + 5 * r + q by omega]
theorem op_cards (p k : Int32) : Opr 20 [.int p, .int k] 148 [.int p, .int k] (fun e => if e = 6 then 1 else 0) := fun I y hR => by
  obtain ⟨pc, h5, h15, hpc, hC⟩ := hR.plc
  by_cases hn : isP I p = false ∨ ¬ 0 ≤ k ∨ ¬ k ≤ 4
  · refine Or.inr ⟨6, fun d n J ex => c20e (d := d + 17) p k hn, by decide, _, OkM.ref' hR (fun d n J ex => ⟨false, c148n (d := d + 5) p k ?_⟩)⟩
    rw [← hR.eqP]
    exact hn
  · have hp2 : isP I p = true := by
      cases z : isP I p with
      | true => rfl
      | false => exact absurd (Or.inl z) hn
    have hk0 : 0 ≤ k := Classical.byContradiction fun z => hn (Or.inr (Or.inl z))
    have hk4 : k ≤ 4 := Classical.byContradiction fun z => hn (Or.inr (Or.inr z))
    obtain ⟨r, hr, rfl⟩ := isP_nat h5 hpc hp2
    obtain ⟨q, hq, rfl⟩ := rng_nat (k := 4) rfl hk0 hk4 (by decide)
    refine Or.inl ⟨I, some (.int (I 24 (151 + 5 * r + q))), fun d n J ex _ => ⟨true, ?_⟩, OkM.ref' hR (fun d n J ex => ⟨false, c148a (d := d + 5) h15 hpc r q hr (by omega)⟩)⟩
    rw [c20a (d := d + 17) h5 hpc r q hr (by omega), hC.cd (by omega), show 151 + (r * 5 + q) = 151 + 5 * r + q by omega]
end O1
