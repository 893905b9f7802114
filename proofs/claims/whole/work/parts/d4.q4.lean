section Q4
variable {d n : Nat} {I : Nat → Nat → Int32} {J : Nat → Nat → Int64} {P : Nat → Nat → Value}
theorem c0 (hI : ∀ b j, 5 ≤ b → I b j = 0) (hJ : ∀ b j, J b j = 0) (hP : ∀ b f, P b f = .null) : ∃ X f, zz_Call zz_prog (d + 5) 0 [.ref 5] (zz_hm n 6 I J P) = some (.inl none, f, zz_hm n 23 X J (zz_up (zz_up (zz_up (zz_up (zz_up (zz_up (zz_up (zz_up (zz_up (zz_up (zz_up (zz_up (zz_up (zz_up (zz_up (zz_up (zz_up P 5 0 (.ref 6)) 5 1 (.ref 7)) 5 2 (.ref 8)) 9 12 (.ref 10)) 9 13 (.ref 11)) 9 14 (.ref 12)) 9 15 (.ref 13)) 9 16 (.ref 14)) 9 17 (.ref 15)) 5 7 (.ref 9)) 16 12 (.ref 17)) 16 13 (.ref 18)) 16 14 (.ref 19)) 16 15 (.ref 20)) 16 16 (.ref 21)) 16 17 (.ref 22)) 5 8 (.ref 16))) ∧ (∀ q, q < 19 → X 6 q = 5) ∧ (∀ q, X 7 q = 0) ∧ (∀ q, q < 54 → X 8 q = -1) ∧ (∀ f, X 5 f = 0) ∧ St0 X 9 ∧ St0 X 16 ∧ ∀ b j, b < 5 ∨ 23 ≤ b → X b j = I b j := by
  have hA : ∀ q, 5 ≤ q → zz_all I q 0 = I := fun q hq => zz_all_id (fun j => hI q j hq)
  have hAJ : ∀ q, zz_all J q 0 = J := fun q => zz_all_id (fun j => hJ q j)
  have hAP : ∀ q, zz_all P q .null = P := fun q => zz_all_id (fun j => hP q j)
  obtain ⟨X1, f1, h1, p1, q1⟩ := c178g (d := d + 3) (n := n) (m := 9) (J := J) (P := (zz_up (zz_up (zz_up P 5 0 (.ref 6)) 5 1 (.ref 7)) 5 2 (.ref 8))) (I := I) (a := 6) (ln := 19) rfl (by omega) 5
  obtain ⟨X2, f2, h2, p2, q2⟩ := c178g (d := d + 3) (n := n) (m := 9) (J := J) (P := (zz_up (zz_up (zz_up P 5 0 (.ref 6)) 5 1 (.ref 7)) 5 2 (.ref 8))) (I := X1) (a := 8) (ln := 54) rfl (by omega) (-1)
  have e2 : ∀ b j, ¬ b = 6 → ¬ b = 8 → X2 b j = I b j := fun b j hb hc => by rw [q2 b j hc, q1 b j hb]
  have a9 : zz_all X2 9 0 = X2 := zz_all_id (fun j => by rw [e2 _ _ (by omega) (by omega), hI _ _ (by omega)])
  obtain ⟨X3, f3, h3, p3, q3⟩ := c155a (d := d + 1) (n := n) (J := J) (P := (zz_up (zz_up (zz_up P 5 0 (.ref 6)) 5 1 (.ref 7)) 5 2 (.ref 8))) (I := X2) (fun b j hb => by rw [e2 _ _ (by omega) (by omega), hI _ _ (by omega)])
  have a16 : zz_all X3 16 0 = X3 := zz_all_id (fun j => by rw [q3 _ _ (by omega), e2 _ _ (by omega) (by omega), hI _ _ (by omega)])
  obtain ⟨X4, f4, h4, p4, q4⟩ := c155b (d := d + 1) (n := n) (J := J) (P := (zz_up (zz_up (zz_up (zz_up (zz_up (zz_up (zz_up (zz_up (zz_up (zz_up P 5 0 (.ref 6)) 5 1 (.ref 7)) 5 2 (.ref 8)) 9 12 (.ref 10)) 9 13 (.ref 11)) 9 14 (.ref 12)) 9 15 (.ref 13)) 9 16 (.ref 14)) 9 17 (.ref 15)) 5 7 (.ref 9))) (I := X3) (fun b j hb => by rw [q3 _ _ (by omega), e2 _ _ (by omega) (by omega), hI _ _ (by omega)])
  refine ⟨X4, false, ?_, fun q hq => ?_, fun q => ?_, fun q hq => ?_, fun f => ?_, ?_, p4, fun b j hb => ?_⟩
  · simp (disch := first | omega | decide) only [e0, s0_0, s0_1, s0_4, s0_5, s0_12, s0_13, s0_20, s0_21, s0_28, s0_32, s0_33, s0_36, s0_40, s0_41, s0_44, s0_48, s0_55, s0_59, s0_66, g0_7, g0_9, g0_15, g0_17, g0_23, g0_25, g0_29, g0_37, g0_45, g0_49, g0_52, g0_56, g0_60, g0_63, zz_ck_t, zz_sl_n, zz_sl_i, zz_sl_r, zz_ret_l, zz_ret_r, zz_ret_if, zz_sw_cons, zz_sw_nil, ↓zz_ck_b, ↓zz_ck_0, ↓zz_ck_1, Option.toList, List.cons_append, List.nil_append, List.append_nil, Bool.and_true, Bool.true_and, Bool.and_false, Bool.false_and, Bool.and_self, ite_not, zz_all_up, hA, hAJ, hAP, up_eq, up_nf, up_ne, h1, h2, a9, a16, h3, h4]
  · rw [q4 _ _ (by omega), q3 _ _ (by omega), q2 _ _ (by omega), p1 q hq]
  · rw [q4 _ _ (by omega), q3 _ _ (by omega), e2 _ _ (by omega) (by omega), hI _ _ (by omega)]
  · rw [q4 _ _ (by omega), q3 _ _ (by omega), p2 q hq]
  · rw [q4 _ _ (by omega), q3 _ _ (by omega), e2 _ _ (by omega) (by omega), hI _ _ (by omega)]
  · obtain ⟨g1, g2, g3, g4, g5⟩ := p3
    exact ⟨fun f hf => by rw [q4 _ _ (by omega)]; exact g1 f hf, fun e he => by rw [q4 _ _ (by omega)]; exact g2 e he, fun c hc => by rw [q4 _ _ (by omega)]; exact g3 c hc, fun j => by rw [q4 _ _ (by omega)]; exact g4 j, fun b j hb hb2 => by rw [q4 _ _ (by omega)]; exact g5 b j hb hb2⟩
  · rw [q4 _ _ (by omega), q3 _ _ (by omega), e2 _ _ (by omega) (by omega)]
end Q4
