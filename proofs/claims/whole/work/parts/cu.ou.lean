def Nx (d n i : Nat) (ex : List (Nat × Nat)) (c : zz_C) : Prop := ∃ (I' : Nat → Nat → Int32) (J' : Nat → Nat → Int64) (ex' : List (Nat × Nat)) (f : Bool) (l5 l6 : Option Value), zz_Run zz_prog (d + 21) 179 c = zz_Run zz_prog (d + 21) 179 (1529, [some (.ref 0), some (.ref 5), some (.ref 23), some (.ref 44), some (.int (nI i)), l5, l6], [], f, zz_hp n I' J' ex') ∧ Rel I' (J' 5 4) ∧ (ex' = ex ∨ ∃ e, ex' = ex ++ [(4, e)])
theorem zz_ary_0 (n : Nat) : zz_ary n 0 = n := rfl
theorem q10 : ((1 : Int32) = 0) = False := by decide
theorem q20 : ((2 : Int32) = 0) = False := by decide
theorem q30 : ((3 : Int32) = 0) = False := by decide
theorem kd_34 {e : Nat} (h : ¬ (if e = 3 then 1 else if e = 4 then 2 else 0 : Int32) = 0) : e = 3 ∨ e = 4 := by
  by_cases z3 : e = 3
  · exact Or.inl z3
  by_cases z4 : e = 4
  · exact Or.inr (z4)
  rw [if_neg z3, if_neg z4] at h
  exact absurd rfl h
theorem kd_345 {e : Nat} (h : ¬ (if e = 3 then 1 else if e = 4 then 2 else if e = 5 then 3 else 0 : Int32) = 0) : e = 3 ∨ e = 4 ∨ e = 5 := by
  by_cases z3 : e = 3
  · exact Or.inl z3
  by_cases z4 : e = 4
  · exact Or.inr (Or.inl z4)
  by_cases z5 : e = 5
  · exact Or.inr (Or.inr (z5))
  rw [if_neg z3, if_neg z4, if_neg z5] at h
  exact absurd rfl h
theorem kd_435 {e : Nat} (h : ¬ (if e = 4 then 1 else if e = 3 then 2 else if e = 5 then 3 else 0 : Int32) = 0) : e = 4 ∨ e = 3 ∨ e = 5 := by
  by_cases z4 : e = 4
  · exact Or.inl z4
  by_cases z3 : e = 3
  · exact Or.inr (Or.inl z3)
  by_cases z5 : e = 5
  · exact Or.inr (Or.inr (z5))
  rw [if_neg z4, if_neg z3, if_neg z5] at h
  exact absurd rfl h
theorem kd_43 {e : Nat} (h : ¬ (if e = 4 then 1 else if e = 3 then 2 else 0 : Int32) = 0) : e = 4 ∨ e = 3 := by
  by_cases z4 : e = 4
  · exact Or.inl z4
  by_cases z3 : e = 3
  · exact Or.inr (z3)
  rw [if_neg z4, if_neg z3] at h
  exact absurd rfl h
theorem kd_3 {e : Nat} (h : ¬ (if e = 3 then 1 else 0 : Int32) = 0) : e = 3 := by
  by_cases z3 : e = 3
  · exact z3
  rw [if_neg z3] at h
  exact absurd rfl h
theorem kd_6 {e : Nat} (h : ¬ (if e = 6 then 1 else 0 : Int32) = 0) : e = 6 := by
  by_cases z6 : e = 6
  · exact z6
  rw [if_neg z6] at h
  exact absurd rfl h
theorem kd_64 {e : Nat} (h : ¬ (if e = 6 then 1 else if e = 4 then 2 else 0 : Int32) = 0) : e = 6 ∨ e = 4 := by
  by_cases z6 : e = 6
  · exact Or.inl z6
  by_cases z4 : e = 4
  · exact Or.inr (z4)
  rw [if_neg z6, if_neg z4] at h
  exact absurd rfl h
section OU
variable {d n i : Nat} {I : Nat → Nat → Int32} {J : Nat → Nat → Int64} {ex : List (Nat × Nat)} {f : Bool} {l5 l6 : Option Value}
theorem l156 (hR : Rel I (J 5 4)) (hi : i + 4 ≤ n) (hn : n ≤ 2048) : Nx d n i ex (156, [some (.ref 0), some (.ref 5), some (.ref 23), some (.ref 44), some (.int (nI i)), l5, l6], [], f, zz_hp n I J ex) := by
  rcases op_hex (I 0 (i + 1)) (I 0 (i + 2)) (I 0 (i + 3)) I _ hR with ⟨I1, v, hC, hM⟩ | ⟨e, hT, hne, w, hM⟩
  · obtain ⟨f1, hc⟩ := hC d n J ex rfl
    have hv := zz_Call_rt (b := false) p1 rfl hc
    obtain rfl := hv
    have z0 := call_0 hc
    have hh : zz_Call zz_prog (d + 21) 157 [.ref 5, .int (I 0 (i + 1)), .int (I 0 (i + 2)), .int (I 0 (i + 3))] (zz_hp n I J ex) = some (.inl (some (.int 0)), f1, zz_hp n I1 J ex) := h157o _ _ _ hc
    obtain ⟨X, f2, hm', g0, hRX⟩ := hM (d + 14) n J ex
    have hm : zz_Call zz_prog (d + 21) 96 [.ref 23, .int (I 0 (i + 1)), .int (I 0 (i + 2)), .int (I 0 (i + 3))] (zz_hp n I1 J ex) = some (.inl none, f2, zz_hp n X J ex) := hm'
    have h89 := c89 (d := d + 20) (n := n) (I := X) (J := J) (ex := ex)
    rw [g0] at h89
    refine ⟨X, J, ex, ?_, ?_, ?_, ?_, hRX, Or.inl rfl⟩
    rotate_left 3
    · simp (disch := first | omega | decide | assumption | (refine hcN_lt ?_; omega) | (refine ecN_lt ?_; omega) | (refine hcN_lt2 ?_; omega) | (refine ecN_lt2 ?_; omega)) only [s179_156, s179_157, s179_158, s179_160, s179_161, s179_162, s179_163, s179_164, s179_166, s179_167, s179_168, s179_169, s179_170, s179_172, s179_173, s179_174, s179_175, s179_178, s179_180, s179_181, s179_182, s179_184, s179_185, s179_186, s179_187, s179_188, s179_190, s179_191, s179_192, s179_193, s179_194, s179_196, s179_197, s179_198, s179_199, s179_202, s179_203, s179_206, s179_208, s179_211, s179_212, s179_213, zz_ck_t, zz_sl_n, zz_sl_i, zz_sl_r, zz_ret_l, zz_ret_r, zz_ret_if, zz_sw_cons, zz_sw_nil, ↓zz_ck_b, ↓zz_ck_0, ↓zz_ck_1, Option.toList, List.cons_append, List.nil_append, List.append_nil, Bool.and_true, Bool.true_and, Bool.and_false, Bool.false_and, Bool.and_self, ite_not, zz_ary_0, zz_na1, zz_na2, zz_na3, zz_nI_ix, zz_nI_in, up_eq, lg_cc, q10, q20, q30, eq_self, ↓reduceIte, not_true_eq_false, not_false_eq_true, hh, z0, hm, h89]
      exact rfl
  · have he := kd_34 hne
    rcases he with rfl | rfl
    · have hh : zz_Call zz_prog (d + 21) 157 [.ref 5, .int (I 0 (i + 1)), .int (I 0 (i + 2)), .int (I 0 (i + 3))] (zz_hp n I J ex) = some (.inl (some (.int 1)), false, zz_hp n I J (ex ++ [(4, 3)])) := h157t3 _ _ _ (hT d n J ex)
      obtain ⟨X, f2, hm', g0', hRX⟩ := hM (d + 14) n J (ex ++ [(4, 3)])
      have hm : zz_Call zz_prog (d + 21) 96 [.ref 23, .int (I 0 (i + 1)), .int (I 0 (i + 2)), .int (I 0 (i + 3))] (zz_hp n I J (ex ++ [(4, 3)])) = some (.inl w, f2, zz_hp n X J (ex ++ [(4, 3)])) := hm'
      have g0 : X 23 0 = 1 := g0'
      have hv := zz_Call_rt (b := false) p96 rfl hm
      obtain rfl := hv
      have h89 := c89 (d := d + 20) (n := n) (I := X) (J := J) (ex := ex ++ [(4, 3)])
      rw [g0] at h89
      refine ⟨X, J, ex ++ [(4, 3)], ?_, ?_, ?_, ?_, hRX, Or.inr ⟨3, rfl⟩⟩
      rotate_left 3
      · simp (disch := first | omega | decide | assumption | (refine hcN_lt ?_; omega) | (refine ecN_lt ?_; omega) | (refine hcN_lt2 ?_; omega) | (refine ecN_lt2 ?_; omega)) only [s179_156, s179_157, s179_158, s179_160, s179_161, s179_162, s179_163, s179_164, s179_166, s179_167, s179_168, s179_169, s179_170, s179_172, s179_173, s179_174, s179_175, s179_178, s179_180, s179_181, s179_182, s179_184, s179_185, s179_186, s179_187, s179_188, s179_190, s179_191, s179_192, s179_193, s179_194, s179_196, s179_197, s179_198, s179_199, s179_202, s179_203, s179_206, s179_208, s179_211, s179_212, s179_213, zz_ck_t, zz_sl_n, zz_sl_i, zz_sl_r, zz_ret_l, zz_ret_r, zz_ret_if, zz_sw_cons, zz_sw_nil, ↓zz_ck_b, ↓zz_ck_0, ↓zz_ck_1, Option.toList, List.cons_append, List.nil_append, List.append_nil, Bool.and_true, Bool.true_and, Bool.and_false, Bool.false_and, Bool.and_self, ite_not, zz_ary_0, zz_na1, zz_na2, zz_na3, zz_nI_ix, zz_nI_in, up_eq, lg_cc, q10, q20, q30, eq_self, ↓reduceIte, not_true_eq_false, not_false_eq_true, hh, hm, h89]
        exact rfl
    · have hh : zz_Call zz_prog (d + 21) 157 [.ref 5, .int (I 0 (i + 1)), .int (I 0 (i + 2)), .int (I 0 (i + 3))] (zz_hp n I J ex) = some (.inl (some (.int 2)), false, zz_hp n I J (ex ++ [(4, 4)])) := h157t4 _ _ _ (hT d n J ex)
      obtain ⟨X, f2, hm', g0', hRX⟩ := hM (d + 14) n J (ex ++ [(4, 4)])
      have hm : zz_Call zz_prog (d + 21) 96 [.ref 23, .int (I 0 (i + 1)), .int (I 0 (i + 2)), .int (I 0 (i + 3))] (zz_hp n I J (ex ++ [(4, 4)])) = some (.inl w, f2, zz_hp n X J (ex ++ [(4, 4)])) := hm'
      have g0 : X 23 0 = 2 := g0'
      have hv := zz_Call_rt (b := false) p96 rfl hm
      obtain rfl := hv
      have h89 := c89 (d := d + 20) (n := n) (I := X) (J := J) (ex := ex ++ [(4, 4)])
      rw [g0] at h89
      refine ⟨X, J, ex ++ [(4, 4)], ?_, ?_, ?_, ?_, hRX, Or.inr ⟨4, rfl⟩⟩
      rotate_left 3
      · simp (disch := first | omega | decide | assumption | (refine hcN_lt ?_; omega) | (refine ecN_lt ?_; omega) | (refine hcN_lt2 ?_; omega) | (refine ecN_lt2 ?_; omega)) only [s179_156, s179_157, s179_158, s179_160, s179_161, s179_162, s179_163, s179_164, s179_166, s179_167, s179_168, s179_169, s179_170, s179_172, s179_173, s179_174, s179_175, s179_178, s179_180, s179_181, s179_182, s179_184, s179_185, s179_186, s179_187, s179_188, s179_190, s179_191, s179_192, s179_193, s179_194, s179_196, s179_197, s179_198, s179_199, s179_202, s179_203, s179_206, s179_208, s179_211, s179_212, s179_213, zz_ck_t, zz_sl_n, zz_sl_i, zz_sl_r, zz_ret_l, zz_ret_r, zz_ret_if, zz_sw_cons, zz_sw_nil, ↓zz_ck_b, ↓zz_ck_0, ↓zz_ck_1, Option.toList, List.cons_append, List.nil_append, List.append_nil, Bool.and_true, Bool.true_and, Bool.and_false, Bool.false_and, Bool.and_self, ite_not, zz_ary_0, zz_na1, zz_na2, zz_na3, zz_nI_ix, zz_nI_in, up_eq, lg_cc, q10, q20, q30, eq_self, ↓reduceIte, not_true_eq_false, not_false_eq_true, hh, hm, h89]
        exact rfl
theorem l216 (hR : Rel I (J 5 4)) (hi : i + 4 ≤ n) (hn : n ≤ 2048) : Nx d n i ex (216, [some (.ref 0), some (.ref 5), some (.ref 23), some (.ref 44), some (.int (nI i)), l5, l6], [], f, zz_hp n I J ex) := by
  rcases op_port (I 0 (i + 1)) (I 0 (i + 2)) I _ hR with ⟨I1, v, hC, hM⟩ | ⟨e, hT, hne, w, hM⟩
  · obtain ⟨f1, hc⟩ := hC d n J ex rfl
    have hv := zz_Call_rt (b := true) p2 rfl hc
    obtain ⟨u, rfl⟩ := hv
    have z0 := call_0 hc
    have hh : zz_Call zz_prog (d + 21) 158 [.ref 5, .int (I 0 (i + 1)), .int (I 0 (i + 2)), .ref 44] (zz_hp n I J ex) = some (.inl (some (.int 0)), false, zz_hp n I1 (zz_up J 44 0 u.toInt64) ex) := h158o _ _ hc
    obtain ⟨X, f2, hm', g0, hRX⟩ := hM (d + 14) n (zz_up J 44 0 u.toInt64) ex
    have hm : zz_Call zz_prog (d + 21) 98 [.ref 23, .int (I 0 (i + 1)), .int (I 0 (i + 2))] (zz_hp n I1 (zz_up J 44 0 u.toInt64) ex) = some (.inl (some (.int u)), f2, zz_hp n X (zz_up J 44 0 u.toInt64) ex) := hm'
    have h89 := c89 (d := d + 20) (n := n) (I := X) (J := (zz_up J 44 0 u.toInt64)) (ex := ex)
    rw [g0] at h89
    refine ⟨X, (zz_up J 44 0 u.toInt64), ex, ?_, ?_, ?_, ?_, hRX, Or.inl rfl⟩
    rotate_left 3
    · simp (disch := first | omega | decide | assumption | (refine hcN_lt ?_; omega) | (refine ecN_lt ?_; omega) | (refine hcN_lt2 ?_; omega) | (refine ecN_lt2 ?_; omega)) only [s179_216, s179_217, s179_218, s179_220, s179_221, s179_222, s179_223, s179_224, s179_226, s179_227, s179_228, s179_229, s179_230, s179_233, s179_235, s179_236, s179_237, s179_239, s179_240, s179_241, s179_242, s179_243, s179_245, s179_246, s179_247, s179_248, s179_251, s179_253, s179_254, s179_257, s179_259, s179_262, s179_263, s179_264, s179_266, s179_269, s179_270, s179_271, s179_272, s179_274, s179_275, s179_276, s179_279, s179_280, s179_281, zz_ck_t, zz_sl_n, zz_sl_i, zz_sl_r, zz_ret_l, zz_ret_r, zz_ret_if, zz_sw_cons, zz_sw_nil, ↓zz_ck_b, ↓zz_ck_0, ↓zz_ck_1, Option.toList, List.cons_append, List.nil_append, List.append_nil, Bool.and_true, Bool.true_and, Bool.and_false, Bool.false_and, Bool.and_self, ite_not, zz_ary_0, zz_na1, zz_na2, zz_na3, zz_nI_ix, zz_nI_in, up_eq, lg_cc, q10, q20, q30, eq_self, ↓reduceIte, not_true_eq_false, not_false_eq_true, hh, z0, hm, h89]
      exact rfl
  · have he := kd_345 hne
    rcases he with rfl | rfl | rfl
    · have hh : zz_Call zz_prog (d + 21) 158 [.ref 5, .int (I 0 (i + 1)), .int (I 0 (i + 2)), .ref 44] (zz_hp n I J ex) = some (.inl (some (.int 1)), false, zz_hp n I J (ex ++ [(4, 3)])) := h158t3 _ _ (hT d n J ex)
      obtain ⟨X, f2, hm', g0', hRX⟩ := hM (d + 14) n J (ex ++ [(4, 3)])
      have hm : zz_Call zz_prog (d + 21) 98 [.ref 23, .int (I 0 (i + 1)), .int (I 0 (i + 2))] (zz_hp n I J (ex ++ [(4, 3)])) = some (.inl w, f2, zz_hp n X J (ex ++ [(4, 3)])) := hm'
      have g0 : X 23 0 = 1 := g0'
      have hv := zz_Call_rt (b := true) p98 rfl hm
      obtain ⟨u, rfl⟩ := hv
      have h89 := c89 (d := d + 20) (n := n) (I := X) (J := J) (ex := ex ++ [(4, 3)])
      rw [g0] at h89
      refine ⟨X, J, ex ++ [(4, 3)], ?_, ?_, ?_, ?_, hRX, Or.inr ⟨3, rfl⟩⟩
      rotate_left 3
      · simp (disch := first | omega | decide | assumption | (refine hcN_lt ?_; omega) | (refine ecN_lt ?_; omega) | (refine hcN_lt2 ?_; omega) | (refine ecN_lt2 ?_; omega)) only [s179_216, s179_217, s179_218, s179_220, s179_221, s179_222, s179_223, s179_224, s179_226, s179_227, s179_228, s179_229, s179_230, s179_233, s179_235, s179_236, s179_237, s179_239, s179_240, s179_241, s179_242, s179_243, s179_245, s179_246, s179_247, s179_248, s179_251, s179_253, s179_254, s179_257, s179_259, s179_262, s179_263, s179_264, s179_266, s179_269, s179_270, s179_271, s179_272, s179_274, s179_275, s179_276, s179_279, s179_280, s179_281, zz_ck_t, zz_sl_n, zz_sl_i, zz_sl_r, zz_ret_l, zz_ret_r, zz_ret_if, zz_sw_cons, zz_sw_nil, ↓zz_ck_b, ↓zz_ck_0, ↓zz_ck_1, Option.toList, List.cons_append, List.nil_append, List.append_nil, Bool.and_true, Bool.true_and, Bool.and_false, Bool.false_and, Bool.and_self, ite_not, zz_ary_0, zz_na1, zz_na2, zz_na3, zz_nI_ix, zz_nI_in, up_eq, lg_cc, q10, q20, q30, eq_self, ↓reduceIte, not_true_eq_false, not_false_eq_true, hh, hm, h89]
        exact rfl
    · have hh : zz_Call zz_prog (d + 21) 158 [.ref 5, .int (I 0 (i + 1)), .int (I 0 (i + 2)), .ref 44] (zz_hp n I J ex) = some (.inl (some (.int 2)), false, zz_hp n I J (ex ++ [(4, 4)])) := h158t4 _ _ (hT d n J ex)
      obtain ⟨X, f2, hm', g0', hRX⟩ := hM (d + 14) n J (ex ++ [(4, 4)])
      have hm : zz_Call zz_prog (d + 21) 98 [.ref 23, .int (I 0 (i + 1)), .int (I 0 (i + 2))] (zz_hp n I J (ex ++ [(4, 4)])) = some (.inl w, f2, zz_hp n X J (ex ++ [(4, 4)])) := hm'
      have g0 : X 23 0 = 2 := g0'
      have hv := zz_Call_rt (b := true) p98 rfl hm
      obtain ⟨u, rfl⟩ := hv
      have h89 := c89 (d := d + 20) (n := n) (I := X) (J := J) (ex := ex ++ [(4, 4)])
      rw [g0] at h89
      refine ⟨X, J, ex ++ [(4, 4)], ?_, ?_, ?_, ?_, hRX, Or.inr ⟨4, rfl⟩⟩
      rotate_left 3
      · simp (disch := first | omega | decide | assumption | (refine hcN_lt ?_; omega) | (refine ecN_lt ?_; omega) | (refine hcN_lt2 ?_; omega) | (refine ecN_lt2 ?_; omega)) only [s179_216, s179_217, s179_218, s179_220, s179_221, s179_222, s179_223, s179_224, s179_226, s179_227, s179_228, s179_229, s179_230, s179_233, s179_235, s179_236, s179_237, s179_239, s179_240, s179_241, s179_242, s179_243, s179_245, s179_246, s179_247, s179_248, s179_251, s179_253, s179_254, s179_257, s179_259, s179_262, s179_263, s179_264, s179_266, s179_269, s179_270, s179_271, s179_272, s179_274, s179_275, s179_276, s179_279, s179_280, s179_281, zz_ck_t, zz_sl_n, zz_sl_i, zz_sl_r, zz_ret_l, zz_ret_r, zz_ret_if, zz_sw_cons, zz_sw_nil, ↓zz_ck_b, ↓zz_ck_0, ↓zz_ck_1, Option.toList, List.cons_append, List.nil_append, List.append_nil, Bool.and_true, Bool.true_and, Bool.and_false, Bool.false_and, Bool.and_self, ite_not, zz_ary_0, zz_na1, zz_na2, zz_na3, zz_nI_ix, zz_nI_in, up_eq, lg_cc, q10, q20, q30, eq_self, ↓reduceIte, not_true_eq_false, not_false_eq_true, hh, hm, h89]
        exact rfl
    · have hh : zz_Call zz_prog (d + 21) 158 [.ref 5, .int (I 0 (i + 1)), .int (I 0 (i + 2)), .ref 44] (zz_hp n I J ex) = some (.inl (some (.int 3)), false, zz_hp n I J (ex ++ [(4, 5)])) := h158t5 _ _ (hT d n J ex)
      obtain ⟨X, f2, hm', g0', hRX⟩ := hM (d + 14) n J (ex ++ [(4, 5)])
      have hm : zz_Call zz_prog (d + 21) 98 [.ref 23, .int (I 0 (i + 1)), .int (I 0 (i + 2))] (zz_hp n I J (ex ++ [(4, 5)])) = some (.inl w, f2, zz_hp n X J (ex ++ [(4, 5)])) := hm'
      have g0 : X 23 0 = 3 := g0'
      have hv := zz_Call_rt (b := true) p98 rfl hm
      obtain ⟨u, rfl⟩ := hv
      have h89 := c89 (d := d + 20) (n := n) (I := X) (J := J) (ex := ex ++ [(4, 5)])
      rw [g0] at h89
      refine ⟨X, J, ex ++ [(4, 5)], ?_, ?_, ?_, ?_, hRX, Or.inr ⟨5, rfl⟩⟩
      rotate_left 3
      · simp (disch := first | omega | decide | assumption | (refine hcN_lt ?_; omega) | (refine ecN_lt ?_; omega) | (refine hcN_lt2 ?_; omega) | (refine ecN_lt2 ?_; omega)) only [s179_216, s179_217, s179_218, s179_220, s179_221, s179_222, s179_223, s179_224, s179_226, s179_227, s179_228, s179_229, s179_230, s179_233, s179_235, s179_236, s179_237, s179_239, s179_240, s179_241, s179_242, s179_243, s179_245, s179_246, s179_247, s179_248, s179_251, s179_253, s179_254, s179_257, s179_259, s179_262, s179_263, s179_264, s179_266, s179_269, s179_270, s179_271, s179_272, s179_274, s179_275, s179_276, s179_279, s179_280, s179_281, zz_ck_t, zz_sl_n, zz_sl_i, zz_sl_r, zz_ret_l, zz_ret_r, zz_ret_if, zz_sw_cons, zz_sw_nil, ↓zz_ck_b, ↓zz_ck_0, ↓zz_ck_1, Option.toList, List.cons_append, List.nil_append, List.append_nil, Bool.and_true, Bool.true_and, Bool.and_false, Bool.false_and, Bool.and_self, ite_not, zz_ary_0, zz_na1, zz_na2, zz_na3, zz_nI_ix, zz_nI_in, up_eq, lg_cc, q10, q20, q30, eq_self, ↓reduceIte, not_true_eq_false, not_false_eq_true, hh, hm, h89]
        exact rfl
theorem l284 (hR : Rel I (J 5 4)) (hi : i + 4 ≤ n) (hn : n ≤ 2048) : Nx d n i ex (284, [some (.ref 0), some (.ref 5), some (.ref 23), some (.ref 44), some (.int (nI i)), l5, l6], [], f, zz_hp n I J ex) := by
  generalize hz : ((I 0 (i + 1)).toInt64 <<< ((32 : Int32).toInt64 &&& 63) ||| ((I 0 (i + 2)).toInt64 &&& Int64.ofNat 4294967295)) = z
  rcases op_deck z hR with ⟨h0, hM⟩ | ⟨h0, hM⟩
  · have hh : zz_Call zz_prog (d + 21) 159 [.ref 5, .long z] (zz_hp n I J ex) = some (.inl (some (.int 0)), false, zz_hp n I (zz_up J 5 4 z) ex) := h159o z (c3a (d := d + 18) h0 z)
    obtain ⟨X, f2, hm', g0, hRX⟩ := hM (d + 14) n (zz_up J 5 4 z) ex
    have hm : zz_Call zz_prog (d + 21) 99 [.ref 23, .long z] (zz_hp n I (zz_up J 5 4 z) ex) = some (.inl none, f2, zz_hp n X (zz_up J 5 4 z) ex) := hm'
    have h89 := c89 (d := d + 20) (n := n) (I := X) (J := zz_up J 5 4 z) (ex := ex)
    rw [g0] at h89
    refine ⟨X, zz_up J 5 4 z, ex, ?_, ?_, ?_, ?_, by rw [up_eq]; exact hRX, Or.inl rfl⟩
    rotate_left 3
    · simp (disch := first | omega | decide | assumption | (refine hcN_lt ?_; omega) | (refine ecN_lt ?_; omega) | (refine hcN_lt2 ?_; omega) | (refine ecN_lt2 ?_; omega)) only [s179_284, s179_285, s179_286, s179_288, s179_289, s179_290, s179_291, s179_292, s179_294, s179_295, s179_296, s179_298, s179_299, s179_300, s179_301, s179_302, s179_305, s179_306, s179_307, s179_310, s179_312, s179_313, s179_314, s179_316, s179_317, s179_318, s179_319, s179_320, s179_322, s179_323, s179_324, s179_326, s179_327, s179_328, s179_329, s179_330, s179_333, s179_334, s179_335, s179_338, s179_339, s179_342, s179_344, s179_347, s179_348, s179_349, zz_ck_t, zz_sl_n, zz_sl_i, zz_sl_r, zz_ret_l, zz_ret_r, zz_ret_if, zz_sw_cons, zz_sw_nil, ↓zz_ck_b, ↓zz_ck_0, ↓zz_ck_1, Option.toList, List.cons_append, List.nil_append, List.append_nil, Bool.and_true, Bool.true_and, Bool.and_false, Bool.false_and, Bool.and_self, ite_not, zz_ary_0, zz_na1, zz_na2, zz_na3, zz_nI_ix, zz_nI_in, up_eq, lg_cc, q10, q20, q30, eq_self, ↓reduceIte, not_true_eq_false, not_false_eq_true, hz, hh, hm, h89]
      exact rfl
  · have hh : zz_Call zz_prog (d + 21) 159 [.ref 5, .long z] (zz_hp n I J ex) = some (.inl (some (.int 1)), false, zz_hp n I J (ex ++ [(4, 3)])) := h159t3 z (c3e (d := d + 18) h0 z)
    obtain ⟨X, f2, hm', g0, hRX⟩ := hM (d + 14) n J (ex ++ [(4, 3)])
    have hm : zz_Call zz_prog (d + 21) 99 [.ref 23, .long z] (zz_hp n I J (ex ++ [(4, 3)])) = some (.inl none, f2, zz_hp n X J (ex ++ [(4, 3)])) := hm'
    have h89 := c89 (d := d + 20) (n := n) (I := X) (J := J) (ex := ex ++ [(4, 3)])
    rw [g0] at h89
    refine ⟨X, J, ex ++ [(4, 3)], ?_, ?_, ?_, ?_, hRX, Or.inr ⟨3, rfl⟩⟩
    rotate_left 3
    · simp (disch := first | omega | decide | assumption | (refine hcN_lt ?_; omega) | (refine ecN_lt ?_; omega) | (refine hcN_lt2 ?_; omega) | (refine ecN_lt2 ?_; omega)) only [s179_284, s179_285, s179_286, s179_288, s179_289, s179_290, s179_291, s179_292, s179_294, s179_295, s179_296, s179_298, s179_299, s179_300, s179_301, s179_302, s179_305, s179_306, s179_307, s179_310, s179_312, s179_313, s179_314, s179_316, s179_317, s179_318, s179_319, s179_320, s179_322, s179_323, s179_324, s179_326, s179_327, s179_328, s179_329, s179_330, s179_333, s179_334, s179_335, s179_338, s179_339, s179_342, s179_344, s179_347, s179_348, s179_349, zz_ck_t, zz_sl_n, zz_sl_i, zz_sl_r, zz_ret_l, zz_ret_r, zz_ret_if, zz_sw_cons, zz_sw_nil, ↓zz_ck_b, ↓zz_ck_0, ↓zz_ck_1, Option.toList, List.cons_append, List.nil_append, List.append_nil, Bool.and_true, Bool.true_and, Bool.and_false, Bool.false_and, Bool.and_self, ite_not, zz_ary_0, zz_na1, zz_na2, zz_na3, zz_nI_ix, zz_nI_in, up_eq, lg_cc, q10, q20, q30, eq_self, ↓reduceIte, not_true_eq_false, not_false_eq_true, hz, hh, hm, h89]
      exact rfl
theorem l352 (hR : Rel I (J 5 4)) (hi : i + 4 ≤ n) (hn : n ≤ 2048) : Nx d n i ex (352, [some (.ref 0), some (.ref 5), some (.ref 23), some (.ref 44), some (.int (nI i)), l5, l6], [], f, zz_hp n I J ex) := by
  rcases op_players (I 0 (i + 1)) (I 0 (i + 2)) I _ hR with ⟨I1, v, hC, hM⟩ | ⟨e, hT, hne, w, hM⟩
  · obtain ⟨f1, hc⟩ := hC d n J ex rfl
    have hv := zz_Call_rt (b := false) p4 rfl hc
    obtain rfl := hv
    have z0 := call_0 hc
    have hh : zz_Call zz_prog (d + 21) 160 [.ref 5, .int (I 0 (i + 1)), .int (I 0 (i + 2))] (zz_hp n I J ex) = some (.inl (some (.int 0)), f1, zz_hp n I1 J ex) := h160o _ _ hc
    obtain ⟨X, f2, hm', g0, hRX⟩ := hM (d + 14) n J ex
    have hm : zz_Call zz_prog (d + 21) 100 [.ref 23, .int (I 0 (i + 1)), .int (I 0 (i + 2))] (zz_hp n I1 J ex) = some (.inl none, f2, zz_hp n X J ex) := hm'
    have h89 := c89 (d := d + 20) (n := n) (I := X) (J := J) (ex := ex)
    rw [g0] at h89
    refine ⟨X, J, ex, ?_, ?_, ?_, ?_, hRX, Or.inl rfl⟩
    rotate_left 3
    · simp (disch := first | omega | decide | assumption | (refine hcN_lt ?_; omega) | (refine ecN_lt ?_; omega) | (refine hcN_lt2 ?_; omega) | (refine ecN_lt2 ?_; omega)) only [s179_352, s179_353, s179_354, s179_356, s179_357, s179_358, s179_359, s179_360, s179_362, s179_363, s179_364, s179_365, s179_368, s179_370, s179_371, s179_372, s179_374, s179_375, s179_376, s179_377, s179_378, s179_380, s179_381, s179_382, s179_383, s179_386, s179_387, s179_390, s179_392, s179_395, s179_396, s179_397, zz_ck_t, zz_sl_n, zz_sl_i, zz_sl_r, zz_ret_l, zz_ret_r, zz_ret_if, zz_sw_cons, zz_sw_nil, ↓zz_ck_b, ↓zz_ck_0, ↓zz_ck_1, Option.toList, List.cons_append, List.nil_append, List.append_nil, Bool.and_true, Bool.true_and, Bool.and_false, Bool.false_and, Bool.and_self, ite_not, zz_ary_0, zz_na1, zz_na2, zz_na3, zz_nI_ix, zz_nI_in, up_eq, lg_cc, q10, q20, q30, eq_self, ↓reduceIte, not_true_eq_false, not_false_eq_true, hh, z0, hm, h89]
      exact rfl
  · have he := kd_34 hne
    rcases he with rfl | rfl
    · have hh : zz_Call zz_prog (d + 21) 160 [.ref 5, .int (I 0 (i + 1)), .int (I 0 (i + 2))] (zz_hp n I J ex) = some (.inl (some (.int 1)), false, zz_hp n I J (ex ++ [(4, 3)])) := h160t3 _ _ (hT d n J ex)
      obtain ⟨X, f2, hm', g0', hRX⟩ := hM (d + 14) n J (ex ++ [(4, 3)])
      have hm : zz_Call zz_prog (d + 21) 100 [.ref 23, .int (I 0 (i + 1)), .int (I 0 (i + 2))] (zz_hp n I J (ex ++ [(4, 3)])) = some (.inl w, f2, zz_hp n X J (ex ++ [(4, 3)])) := hm'
      have g0 : X 23 0 = 1 := g0'
      have hv := zz_Call_rt (b := false) p100 rfl hm
      obtain rfl := hv
      have h89 := c89 (d := d + 20) (n := n) (I := X) (J := J) (ex := ex ++ [(4, 3)])
      rw [g0] at h89
      refine ⟨X, J, ex ++ [(4, 3)], ?_, ?_, ?_, ?_, hRX, Or.inr ⟨3, rfl⟩⟩
      rotate_left 3
      · simp (disch := first | omega | decide | assumption | (refine hcN_lt ?_; omega) | (refine ecN_lt ?_; omega) | (refine hcN_lt2 ?_; omega) | (refine ecN_lt2 ?_; omega)) only [s179_352, s179_353, s179_354, s179_356, s179_357, s179_358, s179_359, s179_360, s179_362, s179_363, s179_364, s179_365, s179_368, s179_370, s179_371, s179_372, s179_374, s179_375, s179_376, s179_377, s179_378, s179_380, s179_381, s179_382, s179_383, s179_386, s179_387, s179_390, s179_392, s179_395, s179_396, s179_397, zz_ck_t, zz_sl_n, zz_sl_i, zz_sl_r, zz_ret_l, zz_ret_r, zz_ret_if, zz_sw_cons, zz_sw_nil, ↓zz_ck_b, ↓zz_ck_0, ↓zz_ck_1, Option.toList, List.cons_append, List.nil_append, List.append_nil, Bool.and_true, Bool.true_and, Bool.and_false, Bool.false_and, Bool.and_self, ite_not, zz_ary_0, zz_na1, zz_na2, zz_na3, zz_nI_ix, zz_nI_in, up_eq, lg_cc, q10, q20, q30, eq_self, ↓reduceIte, not_true_eq_false, not_false_eq_true, hh, hm, h89]
        exact rfl
    · have hh : zz_Call zz_prog (d + 21) 160 [.ref 5, .int (I 0 (i + 1)), .int (I 0 (i + 2))] (zz_hp n I J ex) = some (.inl (some (.int 2)), false, zz_hp n I J (ex ++ [(4, 4)])) := h160t4 _ _ (hT d n J ex)
      obtain ⟨X, f2, hm', g0', hRX⟩ := hM (d + 14) n J (ex ++ [(4, 4)])
      have hm : zz_Call zz_prog (d + 21) 100 [.ref 23, .int (I 0 (i + 1)), .int (I 0 (i + 2))] (zz_hp n I J (ex ++ [(4, 4)])) = some (.inl w, f2, zz_hp n X J (ex ++ [(4, 4)])) := hm'
      have g0 : X 23 0 = 2 := g0'
      have hv := zz_Call_rt (b := false) p100 rfl hm
      obtain rfl := hv
      have h89 := c89 (d := d + 20) (n := n) (I := X) (J := J) (ex := ex ++ [(4, 4)])
      rw [g0] at h89
      refine ⟨X, J, ex ++ [(4, 4)], ?_, ?_, ?_, ?_, hRX, Or.inr ⟨4, rfl⟩⟩
      rotate_left 3
      · simp (disch := first | omega | decide | assumption | (refine hcN_lt ?_; omega) | (refine ecN_lt ?_; omega) | (refine hcN_lt2 ?_; omega) | (refine ecN_lt2 ?_; omega)) only [s179_352, s179_353, s179_354, s179_356, s179_357, s179_358, s179_359, s179_360, s179_362, s179_363, s179_364, s179_365, s179_368, s179_370, s179_371, s179_372, s179_374, s179_375, s179_376, s179_377, s179_378, s179_380, s179_381, s179_382, s179_383, s179_386, s179_387, s179_390, s179_392, s179_395, s179_396, s179_397, zz_ck_t, zz_sl_n, zz_sl_i, zz_sl_r, zz_ret_l, zz_ret_r, zz_ret_if, zz_sw_cons, zz_sw_nil, ↓zz_ck_b, ↓zz_ck_0, ↓zz_ck_1, Option.toList, List.cons_append, List.nil_append, List.append_nil, Bool.and_true, Bool.true_and, Bool.and_false, Bool.false_and, Bool.and_self, ite_not, zz_ary_0, zz_na1, zz_na2, zz_na3, zz_nI_ix, zz_nI_in, up_eq, lg_cc, q10, q20, q30, eq_self, ↓reduceIte, not_true_eq_false, not_false_eq_true, hh, hm, h89]
        exact rfl
theorem l400 (hR : Rel I (J 5 4)) (hi : i + 4 ≤ n) (hn : n ≤ 2048) : Nx d n i ex (400, [some (.ref 0), some (.ref 5), some (.ref 23), some (.ref 44), some (.int (nI i)), l5, l6], [], f, zz_hp n I J ex) := by
  rcases op_place (I 0 (i + 1)) (I 0 (i + 2)) I _ hR with ⟨I1, v, hC, hM⟩ | ⟨e, hT, hne, w, hM⟩
  · obtain ⟨f1, hc⟩ := hC d n J ex rfl
    have hv := zz_Call_rt (b := true) p5 rfl hc
    obtain ⟨u, rfl⟩ := hv
    have z0 := call_0 hc
    have hh : zz_Call zz_prog (d + 21) 161 [.ref 5, .int (I 0 (i + 1)), .int (I 0 (i + 2)), .ref 44] (zz_hp n I J ex) = some (.inl (some (.int 0)), false, zz_hp n I1 (zz_up J 44 0 u.toInt64) ex) := h161o _ _ hc
    obtain ⟨X, f2, hm', g0, hRX⟩ := hM (d + 14) n (zz_up J 44 0 u.toInt64) ex
    have hm : zz_Call zz_prog (d + 21) 121 [.ref 23, .int (I 0 (i + 1)), .int (I 0 (i + 2))] (zz_hp n I1 (zz_up J 44 0 u.toInt64) ex) = some (.inl (some (.int u)), f2, zz_hp n X (zz_up J 44 0 u.toInt64) ex) := hm'
    have h89 := c89 (d := d + 20) (n := n) (I := X) (J := (zz_up J 44 0 u.toInt64)) (ex := ex)
    rw [g0] at h89
    refine ⟨X, (zz_up J 44 0 u.toInt64), ex, ?_, ?_, ?_, ?_, hRX, Or.inl rfl⟩
    rotate_left 3
    · simp (disch := first | omega | decide | assumption | (refine hcN_lt ?_; omega) | (refine ecN_lt ?_; omega) | (refine hcN_lt2 ?_; omega) | (refine ecN_lt2 ?_; omega)) only [s179_400, s179_401, s179_402, s179_404, s179_405, s179_406, s179_407, s179_408, s179_410, s179_411, s179_412, s179_413, s179_414, s179_417, s179_419, s179_420, s179_421, s179_423, s179_424, s179_425, s179_426, s179_427, s179_429, s179_430, s179_431, s179_432, s179_435, s179_437, s179_438, s179_441, s179_443, s179_446, s179_447, s179_448, s179_450, s179_453, s179_454, s179_455, s179_456, s179_458, s179_459, s179_460, s179_463, s179_464, s179_465, zz_ck_t, zz_sl_n, zz_sl_i, zz_sl_r, zz_ret_l, zz_ret_r, zz_ret_if, zz_sw_cons, zz_sw_nil, ↓zz_ck_b, ↓zz_ck_0, ↓zz_ck_1, Option.toList, List.cons_append, List.nil_append, List.append_nil, Bool.and_true, Bool.true_and, Bool.and_false, Bool.false_and, Bool.and_self, ite_not, zz_ary_0, zz_na1, zz_na2, zz_na3, zz_nI_ix, zz_nI_in, up_eq, lg_cc, q10, q20, q30, eq_self, ↓reduceIte, not_true_eq_false, not_false_eq_true, hh, z0, hm, h89]
      exact rfl
  · have he := kd_435 hne
    rcases he with rfl | rfl | rfl
    · have hh : zz_Call zz_prog (d + 21) 161 [.ref 5, .int (I 0 (i + 1)), .int (I 0 (i + 2)), .ref 44] (zz_hp n I J ex) = some (.inl (some (.int 1)), false, zz_hp n I J (ex ++ [(4, 4)])) := h161t4 _ _ (hT d n J ex)
      obtain ⟨X, f2, hm', g0', hRX⟩ := hM (d + 14) n J (ex ++ [(4, 4)])
      have hm : zz_Call zz_prog (d + 21) 121 [.ref 23, .int (I 0 (i + 1)), .int (I 0 (i + 2))] (zz_hp n I J (ex ++ [(4, 4)])) = some (.inl w, f2, zz_hp n X J (ex ++ [(4, 4)])) := hm'
      have g0 : X 23 0 = 1 := g0'
      have hv := zz_Call_rt (b := true) p121 rfl hm
      obtain ⟨u, rfl⟩ := hv
      have h89 := c89 (d := d + 20) (n := n) (I := X) (J := J) (ex := ex ++ [(4, 4)])
      rw [g0] at h89
      refine ⟨X, J, ex ++ [(4, 4)], ?_, ?_, ?_, ?_, hRX, Or.inr ⟨4, rfl⟩⟩
      rotate_left 3
      · simp (disch := first | omega | decide | assumption | (refine hcN_lt ?_; omega) | (refine ecN_lt ?_; omega) | (refine hcN_lt2 ?_; omega) | (refine ecN_lt2 ?_; omega)) only [s179_400, s179_401, s179_402, s179_404, s179_405, s179_406, s179_407, s179_408, s179_410, s179_411, s179_412, s179_413, s179_414, s179_417, s179_419, s179_420, s179_421, s179_423, s179_424, s179_425, s179_426, s179_427, s179_429, s179_430, s179_431, s179_432, s179_435, s179_437, s179_438, s179_441, s179_443, s179_446, s179_447, s179_448, s179_450, s179_453, s179_454, s179_455, s179_456, s179_458, s179_459, s179_460, s179_463, s179_464, s179_465, zz_ck_t, zz_sl_n, zz_sl_i, zz_sl_r, zz_ret_l, zz_ret_r, zz_ret_if, zz_sw_cons, zz_sw_nil, ↓zz_ck_b, ↓zz_ck_0, ↓zz_ck_1, Option.toList, List.cons_append, List.nil_append, List.append_nil, Bool.and_true, Bool.true_and, Bool.and_false, Bool.false_and, Bool.and_self, ite_not, zz_ary_0, zz_na1, zz_na2, zz_na3, zz_nI_ix, zz_nI_in, up_eq, lg_cc, q10, q20, q30, eq_self, ↓reduceIte, not_true_eq_false, not_false_eq_true, hh, hm, h89]
        exact rfl
    · have hh : zz_Call zz_prog (d + 21) 161 [.ref 5, .int (I 0 (i + 1)), .int (I 0 (i + 2)), .ref 44] (zz_hp n I J ex) = some (.inl (some (.int 2)), false, zz_hp n I J (ex ++ [(4, 3)])) := h161t3 _ _ (hT d n J ex)
      obtain ⟨X, f2, hm', g0', hRX⟩ := hM (d + 14) n J (ex ++ [(4, 3)])
      have hm : zz_Call zz_prog (d + 21) 121 [.ref 23, .int (I 0 (i + 1)), .int (I 0 (i + 2))] (zz_hp n I J (ex ++ [(4, 3)])) = some (.inl w, f2, zz_hp n X J (ex ++ [(4, 3)])) := hm'
      have g0 : X 23 0 = 2 := g0'
      have hv := zz_Call_rt (b := true) p121 rfl hm
      obtain ⟨u, rfl⟩ := hv
      have h89 := c89 (d := d + 20) (n := n) (I := X) (J := J) (ex := ex ++ [(4, 3)])
      rw [g0] at h89
      refine ⟨X, J, ex ++ [(4, 3)], ?_, ?_, ?_, ?_, hRX, Or.inr ⟨3, rfl⟩⟩
      rotate_left 3
      · simp (disch := first | omega | decide | assumption | (refine hcN_lt ?_; omega) | (refine ecN_lt ?_; omega) | (refine hcN_lt2 ?_; omega) | (refine ecN_lt2 ?_; omega)) only [s179_400, s179_401, s179_402, s179_404, s179_405, s179_406, s179_407, s179_408, s179_410, s179_411, s179_412, s179_413, s179_414, s179_417, s179_419, s179_420, s179_421, s179_423, s179_424, s179_425, s179_426, s179_427, s179_429, s179_430, s179_431, s179_432, s179_435, s179_437, s179_438, s179_441, s179_443, s179_446, s179_447, s179_448, s179_450, s179_453, s179_454, s179_455, s179_456, s179_458, s179_459, s179_460, s179_463, s179_464, s179_465, zz_ck_t, zz_sl_n, zz_sl_i, zz_sl_r, zz_ret_l, zz_ret_r, zz_ret_if, zz_sw_cons, zz_sw_nil, ↓zz_ck_b, ↓zz_ck_0, ↓zz_ck_1, Option.toList, List.cons_append, List.nil_append, List.append_nil, Bool.and_true, Bool.true_and, Bool.and_false, Bool.false_and, Bool.and_self, ite_not, zz_ary_0, zz_na1, zz_na2, zz_na3, zz_nI_ix, zz_nI_in, up_eq, lg_cc, q10, q20, q30, eq_self, ↓reduceIte, not_true_eq_false, not_false_eq_true, hh, hm, h89]
        exact rfl
    · have hh : zz_Call zz_prog (d + 21) 161 [.ref 5, .int (I 0 (i + 1)), .int (I 0 (i + 2)), .ref 44] (zz_hp n I J ex) = some (.inl (some (.int 3)), false, zz_hp n I J (ex ++ [(4, 5)])) := h161t5 _ _ (hT d n J ex)
      obtain ⟨X, f2, hm', g0', hRX⟩ := hM (d + 14) n J (ex ++ [(4, 5)])
      have hm : zz_Call zz_prog (d + 21) 121 [.ref 23, .int (I 0 (i + 1)), .int (I 0 (i + 2))] (zz_hp n I J (ex ++ [(4, 5)])) = some (.inl w, f2, zz_hp n X J (ex ++ [(4, 5)])) := hm'
      have g0 : X 23 0 = 3 := g0'
      have hv := zz_Call_rt (b := true) p121 rfl hm
      obtain ⟨u, rfl⟩ := hv
      have h89 := c89 (d := d + 20) (n := n) (I := X) (J := J) (ex := ex ++ [(4, 5)])
      rw [g0] at h89
      refine ⟨X, J, ex ++ [(4, 5)], ?_, ?_, ?_, ?_, hRX, Or.inr ⟨5, rfl⟩⟩
      rotate_left 3
      · simp (disch := first | omega | decide | assumption | (refine hcN_lt ?_; omega) | (refine ecN_lt ?_; omega) | (refine hcN_lt2 ?_; omega) | (refine ecN_lt2 ?_; omega)) only [s179_400, s179_401, s179_402, s179_404, s179_405, s179_406, s179_407, s179_408, s179_410, s179_411, s179_412, s179_413, s179_414, s179_417, s179_419, s179_420, s179_421, s179_423, s179_424, s179_425, s179_426, s179_427, s179_429, s179_430, s179_431, s179_432, s179_435, s179_437, s179_438, s179_441, s179_443, s179_446, s179_447, s179_448, s179_450, s179_453, s179_454, s179_455, s179_456, s179_458, s179_459, s179_460, s179_463, s179_464, s179_465, zz_ck_t, zz_sl_n, zz_sl_i, zz_sl_r, zz_ret_l, zz_ret_r, zz_ret_if, zz_sw_cons, zz_sw_nil, ↓zz_ck_b, ↓zz_ck_0, ↓zz_ck_1, Option.toList, List.cons_append, List.nil_append, List.append_nil, Bool.and_true, Bool.true_and, Bool.and_false, Bool.false_and, Bool.and_self, ite_not, zz_ary_0, zz_na1, zz_na2, zz_na3, zz_nI_ix, zz_nI_in, up_eq, lg_cc, q10, q20, q30, eq_self, ↓reduceIte, not_true_eq_false, not_false_eq_true, hh, hm, h89]
        exact rfl
theorem l468 (hR : Rel I (J 5 4)) (hi : i + 4 ≤ n) (hn : n ≤ 2048) : Nx d n i ex (468, [some (.ref 0), some (.ref 5), some (.ref 23), some (.ref 44), some (.int (nI i)), l5, l6], [], f, zz_hp n I J ex) := by
  rcases op_roll (I 0 (i + 1)) I _ hR with ⟨I1, v, hC, hM⟩ | ⟨e, hT, hne, w, hM⟩
  · obtain ⟨f1, hc⟩ := hC d n J ex rfl
    have hv := zz_Call_rt (b := true) p6 rfl hc
    obtain ⟨u, rfl⟩ := hv
    have z0 := call_0 hc
    have hh : zz_Call zz_prog (d + 21) 162 [.ref 5, .int (I 0 (i + 1)), .ref 44] (zz_hp n I J ex) = some (.inl (some (.int 0)), false, zz_hp n I1 (zz_up J 44 0 u.toInt64) ex) := h162o _ hc
    obtain ⟨X, f2, hm', g0, hRX⟩ := hM (d + 14) n (zz_up J 44 0 u.toInt64) ex
    have hm : zz_Call zz_prog (d + 21) 126 [.ref 23, .int (I 0 (i + 1))] (zz_hp n I1 (zz_up J 44 0 u.toInt64) ex) = some (.inl (some (.int u)), f2, zz_hp n X (zz_up J 44 0 u.toInt64) ex) := hm'
    have h89 := c89 (d := d + 20) (n := n) (I := X) (J := (zz_up J 44 0 u.toInt64)) (ex := ex)
    rw [g0] at h89
    refine ⟨X, (zz_up J 44 0 u.toInt64), ex, ?_, ?_, ?_, ?_, hRX, Or.inl rfl⟩
    rotate_left 3
    · simp (disch := first | omega | decide | assumption | (refine hcN_lt ?_; omega) | (refine ecN_lt ?_; omega) | (refine hcN_lt2 ?_; omega) | (refine ecN_lt2 ?_; omega)) only [s179_468, s179_469, s179_470, s179_472, s179_473, s179_474, s179_475, s179_476, s179_479, s179_481, s179_482, s179_483, s179_485, s179_486, s179_487, s179_488, s179_491, s179_493, s179_494, s179_497, s179_499, s179_502, s179_503, s179_504, s179_506, s179_509, s179_510, s179_511, s179_512, s179_514, s179_515, s179_516, s179_519, s179_520, s179_521, zz_ck_t, zz_sl_n, zz_sl_i, zz_sl_r, zz_ret_l, zz_ret_r, zz_ret_if, zz_sw_cons, zz_sw_nil, ↓zz_ck_b, ↓zz_ck_0, ↓zz_ck_1, Option.toList, List.cons_append, List.nil_append, List.append_nil, Bool.and_true, Bool.true_and, Bool.and_false, Bool.false_and, Bool.and_self, ite_not, zz_ary_0, zz_na1, zz_na2, zz_na3, zz_nI_ix, zz_nI_in, up_eq, lg_cc, q10, q20, q30, eq_self, ↓reduceIte, not_true_eq_false, not_false_eq_true, hh, z0, hm, h89]
      exact rfl
  · have he := kd_34 hne
    rcases he with rfl | rfl
    · have hh : zz_Call zz_prog (d + 21) 162 [.ref 5, .int (I 0 (i + 1)), .ref 44] (zz_hp n I J ex) = some (.inl (some (.int 1)), false, zz_hp n I J (ex ++ [(4, 3)])) := h162t3 _ (hT d n J ex)
      obtain ⟨X, f2, hm', g0', hRX⟩ := hM (d + 14) n J (ex ++ [(4, 3)])
      have hm : zz_Call zz_prog (d + 21) 126 [.ref 23, .int (I 0 (i + 1))] (zz_hp n I J (ex ++ [(4, 3)])) = some (.inl w, f2, zz_hp n X J (ex ++ [(4, 3)])) := hm'
      have g0 : X 23 0 = 1 := g0'
      have hv := zz_Call_rt (b := true) p126 rfl hm
      obtain ⟨u, rfl⟩ := hv
      have h89 := c89 (d := d + 20) (n := n) (I := X) (J := J) (ex := ex ++ [(4, 3)])
      rw [g0] at h89
      refine ⟨X, J, ex ++ [(4, 3)], ?_, ?_, ?_, ?_, hRX, Or.inr ⟨3, rfl⟩⟩
      rotate_left 3
      · simp (disch := first | omega | decide | assumption | (refine hcN_lt ?_; omega) | (refine ecN_lt ?_; omega) | (refine hcN_lt2 ?_; omega) | (refine ecN_lt2 ?_; omega)) only [s179_468, s179_469, s179_470, s179_472, s179_473, s179_474, s179_475, s179_476, s179_479, s179_481, s179_482, s179_483, s179_485, s179_486, s179_487, s179_488, s179_491, s179_493, s179_494, s179_497, s179_499, s179_502, s179_503, s179_504, s179_506, s179_509, s179_510, s179_511, s179_512, s179_514, s179_515, s179_516, s179_519, s179_520, s179_521, zz_ck_t, zz_sl_n, zz_sl_i, zz_sl_r, zz_ret_l, zz_ret_r, zz_ret_if, zz_sw_cons, zz_sw_nil, ↓zz_ck_b, ↓zz_ck_0, ↓zz_ck_1, Option.toList, List.cons_append, List.nil_append, List.append_nil, Bool.and_true, Bool.true_and, Bool.and_false, Bool.false_and, Bool.and_self, ite_not, zz_ary_0, zz_na1, zz_na2, zz_na3, zz_nI_ix, zz_nI_in, up_eq, lg_cc, q10, q20, q30, eq_self, ↓reduceIte, not_true_eq_false, not_false_eq_true, hh, hm, h89]
        exact rfl
    · have hh : zz_Call zz_prog (d + 21) 162 [.ref 5, .int (I 0 (i + 1)), .ref 44] (zz_hp n I J ex) = some (.inl (some (.int 2)), false, zz_hp n I J (ex ++ [(4, 4)])) := h162t4 _ (hT d n J ex)
      obtain ⟨X, f2, hm', g0', hRX⟩ := hM (d + 14) n J (ex ++ [(4, 4)])
      have hm : zz_Call zz_prog (d + 21) 126 [.ref 23, .int (I 0 (i + 1))] (zz_hp n I J (ex ++ [(4, 4)])) = some (.inl w, f2, zz_hp n X J (ex ++ [(4, 4)])) := hm'
      have g0 : X 23 0 = 2 := g0'
      have hv := zz_Call_rt (b := true) p126 rfl hm
      obtain ⟨u, rfl⟩ := hv
      have h89 := c89 (d := d + 20) (n := n) (I := X) (J := J) (ex := ex ++ [(4, 4)])
      rw [g0] at h89
      refine ⟨X, J, ex ++ [(4, 4)], ?_, ?_, ?_, ?_, hRX, Or.inr ⟨4, rfl⟩⟩
      rotate_left 3
      · simp (disch := first | omega | decide | assumption | (refine hcN_lt ?_; omega) | (refine ecN_lt ?_; omega) | (refine hcN_lt2 ?_; omega) | (refine ecN_lt2 ?_; omega)) only [s179_468, s179_469, s179_470, s179_472, s179_473, s179_474, s179_475, s179_476, s179_479, s179_481, s179_482, s179_483, s179_485, s179_486, s179_487, s179_488, s179_491, s179_493, s179_494, s179_497, s179_499, s179_502, s179_503, s179_504, s179_506, s179_509, s179_510, s179_511, s179_512, s179_514, s179_515, s179_516, s179_519, s179_520, s179_521, zz_ck_t, zz_sl_n, zz_sl_i, zz_sl_r, zz_ret_l, zz_ret_r, zz_ret_if, zz_sw_cons, zz_sw_nil, ↓zz_ck_b, ↓zz_ck_0, ↓zz_ck_1, Option.toList, List.cons_append, List.nil_append, List.append_nil, Bool.and_true, Bool.true_and, Bool.and_false, Bool.false_and, Bool.and_self, ite_not, zz_ary_0, zz_na1, zz_na2, zz_na3, zz_nI_ix, zz_nI_in, up_eq, lg_cc, q10, q20, q30, eq_self, ↓reduceIte, not_true_eq_false, not_false_eq_true, hh, hm, h89]
        exact rfl
theorem l524 (hR : Rel I (J 5 4)) (hi : i + 4 ≤ n) (hn : n ≤ 2048) : Nx d n i ex (524, [some (.ref 0), some (.ref 5), some (.ref 23), some (.ref 44), some (.int (nI i)), l5, l6], [], f, zz_hp n I J ex) := by
  rcases op_give (I 0 (i + 1)) (I 0 (i + 2)) I _ hR with ⟨I1, v, hC, hM⟩ | ⟨e, hT, hne, w, hM⟩
  · obtain ⟨f1, hc⟩ := hC d n J ex rfl
    have hv := zz_Call_rt (b := true) p7 rfl hc
    obtain ⟨u, rfl⟩ := hv
    have z0 := call_0 hc
    have hh : zz_Call zz_prog (d + 21) 163 [.ref 5, .int (I 0 (i + 1)), .int (I 0 (i + 2)), .ref 44] (zz_hp n I J ex) = some (.inl (some (.int 0)), false, zz_hp n I1 (zz_up J 44 0 u.toInt64) ex) := h163o _ _ hc
    obtain ⟨X, f2, hm', g0, hRX⟩ := hM (d + 14) n (zz_up J 44 0 u.toInt64) ex
    have hm : zz_Call zz_prog (d + 21) 129 [.ref 23, .int (I 0 (i + 1)), .int (I 0 (i + 2))] (zz_hp n I1 (zz_up J 44 0 u.toInt64) ex) = some (.inl (some (.int u)), f2, zz_hp n X (zz_up J 44 0 u.toInt64) ex) := hm'
    have h89 := c89 (d := d + 20) (n := n) (I := X) (J := (zz_up J 44 0 u.toInt64)) (ex := ex)
    rw [g0] at h89
    refine ⟨X, (zz_up J 44 0 u.toInt64), ex, ?_, ?_, ?_, ?_, hRX, Or.inl rfl⟩
    rotate_left 3
    · simp (disch := first | omega | decide | assumption | (refine hcN_lt ?_; omega) | (refine ecN_lt ?_; omega) | (refine hcN_lt2 ?_; omega) | (refine ecN_lt2 ?_; omega)) only [s179_524, s179_525, s179_526, s179_528, s179_529, s179_530, s179_531, s179_532, s179_534, s179_535, s179_536, s179_537, s179_538, s179_541, s179_543, s179_544, s179_545, s179_547, s179_548, s179_549, s179_550, s179_551, s179_553, s179_554, s179_555, s179_556, s179_559, s179_561, s179_562, s179_565, s179_567, s179_570, s179_571, s179_572, s179_574, s179_577, s179_578, s179_579, s179_580, s179_582, s179_583, s179_584, s179_587, s179_588, s179_589, zz_ck_t, zz_sl_n, zz_sl_i, zz_sl_r, zz_ret_l, zz_ret_r, zz_ret_if, zz_sw_cons, zz_sw_nil, ↓zz_ck_b, ↓zz_ck_0, ↓zz_ck_1, Option.toList, List.cons_append, List.nil_append, List.append_nil, Bool.and_true, Bool.true_and, Bool.and_false, Bool.false_and, Bool.and_self, ite_not, zz_ary_0, zz_na1, zz_na2, zz_na3, zz_nI_ix, zz_nI_in, up_eq, lg_cc, q10, q20, q30, eq_self, ↓reduceIte, not_true_eq_false, not_false_eq_true, hh, z0, hm, h89]
      exact rfl
  · have he := kd_34 hne
    rcases he with rfl | rfl
    · have hh : zz_Call zz_prog (d + 21) 163 [.ref 5, .int (I 0 (i + 1)), .int (I 0 (i + 2)), .ref 44] (zz_hp n I J ex) = some (.inl (some (.int 1)), false, zz_hp n I J (ex ++ [(4, 3)])) := h163t3 _ _ (hT d n J ex)
      obtain ⟨X, f2, hm', g0', hRX⟩ := hM (d + 14) n J (ex ++ [(4, 3)])
      have hm : zz_Call zz_prog (d + 21) 129 [.ref 23, .int (I 0 (i + 1)), .int (I 0 (i + 2))] (zz_hp n I J (ex ++ [(4, 3)])) = some (.inl w, f2, zz_hp n X J (ex ++ [(4, 3)])) := hm'
      have g0 : X 23 0 = 1 := g0'
      have hv := zz_Call_rt (b := true) p129 rfl hm
      obtain ⟨u, rfl⟩ := hv
      have h89 := c89 (d := d + 20) (n := n) (I := X) (J := J) (ex := ex ++ [(4, 3)])
      rw [g0] at h89
      refine ⟨X, J, ex ++ [(4, 3)], ?_, ?_, ?_, ?_, hRX, Or.inr ⟨3, rfl⟩⟩
      rotate_left 3
      · simp (disch := first | omega | decide | assumption | (refine hcN_lt ?_; omega) | (refine ecN_lt ?_; omega) | (refine hcN_lt2 ?_; omega) | (refine ecN_lt2 ?_; omega)) only [s179_524, s179_525, s179_526, s179_528, s179_529, s179_530, s179_531, s179_532, s179_534, s179_535, s179_536, s179_537, s179_538, s179_541, s179_543, s179_544, s179_545, s179_547, s179_548, s179_549, s179_550, s179_551, s179_553, s179_554, s179_555, s179_556, s179_559, s179_561, s179_562, s179_565, s179_567, s179_570, s179_571, s179_572, s179_574, s179_577, s179_578, s179_579, s179_580, s179_582, s179_583, s179_584, s179_587, s179_588, s179_589, zz_ck_t, zz_sl_n, zz_sl_i, zz_sl_r, zz_ret_l, zz_ret_r, zz_ret_if, zz_sw_cons, zz_sw_nil, ↓zz_ck_b, ↓zz_ck_0, ↓zz_ck_1, Option.toList, List.cons_append, List.nil_append, List.append_nil, Bool.and_true, Bool.true_and, Bool.and_false, Bool.false_and, Bool.and_self, ite_not, zz_ary_0, zz_na1, zz_na2, zz_na3, zz_nI_ix, zz_nI_in, up_eq, lg_cc, q10, q20, q30, eq_self, ↓reduceIte, not_true_eq_false, not_false_eq_true, hh, hm, h89]
        exact rfl
    · have hh : zz_Call zz_prog (d + 21) 163 [.ref 5, .int (I 0 (i + 1)), .int (I 0 (i + 2)), .ref 44] (zz_hp n I J ex) = some (.inl (some (.int 2)), false, zz_hp n I J (ex ++ [(4, 4)])) := h163t4 _ _ (hT d n J ex)
      obtain ⟨X, f2, hm', g0', hRX⟩ := hM (d + 14) n J (ex ++ [(4, 4)])
      have hm : zz_Call zz_prog (d + 21) 129 [.ref 23, .int (I 0 (i + 1)), .int (I 0 (i + 2))] (zz_hp n I J (ex ++ [(4, 4)])) = some (.inl w, f2, zz_hp n X J (ex ++ [(4, 4)])) := hm'
      have g0 : X 23 0 = 2 := g0'
      have hv := zz_Call_rt (b := true) p129 rfl hm
      obtain ⟨u, rfl⟩ := hv
      have h89 := c89 (d := d + 20) (n := n) (I := X) (J := J) (ex := ex ++ [(4, 4)])
      rw [g0] at h89
      refine ⟨X, J, ex ++ [(4, 4)], ?_, ?_, ?_, ?_, hRX, Or.inr ⟨4, rfl⟩⟩
      rotate_left 3
      · simp (disch := first | omega | decide | assumption | (refine hcN_lt ?_; omega) | (refine ecN_lt ?_; omega) | (refine hcN_lt2 ?_; omega) | (refine ecN_lt2 ?_; omega)) only [s179_524, s179_525, s179_526, s179_528, s179_529, s179_530, s179_531, s179_532, s179_534, s179_535, s179_536, s179_537, s179_538, s179_541, s179_543, s179_544, s179_545, s179_547, s179_548, s179_549, s179_550, s179_551, s179_553, s179_554, s179_555, s179_556, s179_559, s179_561, s179_562, s179_565, s179_567, s179_570, s179_571, s179_572, s179_574, s179_577, s179_578, s179_579, s179_580, s179_582, s179_583, s179_584, s179_587, s179_588, s179_589, zz_ck_t, zz_sl_n, zz_sl_i, zz_sl_r, zz_ret_l, zz_ret_r, zz_ret_if, zz_sw_cons, zz_sw_nil, ↓zz_ck_b, ↓zz_ck_0, ↓zz_ck_1, Option.toList, List.cons_append, List.nil_append, List.append_nil, Bool.and_true, Bool.true_and, Bool.and_false, Bool.false_and, Bool.and_self, ite_not, zz_ary_0, zz_na1, zz_na2, zz_na3, zz_nI_ix, zz_nI_in, up_eq, lg_cc, q10, q20, q30, eq_self, ↓reduceIte, not_true_eq_false, not_false_eq_true, hh, hm, h89]
        exact rfl
theorem l592 (hR : Rel I (J 5 4)) (hi : i + 4 ≤ n) (hn : n ≤ 2048) : Nx d n i ex (592, [some (.ref 0), some (.ref 5), some (.ref 23), some (.ref 44), some (.int (nI i)), l5, l6], [], f, zz_hp n I J ex) := by
  rcases op_block (I 0 (i + 1)) (I 0 (i + 2)) (I 0 (i + 3)) I _ hR with ⟨I1, v, hC, hM⟩ | ⟨e, hT, hne, w, hM⟩
  · obtain ⟨f1, hc⟩ := hC d n J ex rfl
    have hv := zz_Call_rt (b := true) p8 rfl hc
    obtain ⟨u, rfl⟩ := hv
    have z0 := call_0 hc
    have hh : zz_Call zz_prog (d + 21) 164 [.ref 5, .int (I 0 (i + 1)), .int (I 0 (i + 2)), .int (I 0 (i + 3)), .ref 44] (zz_hp n I J ex) = some (.inl (some (.int 0)), false, zz_hp n I1 (zz_up J 44 0 u.toInt64) ex) := h164o _ _ _ hc
    obtain ⟨X, f2, hm', g0, hRX⟩ := hM (d + 14) n (zz_up J 44 0 u.toInt64) ex
    have hm : zz_Call zz_prog (d + 21) 132 [.ref 23, .int (I 0 (i + 1)), .int (I 0 (i + 2)), .int (I 0 (i + 3))] (zz_hp n I1 (zz_up J 44 0 u.toInt64) ex) = some (.inl (some (.int u)), f2, zz_hp n X (zz_up J 44 0 u.toInt64) ex) := hm'
    have h89 := c89 (d := d + 20) (n := n) (I := X) (J := (zz_up J 44 0 u.toInt64)) (ex := ex)
    rw [g0] at h89
    refine ⟨X, (zz_up J 44 0 u.toInt64), ex, ?_, ?_, ?_, ?_, hRX, Or.inl rfl⟩
    rotate_left 3
    · simp (disch := first | omega | decide | assumption | (refine hcN_lt ?_; omega) | (refine ecN_lt ?_; omega) | (refine hcN_lt2 ?_; omega) | (refine ecN_lt2 ?_; omega)) only [s179_592, s179_593, s179_594, s179_596, s179_597, s179_598, s179_599, s179_600, s179_602, s179_603, s179_604, s179_605, s179_606, s179_608, s179_609, s179_610, s179_611, s179_612, s179_615, s179_617, s179_618, s179_619, s179_621, s179_622, s179_623, s179_624, s179_625, s179_627, s179_628, s179_629, s179_630, s179_631, s179_633, s179_634, s179_635, s179_636, s179_639, s179_641, s179_642, s179_645, s179_647, s179_650, s179_651, s179_652, s179_654, s179_657, s179_658, s179_659, s179_660, s179_662, s179_663, s179_664, s179_667, s179_668, s179_669, zz_ck_t, zz_sl_n, zz_sl_i, zz_sl_r, zz_ret_l, zz_ret_r, zz_ret_if, zz_sw_cons, zz_sw_nil, ↓zz_ck_b, ↓zz_ck_0, ↓zz_ck_1, Option.toList, List.cons_append, List.nil_append, List.append_nil, Bool.and_true, Bool.true_and, Bool.and_false, Bool.false_and, Bool.and_self, ite_not, zz_ary_0, zz_na1, zz_na2, zz_na3, zz_nI_ix, zz_nI_in, up_eq, lg_cc, q10, q20, q30, eq_self, ↓reduceIte, not_true_eq_false, not_false_eq_true, hh, z0, hm, h89]
      exact rfl
  · have he := kd_34 hne
    rcases he with rfl | rfl
    · have hh : zz_Call zz_prog (d + 21) 164 [.ref 5, .int (I 0 (i + 1)), .int (I 0 (i + 2)), .int (I 0 (i + 3)), .ref 44] (zz_hp n I J ex) = some (.inl (some (.int 1)), false, zz_hp n I J (ex ++ [(4, 3)])) := h164t3 _ _ _ (hT d n J ex)
      obtain ⟨X, f2, hm', g0', hRX⟩ := hM (d + 14) n J (ex ++ [(4, 3)])
      have hm : zz_Call zz_prog (d + 21) 132 [.ref 23, .int (I 0 (i + 1)), .int (I 0 (i + 2)), .int (I 0 (i + 3))] (zz_hp n I J (ex ++ [(4, 3)])) = some (.inl w, f2, zz_hp n X J (ex ++ [(4, 3)])) := hm'
      have g0 : X 23 0 = 1 := g0'
      have hv := zz_Call_rt (b := true) p132 rfl hm
      obtain ⟨u, rfl⟩ := hv
      have h89 := c89 (d := d + 20) (n := n) (I := X) (J := J) (ex := ex ++ [(4, 3)])
      rw [g0] at h89
      refine ⟨X, J, ex ++ [(4, 3)], ?_, ?_, ?_, ?_, hRX, Or.inr ⟨3, rfl⟩⟩
      rotate_left 3
      · simp (disch := first | omega | decide | assumption | (refine hcN_lt ?_; omega) | (refine ecN_lt ?_; omega) | (refine hcN_lt2 ?_; omega) | (refine ecN_lt2 ?_; omega)) only [s179_592, s179_593, s179_594, s179_596, s179_597, s179_598, s179_599, s179_600, s179_602, s179_603, s179_604, s179_605, s179_606, s179_608, s179_609, s179_610, s179_611, s179_612, s179_615, s179_617, s179_618, s179_619, s179_621, s179_622, s179_623, s179_624, s179_625, s179_627, s179_628, s179_629, s179_630, s179_631, s179_633, s179_634, s179_635, s179_636, s179_639, s179_641, s179_642, s179_645, s179_647, s179_650, s179_651, s179_652, s179_654, s179_657, s179_658, s179_659, s179_660, s179_662, s179_663, s179_664, s179_667, s179_668, s179_669, zz_ck_t, zz_sl_n, zz_sl_i, zz_sl_r, zz_ret_l, zz_ret_r, zz_ret_if, zz_sw_cons, zz_sw_nil, ↓zz_ck_b, ↓zz_ck_0, ↓zz_ck_1, Option.toList, List.cons_append, List.nil_append, List.append_nil, Bool.and_true, Bool.true_and, Bool.and_false, Bool.false_and, Bool.and_self, ite_not, zz_ary_0, zz_na1, zz_na2, zz_na3, zz_nI_ix, zz_nI_in, up_eq, lg_cc, q10, q20, q30, eq_self, ↓reduceIte, not_true_eq_false, not_false_eq_true, hh, hm, h89]
        exact rfl
    · have hh : zz_Call zz_prog (d + 21) 164 [.ref 5, .int (I 0 (i + 1)), .int (I 0 (i + 2)), .int (I 0 (i + 3)), .ref 44] (zz_hp n I J ex) = some (.inl (some (.int 2)), false, zz_hp n I J (ex ++ [(4, 4)])) := h164t4 _ _ _ (hT d n J ex)
      obtain ⟨X, f2, hm', g0', hRX⟩ := hM (d + 14) n J (ex ++ [(4, 4)])
      have hm : zz_Call zz_prog (d + 21) 132 [.ref 23, .int (I 0 (i + 1)), .int (I 0 (i + 2)), .int (I 0 (i + 3))] (zz_hp n I J (ex ++ [(4, 4)])) = some (.inl w, f2, zz_hp n X J (ex ++ [(4, 4)])) := hm'
      have g0 : X 23 0 = 2 := g0'
      have hv := zz_Call_rt (b := true) p132 rfl hm
      obtain ⟨u, rfl⟩ := hv
      have h89 := c89 (d := d + 20) (n := n) (I := X) (J := J) (ex := ex ++ [(4, 4)])
      rw [g0] at h89
      refine ⟨X, J, ex ++ [(4, 4)], ?_, ?_, ?_, ?_, hRX, Or.inr ⟨4, rfl⟩⟩
      rotate_left 3
      · simp (disch := first | omega | decide | assumption | (refine hcN_lt ?_; omega) | (refine ecN_lt ?_; omega) | (refine hcN_lt2 ?_; omega) | (refine ecN_lt2 ?_; omega)) only [s179_592, s179_593, s179_594, s179_596, s179_597, s179_598, s179_599, s179_600, s179_602, s179_603, s179_604, s179_605, s179_606, s179_608, s179_609, s179_610, s179_611, s179_612, s179_615, s179_617, s179_618, s179_619, s179_621, s179_622, s179_623, s179_624, s179_625, s179_627, s179_628, s179_629, s179_630, s179_631, s179_633, s179_634, s179_635, s179_636, s179_639, s179_641, s179_642, s179_645, s179_647, s179_650, s179_651, s179_652, s179_654, s179_657, s179_658, s179_659, s179_660, s179_662, s179_663, s179_664, s179_667, s179_668, s179_669, zz_ck_t, zz_sl_n, zz_sl_i, zz_sl_r, zz_ret_l, zz_ret_r, zz_ret_if, zz_sw_cons, zz_sw_nil, ↓zz_ck_b, ↓zz_ck_0, ↓zz_ck_1, Option.toList, List.cons_append, List.nil_append, List.append_nil, Bool.and_true, Bool.true_and, Bool.and_false, Bool.false_and, Bool.and_self, ite_not, zz_ary_0, zz_na1, zz_na2, zz_na3, zz_nI_ix, zz_nI_in, up_eq, lg_cc, q10, q20, q30, eq_self, ↓reduceIte, not_true_eq_false, not_false_eq_true, hh, hm, h89]
        exact rfl
theorem l672 (hR : Rel I (J 5 4)) (hi : i + 4 ≤ n) (hn : n ≤ 2048) : Nx d n i ex (672, [some (.ref 0), some (.ref 5), some (.ref 23), some (.ref 44), some (.int (nI i)), l5, l6], [], f, zz_hp n I J ex) := by
  rcases op_bank (I 0 (i + 1)) (I 0 (i + 2)) I _ hR with ⟨I1, v, hC, hM⟩ | ⟨e, hT, hne, w, hM⟩
  · obtain ⟨f1, hc⟩ := hC d n J ex rfl
    have hv := zz_Call_rt (b := true) p9 rfl hc
    obtain ⟨u, rfl⟩ := hv
    have z0 := call_0 hc
    have hh : zz_Call zz_prog (d + 21) 165 [.ref 5, .int (I 0 (i + 1)), .int (I 0 (i + 2)), .ref 44] (zz_hp n I J ex) = some (.inl (some (.int 0)), false, zz_hp n I1 (zz_up J 44 0 u.toInt64) ex) := h165o _ _ hc
    obtain ⟨X, f2, hm', g0, hRX⟩ := hM (d + 14) n (zz_up J 44 0 u.toInt64) ex
    have hm : zz_Call zz_prog (d + 21) 134 [.ref 23, .int (I 0 (i + 1)), .int (I 0 (i + 2))] (zz_hp n I1 (zz_up J 44 0 u.toInt64) ex) = some (.inl (some (.int u)), f2, zz_hp n X (zz_up J 44 0 u.toInt64) ex) := hm'
    have h89 := c89 (d := d + 20) (n := n) (I := X) (J := (zz_up J 44 0 u.toInt64)) (ex := ex)
    rw [g0] at h89
    refine ⟨X, (zz_up J 44 0 u.toInt64), ex, ?_, ?_, ?_, ?_, hRX, Or.inl rfl⟩
    rotate_left 3
    · simp (disch := first | omega | decide | assumption | (refine hcN_lt ?_; omega) | (refine ecN_lt ?_; omega) | (refine hcN_lt2 ?_; omega) | (refine ecN_lt2 ?_; omega)) only [s179_672, s179_673, s179_674, s179_676, s179_677, s179_678, s179_679, s179_680, s179_682, s179_683, s179_684, s179_685, s179_686, s179_689, s179_691, s179_692, s179_693, s179_695, s179_696, s179_697, s179_698, s179_699, s179_701, s179_702, s179_703, s179_704, s179_707, s179_709, s179_710, s179_713, s179_715, s179_718, s179_719, s179_720, s179_722, s179_725, s179_726, s179_727, s179_728, s179_730, s179_731, s179_732, s179_735, s179_736, s179_737, zz_ck_t, zz_sl_n, zz_sl_i, zz_sl_r, zz_ret_l, zz_ret_r, zz_ret_if, zz_sw_cons, zz_sw_nil, ↓zz_ck_b, ↓zz_ck_0, ↓zz_ck_1, Option.toList, List.cons_append, List.nil_append, List.append_nil, Bool.and_true, Bool.true_and, Bool.and_false, Bool.false_and, Bool.and_self, ite_not, zz_ary_0, zz_na1, zz_na2, zz_na3, zz_nI_ix, zz_nI_in, up_eq, lg_cc, q10, q20, q30, eq_self, ↓reduceIte, not_true_eq_false, not_false_eq_true, hh, z0, hm, h89]
      exact rfl
  · have he := kd_43 hne
    rcases he with rfl | rfl
    · have hh : zz_Call zz_prog (d + 21) 165 [.ref 5, .int (I 0 (i + 1)), .int (I 0 (i + 2)), .ref 44] (zz_hp n I J ex) = some (.inl (some (.int 1)), false, zz_hp n I J (ex ++ [(4, 4)])) := h165t4 _ _ (hT d n J ex)
      obtain ⟨X, f2, hm', g0', hRX⟩ := hM (d + 14) n J (ex ++ [(4, 4)])
      have hm : zz_Call zz_prog (d + 21) 134 [.ref 23, .int (I 0 (i + 1)), .int (I 0 (i + 2))] (zz_hp n I J (ex ++ [(4, 4)])) = some (.inl w, f2, zz_hp n X J (ex ++ [(4, 4)])) := hm'
      have g0 : X 23 0 = 1 := g0'
      have hv := zz_Call_rt (b := true) p134 rfl hm
      obtain ⟨u, rfl⟩ := hv
      have h89 := c89 (d := d + 20) (n := n) (I := X) (J := J) (ex := ex ++ [(4, 4)])
      rw [g0] at h89
      refine ⟨X, J, ex ++ [(4, 4)], ?_, ?_, ?_, ?_, hRX, Or.inr ⟨4, rfl⟩⟩
      rotate_left 3
      · simp (disch := first | omega | decide | assumption | (refine hcN_lt ?_; omega) | (refine ecN_lt ?_; omega) | (refine hcN_lt2 ?_; omega) | (refine ecN_lt2 ?_; omega)) only [s179_672, s179_673, s179_674, s179_676, s179_677, s179_678, s179_679, s179_680, s179_682, s179_683, s179_684, s179_685, s179_686, s179_689, s179_691, s179_692, s179_693, s179_695, s179_696, s179_697, s179_698, s179_699, s179_701, s179_702, s179_703, s179_704, s179_707, s179_709, s179_710, s179_713, s179_715, s179_718, s179_719, s179_720, s179_722, s179_725, s179_726, s179_727, s179_728, s179_730, s179_731, s179_732, s179_735, s179_736, s179_737, zz_ck_t, zz_sl_n, zz_sl_i, zz_sl_r, zz_ret_l, zz_ret_r, zz_ret_if, zz_sw_cons, zz_sw_nil, ↓zz_ck_b, ↓zz_ck_0, ↓zz_ck_1, Option.toList, List.cons_append, List.nil_append, List.append_nil, Bool.and_true, Bool.true_and, Bool.and_false, Bool.false_and, Bool.and_self, ite_not, zz_ary_0, zz_na1, zz_na2, zz_na3, zz_nI_ix, zz_nI_in, up_eq, lg_cc, q10, q20, q30, eq_self, ↓reduceIte, not_true_eq_false, not_false_eq_true, hh, hm, h89]
        exact rfl
    · have hh : zz_Call zz_prog (d + 21) 165 [.ref 5, .int (I 0 (i + 1)), .int (I 0 (i + 2)), .ref 44] (zz_hp n I J ex) = some (.inl (some (.int 2)), false, zz_hp n I J (ex ++ [(4, 3)])) := h165t3 _ _ (hT d n J ex)
      obtain ⟨X, f2, hm', g0', hRX⟩ := hM (d + 14) n J (ex ++ [(4, 3)])
      have hm : zz_Call zz_prog (d + 21) 134 [.ref 23, .int (I 0 (i + 1)), .int (I 0 (i + 2))] (zz_hp n I J (ex ++ [(4, 3)])) = some (.inl w, f2, zz_hp n X J (ex ++ [(4, 3)])) := hm'
      have g0 : X 23 0 = 2 := g0'
      have hv := zz_Call_rt (b := true) p134 rfl hm
      obtain ⟨u, rfl⟩ := hv
      have h89 := c89 (d := d + 20) (n := n) (I := X) (J := J) (ex := ex ++ [(4, 3)])
      rw [g0] at h89
      refine ⟨X, J, ex ++ [(4, 3)], ?_, ?_, ?_, ?_, hRX, Or.inr ⟨3, rfl⟩⟩
      rotate_left 3
      · simp (disch := first | omega | decide | assumption | (refine hcN_lt ?_; omega) | (refine ecN_lt ?_; omega) | (refine hcN_lt2 ?_; omega) | (refine ecN_lt2 ?_; omega)) only [s179_672, s179_673, s179_674, s179_676, s179_677, s179_678, s179_679, s179_680, s179_682, s179_683, s179_684, s179_685, s179_686, s179_689, s179_691, s179_692, s179_693, s179_695, s179_696, s179_697, s179_698, s179_699, s179_701, s179_702, s179_703, s179_704, s179_707, s179_709, s179_710, s179_713, s179_715, s179_718, s179_719, s179_720, s179_722, s179_725, s179_726, s179_727, s179_728, s179_730, s179_731, s179_732, s179_735, s179_736, s179_737, zz_ck_t, zz_sl_n, zz_sl_i, zz_sl_r, zz_ret_l, zz_ret_r, zz_ret_if, zz_sw_cons, zz_sw_nil, ↓zz_ck_b, ↓zz_ck_0, ↓zz_ck_1, Option.toList, List.cons_append, List.nil_append, List.append_nil, Bool.and_true, Bool.true_and, Bool.and_false, Bool.false_and, Bool.and_self, ite_not, zz_ary_0, zz_na1, zz_na2, zz_na3, zz_nI_ix, zz_nI_in, up_eq, lg_cc, q10, q20, q30, eq_self, ↓reduceIte, not_true_eq_false, not_false_eq_true, hh, hm, h89]
        exact rfl
theorem l740 (hR : Rel I (J 5 4)) (hi : i + 4 ≤ n) (hn : n ≤ 2048) : Nx d n i ex (740, [some (.ref 0), some (.ref 5), some (.ref 23), some (.ref 44), some (.int (nI i)), l5, l6], [], f, zz_hp n I J ex) := by
  rcases op_offer (I 0 (i + 1)) (I 0 (i + 2)) (I 0 (i + 3)) I _ hR with ⟨I1, v, hC, hM⟩ | ⟨e, hT, hne, w, hM⟩
  · obtain ⟨f1, hc⟩ := hC d n J ex rfl
    have hv := zz_Call_rt (b := false) p10 rfl hc
    obtain rfl := hv
    have z0 := call_0 hc
    have hh : zz_Call zz_prog (d + 21) 166 [.ref 5, .int (I 0 (i + 1)), .int (I 0 (i + 2)), .int (I 0 (i + 3))] (zz_hp n I J ex) = some (.inl (some (.int 0)), f1, zz_hp n I1 J ex) := h166o _ _ _ hc
    obtain ⟨X, f2, hm', g0, hRX⟩ := hM (d + 14) n J ex
    have hm : zz_Call zz_prog (d + 21) 136 [.ref 23, .int (I 0 (i + 1)), .int (I 0 (i + 2)), .int (I 0 (i + 3))] (zz_hp n I1 J ex) = some (.inl none, f2, zz_hp n X J ex) := hm'
    have h89 := c89 (d := d + 20) (n := n) (I := X) (J := J) (ex := ex)
    rw [g0] at h89
    refine ⟨X, J, ex, ?_, ?_, ?_, ?_, hRX, Or.inl rfl⟩
    rotate_left 3
    · simp (disch := first | omega | decide | assumption | (refine hcN_lt ?_; omega) | (refine ecN_lt ?_; omega) | (refine hcN_lt2 ?_; omega) | (refine ecN_lt2 ?_; omega)) only [s179_740, s179_741, s179_742, s179_744, s179_745, s179_746, s179_747, s179_748, s179_750, s179_751, s179_752, s179_753, s179_754, s179_756, s179_757, s179_758, s179_759, s179_762, s179_764, s179_765, s179_766, s179_768, s179_769, s179_770, s179_771, s179_772, s179_774, s179_775, s179_776, s179_777, s179_778, s179_780, s179_781, s179_782, s179_783, s179_786, s179_787, s179_790, s179_792, s179_795, s179_796, s179_797, zz_ck_t, zz_sl_n, zz_sl_i, zz_sl_r, zz_ret_l, zz_ret_r, zz_ret_if, zz_sw_cons, zz_sw_nil, ↓zz_ck_b, ↓zz_ck_0, ↓zz_ck_1, Option.toList, List.cons_append, List.nil_append, List.append_nil, Bool.and_true, Bool.true_and, Bool.and_false, Bool.false_and, Bool.and_self, ite_not, zz_ary_0, zz_na1, zz_na2, zz_na3, zz_nI_ix, zz_nI_in, up_eq, lg_cc, q10, q20, q30, eq_self, ↓reduceIte, not_true_eq_false, not_false_eq_true, hh, z0, hm, h89]
      exact rfl
  · have he := kd_43 hne
    rcases he with rfl | rfl
    · have hh : zz_Call zz_prog (d + 21) 166 [.ref 5, .int (I 0 (i + 1)), .int (I 0 (i + 2)), .int (I 0 (i + 3))] (zz_hp n I J ex) = some (.inl (some (.int 1)), false, zz_hp n I J (ex ++ [(4, 4)])) := h166t4 _ _ _ (hT d n J ex)
      obtain ⟨X, f2, hm', g0', hRX⟩ := hM (d + 14) n J (ex ++ [(4, 4)])
      have hm : zz_Call zz_prog (d + 21) 136 [.ref 23, .int (I 0 (i + 1)), .int (I 0 (i + 2)), .int (I 0 (i + 3))] (zz_hp n I J (ex ++ [(4, 4)])) = some (.inl w, f2, zz_hp n X J (ex ++ [(4, 4)])) := hm'
      have g0 : X 23 0 = 1 := g0'
      have hv := zz_Call_rt (b := false) p136 rfl hm
      obtain rfl := hv
      have h89 := c89 (d := d + 20) (n := n) (I := X) (J := J) (ex := ex ++ [(4, 4)])
      rw [g0] at h89
      refine ⟨X, J, ex ++ [(4, 4)], ?_, ?_, ?_, ?_, hRX, Or.inr ⟨4, rfl⟩⟩
      rotate_left 3
      · simp (disch := first | omega | decide | assumption | (refine hcN_lt ?_; omega) | (refine ecN_lt ?_; omega) | (refine hcN_lt2 ?_; omega) | (refine ecN_lt2 ?_; omega)) only [s179_740, s179_741, s179_742, s179_744, s179_745, s179_746, s179_747, s179_748, s179_750, s179_751, s179_752, s179_753, s179_754, s179_756, s179_757, s179_758, s179_759, s179_762, s179_764, s179_765, s179_766, s179_768, s179_769, s179_770, s179_771, s179_772, s179_774, s179_775, s179_776, s179_777, s179_778, s179_780, s179_781, s179_782, s179_783, s179_786, s179_787, s179_790, s179_792, s179_795, s179_796, s179_797, zz_ck_t, zz_sl_n, zz_sl_i, zz_sl_r, zz_ret_l, zz_ret_r, zz_ret_if, zz_sw_cons, zz_sw_nil, ↓zz_ck_b, ↓zz_ck_0, ↓zz_ck_1, Option.toList, List.cons_append, List.nil_append, List.append_nil, Bool.and_true, Bool.true_and, Bool.and_false, Bool.false_and, Bool.and_self, ite_not, zz_ary_0, zz_na1, zz_na2, zz_na3, zz_nI_ix, zz_nI_in, up_eq, lg_cc, q10, q20, q30, eq_self, ↓reduceIte, not_true_eq_false, not_false_eq_true, hh, hm, h89]
        exact rfl
    · have hh : zz_Call zz_prog (d + 21) 166 [.ref 5, .int (I 0 (i + 1)), .int (I 0 (i + 2)), .int (I 0 (i + 3))] (zz_hp n I J ex) = some (.inl (some (.int 2)), false, zz_hp n I J (ex ++ [(4, 3)])) := h166t3 _ _ _ (hT d n J ex)
      obtain ⟨X, f2, hm', g0', hRX⟩ := hM (d + 14) n J (ex ++ [(4, 3)])
      have hm : zz_Call zz_prog (d + 21) 136 [.ref 23, .int (I 0 (i + 1)), .int (I 0 (i + 2)), .int (I 0 (i + 3))] (zz_hp n I J (ex ++ [(4, 3)])) = some (.inl w, f2, zz_hp n X J (ex ++ [(4, 3)])) := hm'
      have g0 : X 23 0 = 2 := g0'
      have hv := zz_Call_rt (b := false) p136 rfl hm
      obtain rfl := hv
      have h89 := c89 (d := d + 20) (n := n) (I := X) (J := J) (ex := ex ++ [(4, 3)])
      rw [g0] at h89
      refine ⟨X, J, ex ++ [(4, 3)], ?_, ?_, ?_, ?_, hRX, Or.inr ⟨3, rfl⟩⟩
      rotate_left 3
      · simp (disch := first | omega | decide | assumption | (refine hcN_lt ?_; omega) | (refine ecN_lt ?_; omega) | (refine hcN_lt2 ?_; omega) | (refine ecN_lt2 ?_; omega)) only [s179_740, s179_741, s179_742, s179_744, s179_745, s179_746, s179_747, s179_748, s179_750, s179_751, s179_752, s179_753, s179_754, s179_756, s179_757, s179_758, s179_759, s179_762, s179_764, s179_765, s179_766, s179_768, s179_769, s179_770, s179_771, s179_772, s179_774, s179_775, s179_776, s179_777, s179_778, s179_780, s179_781, s179_782, s179_783, s179_786, s179_787, s179_790, s179_792, s179_795, s179_796, s179_797, zz_ck_t, zz_sl_n, zz_sl_i, zz_sl_r, zz_ret_l, zz_ret_r, zz_ret_if, zz_sw_cons, zz_sw_nil, ↓zz_ck_b, ↓zz_ck_0, ↓zz_ck_1, Option.toList, List.cons_append, List.nil_append, List.append_nil, Bool.and_true, Bool.true_and, Bool.and_false, Bool.false_and, Bool.and_self, ite_not, zz_ary_0, zz_na1, zz_na2, zz_na3, zz_nI_ix, zz_nI_in, up_eq, lg_cc, q10, q20, q30, eq_self, ↓reduceIte, not_true_eq_false, not_false_eq_true, hh, hm, h89]
        exact rfl
theorem l800 (hR : Rel I (J 5 4)) (hi : i + 4 ≤ n) (hn : n ≤ 2048) : Nx d n i ex (800, [some (.ref 0), some (.ref 5), some (.ref 23), some (.ref 44), some (.int (nI i)), l5, l6], [], f, zz_hp n I J ex) := by
  rcases op_accept I _ hR with ⟨I1, v, hC, hM⟩ | ⟨e, hT, hne, w, hM⟩
  · obtain ⟨f1, hc⟩ := hC d n J ex rfl
    have hv := zz_Call_rt (b := true) p11 rfl hc
    obtain ⟨u, rfl⟩ := hv
    have z0 := call_0 hc
    have hh : zz_Call zz_prog (d + 21) 167 [.ref 5, .ref 44] (zz_hp n I J ex) = some (.inl (some (.int 0)), false, zz_hp n I1 (zz_up J 44 0 u.toInt64) ex) := h167o  hc
    obtain ⟨X, f2, hm', g0, hRX⟩ := hM (d + 14) n (zz_up J 44 0 u.toInt64) ex
    have hm : zz_Call zz_prog (d + 21) 137 [.ref 23] (zz_hp n I1 (zz_up J 44 0 u.toInt64) ex) = some (.inl (some (.int u)), f2, zz_hp n X (zz_up J 44 0 u.toInt64) ex) := hm'
    have h89 := c89 (d := d + 20) (n := n) (I := X) (J := (zz_up J 44 0 u.toInt64)) (ex := ex)
    rw [g0] at h89
    refine ⟨X, (zz_up J 44 0 u.toInt64), ex, ?_, ?_, ?_, ?_, hRX, Or.inl rfl⟩
    rotate_left 3
    · simp (disch := first | omega | decide | assumption | (refine hcN_lt ?_; omega) | (refine ecN_lt ?_; omega) | (refine hcN_lt2 ?_; omega) | (refine ecN_lt2 ?_; omega)) only [s179_800, s179_801, s179_802, s179_805, s179_807, s179_808, s179_811, s179_813, s179_814, s179_817, s179_819, s179_822, s179_823, s179_824, s179_826, s179_829, s179_830, s179_831, s179_832, s179_834, s179_835, s179_836, s179_839, s179_840, s179_841, zz_ck_t, zz_sl_n, zz_sl_i, zz_sl_r, zz_ret_l, zz_ret_r, zz_ret_if, zz_sw_cons, zz_sw_nil, ↓zz_ck_b, ↓zz_ck_0, ↓zz_ck_1, Option.toList, List.cons_append, List.nil_append, List.append_nil, Bool.and_true, Bool.true_and, Bool.and_false, Bool.false_and, Bool.and_self, ite_not, zz_ary_0, zz_na1, zz_na2, zz_na3, zz_nI_ix, zz_nI_in, up_eq, lg_cc, q10, q20, q30, eq_self, ↓reduceIte, not_true_eq_false, not_false_eq_true, hh, z0, hm, h89]
      exact rfl
  · have he := kd_3 hne
    subst he
    · have hh : zz_Call zz_prog (d + 21) 167 [.ref 5, .ref 44] (zz_hp n I J ex) = some (.inl (some (.int 1)), false, zz_hp n I J (ex ++ [(4, 3)])) := h167t3  (hT d n J ex)
      obtain ⟨X, f2, hm', g0', hRX⟩ := hM (d + 14) n J (ex ++ [(4, 3)])
      have hm : zz_Call zz_prog (d + 21) 137 [.ref 23] (zz_hp n I J (ex ++ [(4, 3)])) = some (.inl w, f2, zz_hp n X J (ex ++ [(4, 3)])) := hm'
      have g0 : X 23 0 = 1 := g0'
      have hv := zz_Call_rt (b := true) p137 rfl hm
      obtain ⟨u, rfl⟩ := hv
      have h89 := c89 (d := d + 20) (n := n) (I := X) (J := J) (ex := ex ++ [(4, 3)])
      rw [g0] at h89
      refine ⟨X, J, ex ++ [(4, 3)], ?_, ?_, ?_, ?_, hRX, Or.inr ⟨3, rfl⟩⟩
      rotate_left 3
      · simp (disch := first | omega | decide | assumption | (refine hcN_lt ?_; omega) | (refine ecN_lt ?_; omega) | (refine hcN_lt2 ?_; omega) | (refine ecN_lt2 ?_; omega)) only [s179_800, s179_801, s179_802, s179_805, s179_807, s179_808, s179_811, s179_813, s179_814, s179_817, s179_819, s179_822, s179_823, s179_824, s179_826, s179_829, s179_830, s179_831, s179_832, s179_834, s179_835, s179_836, s179_839, s179_840, s179_841, zz_ck_t, zz_sl_n, zz_sl_i, zz_sl_r, zz_ret_l, zz_ret_r, zz_ret_if, zz_sw_cons, zz_sw_nil, ↓zz_ck_b, ↓zz_ck_0, ↓zz_ck_1, Option.toList, List.cons_append, List.nil_append, List.append_nil, Bool.and_true, Bool.true_and, Bool.and_false, Bool.false_and, Bool.and_self, ite_not, zz_ary_0, zz_na1, zz_na2, zz_na3, zz_nI_ix, zz_nI_in, up_eq, lg_cc, q10, q20, q30, eq_self, ↓reduceIte, not_true_eq_false, not_false_eq_true, hh, hm, h89]
        exact rfl
theorem l844 (hR : Rel I (J 5 4)) (hi : i + 4 ≤ n) (hn : n ≤ 2048) : Nx d n i ex (844, [some (.ref 0), some (.ref 5), some (.ref 23), some (.ref 44), some (.int (nI i)), l5, l6], [], f, zz_hp n I J ex) := by
  rcases op_buy I _ hR with ⟨I1, v, hC, hM⟩ | ⟨e, hT, hne, w, hM⟩
  · obtain ⟨f1, hc⟩ := hC d n J ex rfl
    have hv := zz_Call_rt (b := true) p12 rfl hc
    obtain ⟨u, rfl⟩ := hv
    have z0 := call_0 hc
    have hh : zz_Call zz_prog (d + 21) 168 [.ref 5, .ref 44] (zz_hp n I J ex) = some (.inl (some (.int 0)), false, zz_hp n I1 (zz_up J 44 0 u.toInt64) ex) := h168o  hc
    obtain ⟨X, f2, hm', g0, hRX⟩ := hM (d + 14) n (zz_up J 44 0 u.toInt64) ex
    have hm : zz_Call zz_prog (d + 21) 138 [.ref 23] (zz_hp n I1 (zz_up J 44 0 u.toInt64) ex) = some (.inl (some (.int u)), f2, zz_hp n X (zz_up J 44 0 u.toInt64) ex) := hm'
    have h89 := c89 (d := d + 20) (n := n) (I := X) (J := (zz_up J 44 0 u.toInt64)) (ex := ex)
    rw [g0] at h89
    refine ⟨X, (zz_up J 44 0 u.toInt64), ex, ?_, ?_, ?_, ?_, hRX, Or.inl rfl⟩
    rotate_left 3
    · simp (disch := first | omega | decide | assumption | (refine hcN_lt ?_; omega) | (refine ecN_lt ?_; omega) | (refine hcN_lt2 ?_; omega) | (refine ecN_lt2 ?_; omega)) only [s179_844, s179_845, s179_846, s179_849, s179_851, s179_852, s179_855, s179_857, s179_858, s179_861, s179_863, s179_866, s179_867, s179_868, s179_870, s179_873, s179_874, s179_875, s179_876, s179_878, s179_879, s179_880, s179_883, s179_884, s179_885, zz_ck_t, zz_sl_n, zz_sl_i, zz_sl_r, zz_ret_l, zz_ret_r, zz_ret_if, zz_sw_cons, zz_sw_nil, ↓zz_ck_b, ↓zz_ck_0, ↓zz_ck_1, Option.toList, List.cons_append, List.nil_append, List.append_nil, Bool.and_true, Bool.true_and, Bool.and_false, Bool.false_and, Bool.and_self, ite_not, zz_ary_0, zz_na1, zz_na2, zz_na3, zz_nI_ix, zz_nI_in, up_eq, lg_cc, q10, q20, q30, eq_self, ↓reduceIte, not_true_eq_false, not_false_eq_true, hh, z0, hm, h89]
      exact rfl
  · have he := kd_3 hne
    subst he
    · have hh : zz_Call zz_prog (d + 21) 168 [.ref 5, .ref 44] (zz_hp n I J ex) = some (.inl (some (.int 1)), false, zz_hp n I J (ex ++ [(4, 3)])) := h168t3  (hT d n J ex)
      obtain ⟨X, f2, hm', g0', hRX⟩ := hM (d + 14) n J (ex ++ [(4, 3)])
      have hm : zz_Call zz_prog (d + 21) 138 [.ref 23] (zz_hp n I J (ex ++ [(4, 3)])) = some (.inl w, f2, zz_hp n X J (ex ++ [(4, 3)])) := hm'
      have g0 : X 23 0 = 1 := g0'
      have hv := zz_Call_rt (b := true) p138 rfl hm
      obtain ⟨u, rfl⟩ := hv
      have h89 := c89 (d := d + 20) (n := n) (I := X) (J := J) (ex := ex ++ [(4, 3)])
      rw [g0] at h89
      refine ⟨X, J, ex ++ [(4, 3)], ?_, ?_, ?_, ?_, hRX, Or.inr ⟨3, rfl⟩⟩
      rotate_left 3
      · simp (disch := first | omega | decide | assumption | (refine hcN_lt ?_; omega) | (refine ecN_lt ?_; omega) | (refine hcN_lt2 ?_; omega) | (refine ecN_lt2 ?_; omega)) only [s179_844, s179_845, s179_846, s179_849, s179_851, s179_852, s179_855, s179_857, s179_858, s179_861, s179_863, s179_866, s179_867, s179_868, s179_870, s179_873, s179_874, s179_875, s179_876, s179_878, s179_879, s179_880, s179_883, s179_884, s179_885, zz_ck_t, zz_sl_n, zz_sl_i, zz_sl_r, zz_ret_l, zz_ret_r, zz_ret_if, zz_sw_cons, zz_sw_nil, ↓zz_ck_b, ↓zz_ck_0, ↓zz_ck_1, Option.toList, List.cons_append, List.nil_append, List.append_nil, Bool.and_true, Bool.true_and, Bool.and_false, Bool.false_and, Bool.and_self, ite_not, zz_ary_0, zz_na1, zz_na2, zz_na3, zz_nI_ix, zz_nI_in, up_eq, lg_cc, q10, q20, q30, eq_self, ↓reduceIte, not_true_eq_false, not_false_eq_true, hh, hm, h89]
        exact rfl
theorem l888 (hR : Rel I (J 5 4)) (hi : i + 4 ≤ n) (hn : n ≤ 2048) : Nx d n i ex (888, [some (.ref 0), some (.ref 5), some (.ref 23), some (.ref 44), some (.int (nI i)), l5, l6], [], f, zz_hp n I J ex) := by
  rcases op_play (I 0 (i + 1)) (I 0 (i + 2)) (I 0 (i + 3)) I _ hR with ⟨I1, v, hC, hM⟩ | ⟨e, hT, hne, w, hM⟩
  · obtain ⟨f1, hc⟩ := hC d n J ex rfl
    have hv := zz_Call_rt (b := true) p13 rfl hc
    obtain ⟨u, rfl⟩ := hv
    have z0 := call_0 hc
    have hh : zz_Call zz_prog (d + 21) 169 [.ref 5, .int (I 0 (i + 1)), .int (I 0 (i + 2)), .int (I 0 (i + 3)), .ref 44] (zz_hp n I J ex) = some (.inl (some (.int 0)), false, zz_hp n I1 (zz_up J 44 0 u.toInt64) ex) := h169o _ _ _ hc
    obtain ⟨X, f2, hm', g0, hRX⟩ := hM (d + 14) n (zz_up J 44 0 u.toInt64) ex
    have hm : zz_Call zz_prog (d + 21) 141 [.ref 23, .int (I 0 (i + 1)), .int (I 0 (i + 2)), .int (I 0 (i + 3))] (zz_hp n I1 (zz_up J 44 0 u.toInt64) ex) = some (.inl (some (.int u)), f2, zz_hp n X (zz_up J 44 0 u.toInt64) ex) := hm'
    have h89 := c89 (d := d + 20) (n := n) (I := X) (J := (zz_up J 44 0 u.toInt64)) (ex := ex)
    rw [g0] at h89
    refine ⟨X, (zz_up J 44 0 u.toInt64), ex, ?_, ?_, ?_, ?_, hRX, Or.inl rfl⟩
    rotate_left 3
    · simp (disch := first | omega | decide | assumption | (refine hcN_lt ?_; omega) | (refine ecN_lt ?_; omega) | (refine hcN_lt2 ?_; omega) | (refine ecN_lt2 ?_; omega)) only [s179_888, s179_889, s179_890, s179_892, s179_893, s179_894, s179_895, s179_896, s179_898, s179_899, s179_900, s179_901, s179_902, s179_904, s179_905, s179_906, s179_907, s179_908, s179_911, s179_913, s179_914, s179_915, s179_917, s179_918, s179_919, s179_920, s179_921, s179_923, s179_924, s179_925, s179_926, s179_927, s179_929, s179_930, s179_931, s179_932, s179_935, s179_937, s179_938, s179_941, s179_943, s179_946, s179_947, s179_948, s179_950, s179_953, s179_954, s179_955, s179_956, s179_958, s179_959, s179_960, s179_963, s179_964, s179_965, zz_ck_t, zz_sl_n, zz_sl_i, zz_sl_r, zz_ret_l, zz_ret_r, zz_ret_if, zz_sw_cons, zz_sw_nil, ↓zz_ck_b, ↓zz_ck_0, ↓zz_ck_1, Option.toList, List.cons_append, List.nil_append, List.append_nil, Bool.and_true, Bool.true_and, Bool.and_false, Bool.false_and, Bool.and_self, ite_not, zz_ary_0, zz_na1, zz_na2, zz_na3, zz_nI_ix, zz_nI_in, up_eq, lg_cc, q10, q20, q30, eq_self, ↓reduceIte, not_true_eq_false, not_false_eq_true, hh, z0, hm, h89]
      exact rfl
  · have he := kd_43 hne
    rcases he with rfl | rfl
    · have hh : zz_Call zz_prog (d + 21) 169 [.ref 5, .int (I 0 (i + 1)), .int (I 0 (i + 2)), .int (I 0 (i + 3)), .ref 44] (zz_hp n I J ex) = some (.inl (some (.int 1)), false, zz_hp n I J (ex ++ [(4, 4)])) := h169t4 _ _ _ (hT d n J ex)
      obtain ⟨X, f2, hm', g0', hRX⟩ := hM (d + 14) n J (ex ++ [(4, 4)])
      have hm : zz_Call zz_prog (d + 21) 141 [.ref 23, .int (I 0 (i + 1)), .int (I 0 (i + 2)), .int (I 0 (i + 3))] (zz_hp n I J (ex ++ [(4, 4)])) = some (.inl w, f2, zz_hp n X J (ex ++ [(4, 4)])) := hm'
      have g0 : X 23 0 = 1 := g0'
      have hv := zz_Call_rt (b := true) p141 rfl hm
      obtain ⟨u, rfl⟩ := hv
      have h89 := c89 (d := d + 20) (n := n) (I := X) (J := J) (ex := ex ++ [(4, 4)])
      rw [g0] at h89
      refine ⟨X, J, ex ++ [(4, 4)], ?_, ?_, ?_, ?_, hRX, Or.inr ⟨4, rfl⟩⟩
      rotate_left 3
      · simp (disch := first | omega | decide | assumption | (refine hcN_lt ?_; omega) | (refine ecN_lt ?_; omega) | (refine hcN_lt2 ?_; omega) | (refine ecN_lt2 ?_; omega)) only [s179_888, s179_889, s179_890, s179_892, s179_893, s179_894, s179_895, s179_896, s179_898, s179_899, s179_900, s179_901, s179_902, s179_904, s179_905, s179_906, s179_907, s179_908, s179_911, s179_913, s179_914, s179_915, s179_917, s179_918, s179_919, s179_920, s179_921, s179_923, s179_924, s179_925, s179_926, s179_927, s179_929, s179_930, s179_931, s179_932, s179_935, s179_937, s179_938, s179_941, s179_943, s179_946, s179_947, s179_948, s179_950, s179_953, s179_954, s179_955, s179_956, s179_958, s179_959, s179_960, s179_963, s179_964, s179_965, zz_ck_t, zz_sl_n, zz_sl_i, zz_sl_r, zz_ret_l, zz_ret_r, zz_ret_if, zz_sw_cons, zz_sw_nil, ↓zz_ck_b, ↓zz_ck_0, ↓zz_ck_1, Option.toList, List.cons_append, List.nil_append, List.append_nil, Bool.and_true, Bool.true_and, Bool.and_false, Bool.false_and, Bool.and_self, ite_not, zz_ary_0, zz_na1, zz_na2, zz_na3, zz_nI_ix, zz_nI_in, up_eq, lg_cc, q10, q20, q30, eq_self, ↓reduceIte, not_true_eq_false, not_false_eq_true, hh, hm, h89]
        exact rfl
    · have hh : zz_Call zz_prog (d + 21) 169 [.ref 5, .int (I 0 (i + 1)), .int (I 0 (i + 2)), .int (I 0 (i + 3)), .ref 44] (zz_hp n I J ex) = some (.inl (some (.int 2)), false, zz_hp n I J (ex ++ [(4, 3)])) := h169t3 _ _ _ (hT d n J ex)
      obtain ⟨X, f2, hm', g0', hRX⟩ := hM (d + 14) n J (ex ++ [(4, 3)])
      have hm : zz_Call zz_prog (d + 21) 141 [.ref 23, .int (I 0 (i + 1)), .int (I 0 (i + 2)), .int (I 0 (i + 3))] (zz_hp n I J (ex ++ [(4, 3)])) = some (.inl w, f2, zz_hp n X J (ex ++ [(4, 3)])) := hm'
      have g0 : X 23 0 = 2 := g0'
      have hv := zz_Call_rt (b := true) p141 rfl hm
      obtain ⟨u, rfl⟩ := hv
      have h89 := c89 (d := d + 20) (n := n) (I := X) (J := J) (ex := ex ++ [(4, 3)])
      rw [g0] at h89
      refine ⟨X, J, ex ++ [(4, 3)], ?_, ?_, ?_, ?_, hRX, Or.inr ⟨3, rfl⟩⟩
      rotate_left 3
      · simp (disch := first | omega | decide | assumption | (refine hcN_lt ?_; omega) | (refine ecN_lt ?_; omega) | (refine hcN_lt2 ?_; omega) | (refine ecN_lt2 ?_; omega)) only [s179_888, s179_889, s179_890, s179_892, s179_893, s179_894, s179_895, s179_896, s179_898, s179_899, s179_900, s179_901, s179_902, s179_904, s179_905, s179_906, s179_907, s179_908, s179_911, s179_913, s179_914, s179_915, s179_917, s179_918, s179_919, s179_920, s179_921, s179_923, s179_924, s179_925, s179_926, s179_927, s179_929, s179_930, s179_931, s179_932, s179_935, s179_937, s179_938, s179_941, s179_943, s179_946, s179_947, s179_948, s179_950, s179_953, s179_954, s179_955, s179_956, s179_958, s179_959, s179_960, s179_963, s179_964, s179_965, zz_ck_t, zz_sl_n, zz_sl_i, zz_sl_r, zz_ret_l, zz_ret_r, zz_ret_if, zz_sw_cons, zz_sw_nil, ↓zz_ck_b, ↓zz_ck_0, ↓zz_ck_1, Option.toList, List.cons_append, List.nil_append, List.append_nil, Bool.and_true, Bool.true_and, Bool.and_false, Bool.false_and, Bool.and_self, ite_not, zz_ary_0, zz_na1, zz_na2, zz_na3, zz_nI_ix, zz_nI_in, up_eq, lg_cc, q10, q20, q30, eq_self, ↓reduceIte, not_true_eq_false, not_false_eq_true, hh, hm, h89]
        exact rfl
theorem l968 (hR : Rel I (J 5 4)) (hi : i + 4 ≤ n) (hn : n ≤ 2048) : Nx d n i ex (968, [some (.ref 0), some (.ref 5), some (.ref 23), some (.ref 44), some (.int (nI i)), l5, l6], [], f, zz_hp n I J ex) := by
  rcases op_pass I _ hR with ⟨I1, v, hC, hM⟩ | ⟨e, hT, hne, w, hM⟩
  · obtain ⟨f1, hc⟩ := hC d n J ex rfl
    have hv := zz_Call_rt (b := true) p14 rfl hc
    obtain ⟨u, rfl⟩ := hv
    have z0 := call_0 hc
    have hh : zz_Call zz_prog (d + 21) 170 [.ref 5, .ref 44] (zz_hp n I J ex) = some (.inl (some (.int 0)), false, zz_hp n I1 (zz_up J 44 0 u.toInt64) ex) := h170o  hc
    obtain ⟨X, f2, hm', g0, hRX⟩ := hM (d + 14) n (zz_up J 44 0 u.toInt64) ex
    have hm : zz_Call zz_prog (d + 21) 142 [.ref 23] (zz_hp n I1 (zz_up J 44 0 u.toInt64) ex) = some (.inl (some (.int u)), f2, zz_hp n X (zz_up J 44 0 u.toInt64) ex) := hm'
    have h89 := c89 (d := d + 20) (n := n) (I := X) (J := (zz_up J 44 0 u.toInt64)) (ex := ex)
    rw [g0] at h89
    refine ⟨X, (zz_up J 44 0 u.toInt64), ex, ?_, ?_, ?_, ?_, hRX, Or.inl rfl⟩
    rotate_left 3
    · simp (disch := first | omega | decide | assumption | (refine hcN_lt ?_; omega) | (refine ecN_lt ?_; omega) | (refine hcN_lt2 ?_; omega) | (refine ecN_lt2 ?_; omega)) only [s179_968, s179_969, s179_970, s179_973, s179_975, s179_976, s179_979, s179_981, s179_982, s179_985, s179_987, s179_990, s179_991, s179_992, s179_994, s179_997, s179_998, s179_999, s179_1000, s179_1002, s179_1003, s179_1004, s179_1007, s179_1008, s179_1009, zz_ck_t, zz_sl_n, zz_sl_i, zz_sl_r, zz_ret_l, zz_ret_r, zz_ret_if, zz_sw_cons, zz_sw_nil, ↓zz_ck_b, ↓zz_ck_0, ↓zz_ck_1, Option.toList, List.cons_append, List.nil_append, List.append_nil, Bool.and_true, Bool.true_and, Bool.and_false, Bool.false_and, Bool.and_self, ite_not, zz_ary_0, zz_na1, zz_na2, zz_na3, zz_nI_ix, zz_nI_in, up_eq, lg_cc, q10, q20, q30, eq_self, ↓reduceIte, not_true_eq_false, not_false_eq_true, hh, z0, hm, h89]
      exact rfl
  · have he := kd_3 hne
    subst he
    · have hh : zz_Call zz_prog (d + 21) 170 [.ref 5, .ref 44] (zz_hp n I J ex) = some (.inl (some (.int 1)), false, zz_hp n I J (ex ++ [(4, 3)])) := h170t3  (hT d n J ex)
      obtain ⟨X, f2, hm', g0', hRX⟩ := hM (d + 14) n J (ex ++ [(4, 3)])
      have hm : zz_Call zz_prog (d + 21) 142 [.ref 23] (zz_hp n I J (ex ++ [(4, 3)])) = some (.inl w, f2, zz_hp n X J (ex ++ [(4, 3)])) := hm'
      have g0 : X 23 0 = 1 := g0'
      have hv := zz_Call_rt (b := true) p142 rfl hm
      obtain ⟨u, rfl⟩ := hv
      have h89 := c89 (d := d + 20) (n := n) (I := X) (J := J) (ex := ex ++ [(4, 3)])
      rw [g0] at h89
      refine ⟨X, J, ex ++ [(4, 3)], ?_, ?_, ?_, ?_, hRX, Or.inr ⟨3, rfl⟩⟩
      rotate_left 3
      · simp (disch := first | omega | decide | assumption | (refine hcN_lt ?_; omega) | (refine ecN_lt ?_; omega) | (refine hcN_lt2 ?_; omega) | (refine ecN_lt2 ?_; omega)) only [s179_968, s179_969, s179_970, s179_973, s179_975, s179_976, s179_979, s179_981, s179_982, s179_985, s179_987, s179_990, s179_991, s179_992, s179_994, s179_997, s179_998, s179_999, s179_1000, s179_1002, s179_1003, s179_1004, s179_1007, s179_1008, s179_1009, zz_ck_t, zz_sl_n, zz_sl_i, zz_sl_r, zz_ret_l, zz_ret_r, zz_ret_if, zz_sw_cons, zz_sw_nil, ↓zz_ck_b, ↓zz_ck_0, ↓zz_ck_1, Option.toList, List.cons_append, List.nil_append, List.append_nil, Bool.and_true, Bool.true_and, Bool.and_false, Bool.false_and, Bool.and_self, ite_not, zz_ary_0, zz_na1, zz_na2, zz_na3, zz_nI_ix, zz_nI_in, up_eq, lg_cc, q10, q20, q30, eq_self, ↓reduceIte, not_true_eq_false, not_false_eq_true, hh, hm, h89]
        exact rfl
theorem l1012 (hR : Rel I (J 5 4)) (hi : i + 4 ≤ n) (hn : n ≤ 2048) : Nx d n i ex (1012, [some (.ref 0), some (.ref 5), some (.ref 23), some (.ref 44), some (.int (nI i)), l5, l6], [], f, zz_hp n I J ex) := by
  rcases op_undo I _ hR with ⟨I1, v, hC, hM⟩ | ⟨e, hT, hne, w, hM⟩
  · obtain ⟨f1, hc⟩ := hC d n J ex rfl
    have hv := zz_Call_rt (b := true) p15 rfl hc
    obtain ⟨u, rfl⟩ := hv
    have z0 := call_0 hc
    have hh : zz_Call zz_prog (d + 21) 171 [.ref 5, .ref 44] (zz_hp n I J ex) = some (.inl (some (.int 0)), false, zz_hp n I1 (zz_up J 44 0 u.toInt64) ex) := h171o  hc
    obtain ⟨X, f2, hm', g0, hRX⟩ := hM (d + 14) n (zz_up J 44 0 u.toInt64) ex
    have hm : zz_Call zz_prog (d + 21) 143 [.ref 23] (zz_hp n I1 (zz_up J 44 0 u.toInt64) ex) = some (.inl (some (.int u)), f2, zz_hp n X (zz_up J 44 0 u.toInt64) ex) := hm'
    have h89 := c89 (d := d + 20) (n := n) (I := X) (J := (zz_up J 44 0 u.toInt64)) (ex := ex)
    rw [g0] at h89
    refine ⟨X, (zz_up J 44 0 u.toInt64), ex, ?_, ?_, ?_, ?_, hRX, Or.inl rfl⟩
    rotate_left 3
    · simp (disch := first | omega | decide | assumption | (refine hcN_lt ?_; omega) | (refine ecN_lt ?_; omega) | (refine hcN_lt2 ?_; omega) | (refine ecN_lt2 ?_; omega)) only [s179_1012, s179_1013, s179_1014, s179_1017, s179_1019, s179_1020, s179_1023, s179_1025, s179_1026, s179_1029, s179_1031, s179_1034, s179_1035, s179_1036, s179_1038, s179_1041, s179_1042, s179_1043, s179_1044, s179_1046, s179_1047, s179_1048, s179_1051, s179_1052, s179_1053, zz_ck_t, zz_sl_n, zz_sl_i, zz_sl_r, zz_ret_l, zz_ret_r, zz_ret_if, zz_sw_cons, zz_sw_nil, ↓zz_ck_b, ↓zz_ck_0, ↓zz_ck_1, Option.toList, List.cons_append, List.nil_append, List.append_nil, Bool.and_true, Bool.true_and, Bool.and_false, Bool.false_and, Bool.and_self, ite_not, zz_ary_0, zz_na1, zz_na2, zz_na3, zz_nI_ix, zz_nI_in, up_eq, lg_cc, q10, q20, q30, eq_self, ↓reduceIte, not_true_eq_false, not_false_eq_true, hh, z0, hm, h89]
      exact rfl
  · have he := kd_3 hne
    subst he
    · have hh : zz_Call zz_prog (d + 21) 171 [.ref 5, .ref 44] (zz_hp n I J ex) = some (.inl (some (.int 1)), false, zz_hp n I J (ex ++ [(4, 3)])) := h171t3  (hT d n J ex)
      obtain ⟨X, f2, hm', g0', hRX⟩ := hM (d + 14) n J (ex ++ [(4, 3)])
      have hm : zz_Call zz_prog (d + 21) 143 [.ref 23] (zz_hp n I J (ex ++ [(4, 3)])) = some (.inl w, f2, zz_hp n X J (ex ++ [(4, 3)])) := hm'
      have g0 : X 23 0 = 1 := g0'
      have hv := zz_Call_rt (b := true) p143 rfl hm
      obtain ⟨u, rfl⟩ := hv
      have h89 := c89 (d := d + 20) (n := n) (I := X) (J := J) (ex := ex ++ [(4, 3)])
      rw [g0] at h89
      refine ⟨X, J, ex ++ [(4, 3)], ?_, ?_, ?_, ?_, hRX, Or.inr ⟨3, rfl⟩⟩
      rotate_left 3
      · simp (disch := first | omega | decide | assumption | (refine hcN_lt ?_; omega) | (refine ecN_lt ?_; omega) | (refine hcN_lt2 ?_; omega) | (refine ecN_lt2 ?_; omega)) only [s179_1012, s179_1013, s179_1014, s179_1017, s179_1019, s179_1020, s179_1023, s179_1025, s179_1026, s179_1029, s179_1031, s179_1034, s179_1035, s179_1036, s179_1038, s179_1041, s179_1042, s179_1043, s179_1044, s179_1046, s179_1047, s179_1048, s179_1051, s179_1052, s179_1053, zz_ck_t, zz_sl_n, zz_sl_i, zz_sl_r, zz_ret_l, zz_ret_r, zz_ret_if, zz_sw_cons, zz_sw_nil, ↓zz_ck_b, ↓zz_ck_0, ↓zz_ck_1, Option.toList, List.cons_append, List.nil_append, List.append_nil, Bool.and_true, Bool.true_and, Bool.and_false, Bool.false_and, Bool.and_self, ite_not, zz_ary_0, zz_na1, zz_na2, zz_na3, zz_nI_ix, zz_nI_in, up_eq, lg_cc, q10, q20, q30, eq_self, ↓reduceIte, not_true_eq_false, not_false_eq_true, hh, hm, h89]
        exact rfl
theorem l1056 (hR : Rel I (J 5 4)) (hi : i + 4 ≤ n) (hn : n ≤ 2048) : Nx d n i ex (1056, [some (.ref 0), some (.ref 5), some (.ref 23), some (.ref 44), some (.int (nI i)), l5, l6], [], f, zz_hp n I J ex) := by
  rcases op_phase I _ hR with ⟨I1, v, hC, hM⟩ | ⟨e, -, hne, -⟩
  · obtain ⟨f1, hc'⟩ := hC (d + 1) n J ex rfl
    have hc : zz_Call zz_prog (d + 21) 16 [.ref 5] (zz_hp n I J ex) = some (.inl v, f1, zz_hp n I1 J ex) := hc'
    obtain ⟨u, rfl⟩ := zz_Call_rt (b := true) p16 rfl hc
    have z0 := call_0 hc
    obtain ⟨X, f2, hm', g0, hRX⟩ := hM (d + 14) n J ex
    have hm : zz_Call zz_prog (d + 21) 144 [.ref 23] (zz_hp n I1 J ex) = some (.inl (some (.int u)), f2, zz_hp n X J ex) := hm'
    refine ⟨X, J, ex, ?_, ?_, ?_, ?_, hRX, Or.inl rfl⟩
    rotate_left 3
    · simp (disch := first | omega | decide | assumption | (refine hcN_lt ?_; omega) | (refine ecN_lt ?_; omega) | (refine hcN_lt2 ?_; omega) | (refine ecN_lt2 ?_; omega)) only [s179_1056, s179_1057, s179_1060, s179_1061, s179_1064, s179_1067, s179_1068, zz_ck_t, zz_sl_n, zz_sl_i, zz_sl_r, zz_ret_l, zz_ret_r, zz_ret_if, zz_sw_cons, zz_sw_nil, ↓zz_ck_b, ↓zz_ck_0, ↓zz_ck_1, Option.toList, List.cons_append, List.nil_append, List.append_nil, Bool.and_true, Bool.true_and, Bool.and_false, Bool.false_and, Bool.and_self, ite_not, zz_ary_0, zz_na1, zz_na2, zz_na3, zz_nI_ix, zz_nI_in, up_eq, lg_cc, q10, q20, q30, eq_self, ↓reduceIte, not_true_eq_false, not_false_eq_true, hc, z0, hm]
      exact rfl
  · exact absurd rfl hne
theorem l1069 (hR : Rel I (J 5 4)) (hi : i + 4 ≤ n) (hn : n ≤ 2048) : Nx d n i ex (1069, [some (.ref 0), some (.ref 5), some (.ref 23), some (.ref 44), some (.int (nI i)), l5, l6], [], f, zz_hp n I J ex) := by
  rcases op_turn I _ hR with ⟨I1, v, hC, hM⟩ | ⟨e, -, hne, -⟩
  · obtain ⟨f1, hc'⟩ := hC (d + 1) n J ex rfl
    have hc : zz_Call zz_prog (d + 21) 17 [.ref 5] (zz_hp n I J ex) = some (.inl v, f1, zz_hp n I1 J ex) := hc'
    obtain ⟨u, rfl⟩ := zz_Call_rt (b := true) p17 rfl hc
    have z0 := call_0 hc
    obtain ⟨X, f2, hm', g0, hRX⟩ := hM (d + 14) n J ex
    have hm : zz_Call zz_prog (d + 21) 145 [.ref 23] (zz_hp n I1 J ex) = some (.inl (some (.int u)), f2, zz_hp n X J ex) := hm'
    refine ⟨X, J, ex, ?_, ?_, ?_, ?_, hRX, Or.inl rfl⟩
    rotate_left 3
    · simp (disch := first | omega | decide | assumption | (refine hcN_lt ?_; omega) | (refine ecN_lt ?_; omega) | (refine hcN_lt2 ?_; omega) | (refine ecN_lt2 ?_; omega)) only [s179_1069, s179_1070, s179_1073, s179_1074, s179_1077, s179_1080, s179_1081, zz_ck_t, zz_sl_n, zz_sl_i, zz_sl_r, zz_ret_l, zz_ret_r, zz_ret_if, zz_sw_cons, zz_sw_nil, ↓zz_ck_b, ↓zz_ck_0, ↓zz_ck_1, Option.toList, List.cons_append, List.nil_append, List.append_nil, Bool.and_true, Bool.true_and, Bool.and_false, Bool.false_and, Bool.and_self, ite_not, zz_ary_0, zz_na1, zz_na2, zz_na3, zz_nI_ix, zz_nI_in, up_eq, lg_cc, q10, q20, q30, eq_self, ↓reduceIte, not_true_eq_false, not_false_eq_true, hc, z0, hm]
      exact rfl
  · exact absurd rfl hne
theorem l1082 (hR : Rel I (J 5 4)) (hi : i + 4 ≤ n) (hn : n ≤ 2048) : Nx d n i ex (1082, [some (.ref 0), some (.ref 5), some (.ref 23), some (.ref 44), some (.int (nI i)), l5, l6], [], f, zz_hp n I J ex) := by
  rcases op_winner I _ hR with ⟨I1, v, hC, hM⟩ | ⟨e, -, hne, -⟩
  · obtain ⟨f1, hc'⟩ := hC (d + 1) n J ex rfl
    have hc : zz_Call zz_prog (d + 21) 18 [.ref 5] (zz_hp n I J ex) = some (.inl v, f1, zz_hp n I1 J ex) := hc'
    obtain ⟨u, rfl⟩ := zz_Call_rt (b := true) p18 rfl hc
    have z0 := call_0 hc
    obtain ⟨X, f2, hm', g0, hRX⟩ := hM (d + 14) n J ex
    have hm : zz_Call zz_prog (d + 21) 146 [.ref 23] (zz_hp n I1 J ex) = some (.inl (some (.int u)), f2, zz_hp n X J ex) := hm'
    refine ⟨X, J, ex, ?_, ?_, ?_, ?_, hRX, Or.inl rfl⟩
    rotate_left 3
    · simp (disch := first | omega | decide | assumption | (refine hcN_lt ?_; omega) | (refine ecN_lt ?_; omega) | (refine hcN_lt2 ?_; omega) | (refine ecN_lt2 ?_; omega)) only [s179_1082, s179_1083, s179_1086, s179_1087, s179_1090, s179_1093, s179_1094, zz_ck_t, zz_sl_n, zz_sl_i, zz_sl_r, zz_ret_l, zz_ret_r, zz_ret_if, zz_sw_cons, zz_sw_nil, ↓zz_ck_b, ↓zz_ck_0, ↓zz_ck_1, Option.toList, List.cons_append, List.nil_append, List.append_nil, Bool.and_true, Bool.true_and, Bool.and_false, Bool.false_and, Bool.and_self, ite_not, zz_ary_0, zz_na1, zz_na2, zz_na3, zz_nI_ix, zz_nI_in, up_eq, lg_cc, q10, q20, q30, eq_self, ↓reduceIte, not_true_eq_false, not_false_eq_true, hc, z0, hm]
      exact rfl
  · exact absurd rfl hne
theorem l1095 (hR : Rel I (J 5 4)) (hi : i + 4 ≤ n) (hn : n ≤ 2048) : Nx d n i ex (1095, [some (.ref 0), some (.ref 5), some (.ref 23), some (.ref 44), some (.int (nI i)), l5, l6], [], f, zz_hp n I J ex) := by
  rcases op_goods (I 0 (i + 1)) (I 0 (i + 2)) I _ hR with ⟨I1, v, hC, hM⟩ | ⟨e, hT, hne, w, hM⟩
  · obtain ⟨f1, hc⟩ := hC d n J ex rfl
    have hv := zz_Call_rt (b := true) p19 rfl hc
    obtain ⟨u, rfl⟩ := hv
    have z0 := call_0 hc
    have hh : zz_Call zz_prog (d + 21) 172 [.ref 5, .int (I 0 (i + 1)), .int (I 0 (i + 2)), .ref 44] (zz_hp n I J ex) = some (.inl (some (.int 0)), false, zz_hp n I1 (zz_up J 44 0 u.toInt64) ex) := h172o _ _ hc
    obtain ⟨X, f2, hm', g0, hRX⟩ := hM (d + 14) n (zz_up J 44 0 u.toInt64) ex
    have hm : zz_Call zz_prog (d + 21) 147 [.ref 23, .int (I 0 (i + 1)), .int (I 0 (i + 2))] (zz_hp n I1 (zz_up J 44 0 u.toInt64) ex) = some (.inl (some (.int u)), f2, zz_hp n X (zz_up J 44 0 u.toInt64) ex) := hm'
    have h89 := c89 (d := d + 20) (n := n) (I := X) (J := (zz_up J 44 0 u.toInt64)) (ex := ex)
    rw [g0] at h89
    refine ⟨X, (zz_up J 44 0 u.toInt64), ex, ?_, ?_, ?_, ?_, hRX, Or.inl rfl⟩
    rotate_left 3
    · simp (disch := first | omega | decide | assumption | (refine hcN_lt ?_; omega) | (refine ecN_lt ?_; omega) | (refine hcN_lt2 ?_; omega) | (refine ecN_lt2 ?_; omega)) only [s179_1095, s179_1096, s179_1097, s179_1099, s179_1100, s179_1101, s179_1102, s179_1103, s179_1105, s179_1106, s179_1107, s179_1108, s179_1109, s179_1112, s179_1114, s179_1115, s179_1116, s179_1118, s179_1119, s179_1120, s179_1121, s179_1122, s179_1124, s179_1125, s179_1126, s179_1127, s179_1130, s179_1132, s179_1133, s179_1136, s179_1138, s179_1141, s179_1142, s179_1143, s179_1145, s179_1148, s179_1149, s179_1150, s179_1151, s179_1153, s179_1154, s179_1155, s179_1158, s179_1159, s179_1160, zz_ck_t, zz_sl_n, zz_sl_i, zz_sl_r, zz_ret_l, zz_ret_r, zz_ret_if, zz_sw_cons, zz_sw_nil, ↓zz_ck_b, ↓zz_ck_0, ↓zz_ck_1, Option.toList, List.cons_append, List.nil_append, List.append_nil, Bool.and_true, Bool.true_and, Bool.and_false, Bool.false_and, Bool.and_self, ite_not, zz_ary_0, zz_na1, zz_na2, zz_na3, zz_nI_ix, zz_nI_in, up_eq, lg_cc, q10, q20, q30, eq_self, ↓reduceIte, not_true_eq_false, not_false_eq_true, hh, z0, hm, h89]
      exact rfl
  · have he := kd_6 hne
    subst he
    · have hh : zz_Call zz_prog (d + 21) 172 [.ref 5, .int (I 0 (i + 1)), .int (I 0 (i + 2)), .ref 44] (zz_hp n I J ex) = some (.inl (some (.int 1)), false, zz_hp n I J (ex ++ [(4, 6)])) := h172t6 _ _ (hT d n J ex)
      obtain ⟨X, f2, hm', g0', hRX⟩ := hM (d + 14) n J (ex ++ [(4, 6)])
      have hm : zz_Call zz_prog (d + 21) 147 [.ref 23, .int (I 0 (i + 1)), .int (I 0 (i + 2))] (zz_hp n I J (ex ++ [(4, 6)])) = some (.inl w, f2, zz_hp n X J (ex ++ [(4, 6)])) := hm'
      have g0 : X 23 0 = 1 := g0'
      have hv := zz_Call_rt (b := true) p147 rfl hm
      obtain ⟨u, rfl⟩ := hv
      have h89 := c89 (d := d + 20) (n := n) (I := X) (J := J) (ex := ex ++ [(4, 6)])
      rw [g0] at h89
      refine ⟨X, J, ex ++ [(4, 6)], ?_, ?_, ?_, ?_, hRX, Or.inr ⟨6, rfl⟩⟩
      rotate_left 3
      · simp (disch := first | omega | decide | assumption | (refine hcN_lt ?_; omega) | (refine ecN_lt ?_; omega) | (refine hcN_lt2 ?_; omega) | (refine ecN_lt2 ?_; omega)) only [s179_1095, s179_1096, s179_1097, s179_1099, s179_1100, s179_1101, s179_1102, s179_1103, s179_1105, s179_1106, s179_1107, s179_1108, s179_1109, s179_1112, s179_1114, s179_1115, s179_1116, s179_1118, s179_1119, s179_1120, s179_1121, s179_1122, s179_1124, s179_1125, s179_1126, s179_1127, s179_1130, s179_1132, s179_1133, s179_1136, s179_1138, s179_1141, s179_1142, s179_1143, s179_1145, s179_1148, s179_1149, s179_1150, s179_1151, s179_1153, s179_1154, s179_1155, s179_1158, s179_1159, s179_1160, zz_ck_t, zz_sl_n, zz_sl_i, zz_sl_r, zz_ret_l, zz_ret_r, zz_ret_if, zz_sw_cons, zz_sw_nil, ↓zz_ck_b, ↓zz_ck_0, ↓zz_ck_1, Option.toList, List.cons_append, List.nil_append, List.append_nil, Bool.and_true, Bool.true_and, Bool.and_false, Bool.false_and, Bool.and_self, ite_not, zz_ary_0, zz_na1, zz_na2, zz_na3, zz_nI_ix, zz_nI_in, up_eq, lg_cc, q10, q20, q30, eq_self, ↓reduceIte, not_true_eq_false, not_false_eq_true, hh, hm, h89]
        exact rfl
theorem l1163 (hR : Rel I (J 5 4)) (hi : i + 4 ≤ n) (hn : n ≤ 2048) : Nx d n i ex (1163, [some (.ref 0), some (.ref 5), some (.ref 23), some (.ref 44), some (.int (nI i)), l5, l6], [], f, zz_hp n I J ex) := by
  rcases op_cards (I 0 (i + 1)) (I 0 (i + 2)) I _ hR with ⟨I1, v, hC, hM⟩ | ⟨e, hT, hne, w, hM⟩
  · obtain ⟨f1, hc⟩ := hC d n J ex rfl
    have hv := zz_Call_rt (b := true) p20 rfl hc
    obtain ⟨u, rfl⟩ := hv
    have z0 := call_0 hc
    have hh : zz_Call zz_prog (d + 21) 173 [.ref 5, .int (I 0 (i + 1)), .int (I 0 (i + 2)), .ref 44] (zz_hp n I J ex) = some (.inl (some (.int 0)), false, zz_hp n I1 (zz_up J 44 0 u.toInt64) ex) := h173o _ _ hc
    obtain ⟨X, f2, hm', g0, hRX⟩ := hM (d + 14) n (zz_up J 44 0 u.toInt64) ex
    have hm : zz_Call zz_prog (d + 21) 148 [.ref 23, .int (I 0 (i + 1)), .int (I 0 (i + 2))] (zz_hp n I1 (zz_up J 44 0 u.toInt64) ex) = some (.inl (some (.int u)), f2, zz_hp n X (zz_up J 44 0 u.toInt64) ex) := hm'
    have h89 := c89 (d := d + 20) (n := n) (I := X) (J := (zz_up J 44 0 u.toInt64)) (ex := ex)
    rw [g0] at h89
    refine ⟨X, (zz_up J 44 0 u.toInt64), ex, ?_, ?_, ?_, ?_, hRX, Or.inl rfl⟩
    rotate_left 3
    · simp (disch := first | omega | decide | assumption | (refine hcN_lt ?_; omega) | (refine ecN_lt ?_; omega) | (refine hcN_lt2 ?_; omega) | (refine ecN_lt2 ?_; omega)) only [s179_1163, s179_1164, s179_1165, s179_1167, s179_1168, s179_1169, s179_1170, s179_1171, s179_1173, s179_1174, s179_1175, s179_1176, s179_1177, s179_1180, s179_1182, s179_1183, s179_1184, s179_1186, s179_1187, s179_1188, s179_1189, s179_1190, s179_1192, s179_1193, s179_1194, s179_1195, s179_1198, s179_1200, s179_1201, s179_1204, s179_1206, s179_1209, s179_1210, s179_1211, s179_1213, s179_1216, s179_1217, s179_1218, s179_1219, s179_1221, s179_1222, s179_1223, s179_1226, s179_1227, s179_1228, zz_ck_t, zz_sl_n, zz_sl_i, zz_sl_r, zz_ret_l, zz_ret_r, zz_ret_if, zz_sw_cons, zz_sw_nil, ↓zz_ck_b, ↓zz_ck_0, ↓zz_ck_1, Option.toList, List.cons_append, List.nil_append, List.append_nil, Bool.and_true, Bool.true_and, Bool.and_false, Bool.false_and, Bool.and_self, ite_not, zz_ary_0, zz_na1, zz_na2, zz_na3, zz_nI_ix, zz_nI_in, up_eq, lg_cc, q10, q20, q30, eq_self, ↓reduceIte, not_true_eq_false, not_false_eq_true, hh, z0, hm, h89]
      exact rfl
  · have he := kd_6 hne
    subst he
    · have hh : zz_Call zz_prog (d + 21) 173 [.ref 5, .int (I 0 (i + 1)), .int (I 0 (i + 2)), .ref 44] (zz_hp n I J ex) = some (.inl (some (.int 1)), false, zz_hp n I J (ex ++ [(4, 6)])) := h173t6 _ _ (hT d n J ex)
      obtain ⟨X, f2, hm', g0', hRX⟩ := hM (d + 14) n J (ex ++ [(4, 6)])
      have hm : zz_Call zz_prog (d + 21) 148 [.ref 23, .int (I 0 (i + 1)), .int (I 0 (i + 2))] (zz_hp n I J (ex ++ [(4, 6)])) = some (.inl w, f2, zz_hp n X J (ex ++ [(4, 6)])) := hm'
      have g0 : X 23 0 = 1 := g0'
      have hv := zz_Call_rt (b := true) p148 rfl hm
      obtain ⟨u, rfl⟩ := hv
      have h89 := c89 (d := d + 20) (n := n) (I := X) (J := J) (ex := ex ++ [(4, 6)])
      rw [g0] at h89
      refine ⟨X, J, ex ++ [(4, 6)], ?_, ?_, ?_, ?_, hRX, Or.inr ⟨6, rfl⟩⟩
      rotate_left 3
      · simp (disch := first | omega | decide | assumption | (refine hcN_lt ?_; omega) | (refine ecN_lt ?_; omega) | (refine hcN_lt2 ?_; omega) | (refine ecN_lt2 ?_; omega)) only [s179_1163, s179_1164, s179_1165, s179_1167, s179_1168, s179_1169, s179_1170, s179_1171, s179_1173, s179_1174, s179_1175, s179_1176, s179_1177, s179_1180, s179_1182, s179_1183, s179_1184, s179_1186, s179_1187, s179_1188, s179_1189, s179_1190, s179_1192, s179_1193, s179_1194, s179_1195, s179_1198, s179_1200, s179_1201, s179_1204, s179_1206, s179_1209, s179_1210, s179_1211, s179_1213, s179_1216, s179_1217, s179_1218, s179_1219, s179_1221, s179_1222, s179_1223, s179_1226, s179_1227, s179_1228, zz_ck_t, zz_sl_n, zz_sl_i, zz_sl_r, zz_ret_l, zz_ret_r, zz_ret_if, zz_sw_cons, zz_sw_nil, ↓zz_ck_b, ↓zz_ck_0, ↓zz_ck_1, Option.toList, List.cons_append, List.nil_append, List.append_nil, Bool.and_true, Bool.true_and, Bool.and_false, Bool.false_and, Bool.and_self, ite_not, zz_ary_0, zz_na1, zz_na2, zz_na3, zz_nI_ix, zz_nI_in, up_eq, lg_cc, q10, q20, q30, eq_self, ↓reduceIte, not_true_eq_false, not_false_eq_true, hh, hm, h89]
        exact rfl
theorem l1231 (hR : Rel I (J 5 4)) (hi : i + 4 ≤ n) (hn : n ≤ 2048) : Nx d n i ex (1231, [some (.ref 0), some (.ref 5), some (.ref 23), some (.ref 44), some (.int (nI i)), l5, l6], [], f, zz_hp n I J ex) := by
  rcases op_points (I 0 (i + 1)) I _ hR with ⟨I1, v, hC, hM⟩ | ⟨e, hT, hne, w, hM⟩
  · obtain ⟨f1, hc⟩ := hC d n J ex rfl
    have hv := zz_Call_rt (b := true) p21 rfl hc
    obtain ⟨u, rfl⟩ := hv
    have z0 := call_0 hc
    have hh : zz_Call zz_prog (d + 21) 174 [.ref 5, .int (I 0 (i + 1)), .ref 44] (zz_hp n I J ex) = some (.inl (some (.int 0)), false, zz_hp n I1 (zz_up J 44 0 u.toInt64) ex) := h174o _ hc
    obtain ⟨X, f2, hm', g0, hRX⟩ := hM (d + 14) n (zz_up J 44 0 u.toInt64) ex
    have hm : zz_Call zz_prog (d + 21) 149 [.ref 23, .int (I 0 (i + 1))] (zz_hp n I1 (zz_up J 44 0 u.toInt64) ex) = some (.inl (some (.int u)), f2, zz_hp n X (zz_up J 44 0 u.toInt64) ex) := hm'
    have h89 := c89 (d := d + 20) (n := n) (I := X) (J := (zz_up J 44 0 u.toInt64)) (ex := ex)
    rw [g0] at h89
    refine ⟨X, (zz_up J 44 0 u.toInt64), ex, ?_, ?_, ?_, ?_, hRX, Or.inl rfl⟩
    rotate_left 3
    · simp (disch := first | omega | decide | assumption | (refine hcN_lt ?_; omega) | (refine ecN_lt ?_; omega) | (refine hcN_lt2 ?_; omega) | (refine ecN_lt2 ?_; omega)) only [s179_1231, s179_1232, s179_1233, s179_1235, s179_1236, s179_1237, s179_1238, s179_1239, s179_1242, s179_1244, s179_1245, s179_1246, s179_1248, s179_1249, s179_1250, s179_1251, s179_1254, s179_1256, s179_1257, s179_1260, s179_1262, s179_1265, s179_1266, s179_1267, s179_1269, s179_1272, s179_1273, s179_1274, s179_1275, s179_1277, s179_1278, s179_1279, s179_1282, s179_1283, s179_1284, zz_ck_t, zz_sl_n, zz_sl_i, zz_sl_r, zz_ret_l, zz_ret_r, zz_ret_if, zz_sw_cons, zz_sw_nil, ↓zz_ck_b, ↓zz_ck_0, ↓zz_ck_1, Option.toList, List.cons_append, List.nil_append, List.append_nil, Bool.and_true, Bool.true_and, Bool.and_false, Bool.false_and, Bool.and_self, ite_not, zz_ary_0, zz_na1, zz_na2, zz_na3, zz_nI_ix, zz_nI_in, up_eq, lg_cc, q10, q20, q30, eq_self, ↓reduceIte, not_true_eq_false, not_false_eq_true, hh, z0, hm, h89]
      exact rfl
  · have he := kd_6 hne
    subst he
    · have hh : zz_Call zz_prog (d + 21) 174 [.ref 5, .int (I 0 (i + 1)), .ref 44] (zz_hp n I J ex) = some (.inl (some (.int 1)), false, zz_hp n I J (ex ++ [(4, 6)])) := h174t6 _ (hT d n J ex)
      obtain ⟨X, f2, hm', g0', hRX⟩ := hM (d + 14) n J (ex ++ [(4, 6)])
      have hm : zz_Call zz_prog (d + 21) 149 [.ref 23, .int (I 0 (i + 1))] (zz_hp n I J (ex ++ [(4, 6)])) = some (.inl w, f2, zz_hp n X J (ex ++ [(4, 6)])) := hm'
      have g0 : X 23 0 = 1 := g0'
      have hv := zz_Call_rt (b := true) p149 rfl hm
      obtain ⟨u, rfl⟩ := hv
      have h89 := c89 (d := d + 20) (n := n) (I := X) (J := J) (ex := ex ++ [(4, 6)])
      rw [g0] at h89
      refine ⟨X, J, ex ++ [(4, 6)], ?_, ?_, ?_, ?_, hRX, Or.inr ⟨6, rfl⟩⟩
      rotate_left 3
      · simp (disch := first | omega | decide | assumption | (refine hcN_lt ?_; omega) | (refine ecN_lt ?_; omega) | (refine hcN_lt2 ?_; omega) | (refine ecN_lt2 ?_; omega)) only [s179_1231, s179_1232, s179_1233, s179_1235, s179_1236, s179_1237, s179_1238, s179_1239, s179_1242, s179_1244, s179_1245, s179_1246, s179_1248, s179_1249, s179_1250, s179_1251, s179_1254, s179_1256, s179_1257, s179_1260, s179_1262, s179_1265, s179_1266, s179_1267, s179_1269, s179_1272, s179_1273, s179_1274, s179_1275, s179_1277, s179_1278, s179_1279, s179_1282, s179_1283, s179_1284, zz_ck_t, zz_sl_n, zz_sl_i, zz_sl_r, zz_ret_l, zz_ret_r, zz_ret_if, zz_sw_cons, zz_sw_nil, ↓zz_ck_b, ↓zz_ck_0, ↓zz_ck_1, Option.toList, List.cons_append, List.nil_append, List.append_nil, Bool.and_true, Bool.true_and, Bool.and_false, Bool.false_and, Bool.and_self, ite_not, zz_ary_0, zz_na1, zz_na2, zz_na3, zz_nI_ix, zz_nI_in, up_eq, lg_cc, q10, q20, q30, eq_self, ↓reduceIte, not_true_eq_false, not_false_eq_true, hh, hm, h89]
        exact rfl
theorem l1287 (hR : Rel I (J 5 4)) (hi : i + 4 ≤ n) (hn : n ≤ 2048) : Nx d n i ex (1287, [some (.ref 0), some (.ref 5), some (.ref 23), some (.ref 44), some (.int (nI i)), l5, l6], [], f, zz_hp n I J ex) := by
  rcases op_chain (I 0 (i + 1)) I _ hR with ⟨I1, v, hC, hM⟩ | ⟨e, hT, hne, w, hM⟩
  · obtain ⟨f1, hc⟩ := hC d n J ex rfl
    have hv := zz_Call_rt (b := true) p22 rfl hc
    obtain ⟨u, rfl⟩ := hv
    have z0 := call_0 hc
    have hh : zz_Call zz_prog (d + 21) 175 [.ref 5, .int (I 0 (i + 1)), .ref 44] (zz_hp n I J ex) = some (.inl (some (.int 0)), false, zz_hp n I1 (zz_up J 44 0 u.toInt64) ex) := h175o _ hc
    obtain ⟨X, f2, hm', g0, hRX⟩ := hM (d + 14) n (zz_up J 44 0 u.toInt64) ex
    have hm : zz_Call zz_prog (d + 21) 150 [.ref 23, .int (I 0 (i + 1))] (zz_hp n I1 (zz_up J 44 0 u.toInt64) ex) = some (.inl (some (.int u)), f2, zz_hp n X (zz_up J 44 0 u.toInt64) ex) := hm'
    have h89 := c89 (d := d + 20) (n := n) (I := X) (J := (zz_up J 44 0 u.toInt64)) (ex := ex)
    rw [g0] at h89
    refine ⟨X, (zz_up J 44 0 u.toInt64), ex, ?_, ?_, ?_, ?_, hRX, Or.inl rfl⟩
    rotate_left 3
    · simp (disch := first | omega | decide | assumption | (refine hcN_lt ?_; omega) | (refine ecN_lt ?_; omega) | (refine hcN_lt2 ?_; omega) | (refine ecN_lt2 ?_; omega)) only [s179_1287, s179_1288, s179_1289, s179_1291, s179_1292, s179_1293, s179_1294, s179_1295, s179_1298, s179_1300, s179_1301, s179_1302, s179_1304, s179_1305, s179_1306, s179_1307, s179_1310, s179_1312, s179_1313, s179_1316, s179_1318, s179_1321, s179_1322, s179_1323, s179_1325, s179_1328, s179_1329, s179_1330, s179_1331, s179_1333, s179_1334, s179_1335, s179_1338, s179_1339, s179_1340, zz_ck_t, zz_sl_n, zz_sl_i, zz_sl_r, zz_ret_l, zz_ret_r, zz_ret_if, zz_sw_cons, zz_sw_nil, ↓zz_ck_b, ↓zz_ck_0, ↓zz_ck_1, Option.toList, List.cons_append, List.nil_append, List.append_nil, Bool.and_true, Bool.true_and, Bool.and_false, Bool.false_and, Bool.and_self, ite_not, zz_ary_0, zz_na1, zz_na2, zz_na3, zz_nI_ix, zz_nI_in, up_eq, lg_cc, q10, q20, q30, eq_self, ↓reduceIte, not_true_eq_false, not_false_eq_true, hh, z0, hm, h89]
      exact rfl
  · have he := kd_6 hne
    subst he
    · have hh : zz_Call zz_prog (d + 21) 175 [.ref 5, .int (I 0 (i + 1)), .ref 44] (zz_hp n I J ex) = some (.inl (some (.int 1)), false, zz_hp n I J (ex ++ [(4, 6)])) := h175t6 _ (hT d n J ex)
      obtain ⟨X, f2, hm', g0', hRX⟩ := hM (d + 14) n J (ex ++ [(4, 6)])
      have hm : zz_Call zz_prog (d + 21) 150 [.ref 23, .int (I 0 (i + 1))] (zz_hp n I J (ex ++ [(4, 6)])) = some (.inl w, f2, zz_hp n X J (ex ++ [(4, 6)])) := hm'
      have g0 : X 23 0 = 1 := g0'
      have hv := zz_Call_rt (b := true) p150 rfl hm
      obtain ⟨u, rfl⟩ := hv
      have h89 := c89 (d := d + 20) (n := n) (I := X) (J := J) (ex := ex ++ [(4, 6)])
      rw [g0] at h89
      refine ⟨X, J, ex ++ [(4, 6)], ?_, ?_, ?_, ?_, hRX, Or.inr ⟨6, rfl⟩⟩
      rotate_left 3
      · simp (disch := first | omega | decide | assumption | (refine hcN_lt ?_; omega) | (refine ecN_lt ?_; omega) | (refine hcN_lt2 ?_; omega) | (refine ecN_lt2 ?_; omega)) only [s179_1287, s179_1288, s179_1289, s179_1291, s179_1292, s179_1293, s179_1294, s179_1295, s179_1298, s179_1300, s179_1301, s179_1302, s179_1304, s179_1305, s179_1306, s179_1307, s179_1310, s179_1312, s179_1313, s179_1316, s179_1318, s179_1321, s179_1322, s179_1323, s179_1325, s179_1328, s179_1329, s179_1330, s179_1331, s179_1333, s179_1334, s179_1335, s179_1338, s179_1339, s179_1340, zz_ck_t, zz_sl_n, zz_sl_i, zz_sl_r, zz_ret_l, zz_ret_r, zz_ret_if, zz_sw_cons, zz_sw_nil, ↓zz_ck_b, ↓zz_ck_0, ↓zz_ck_1, Option.toList, List.cons_append, List.nil_append, List.append_nil, Bool.and_true, Bool.true_and, Bool.and_false, Bool.false_and, Bool.and_self, ite_not, zz_ary_0, zz_na1, zz_na2, zz_na3, zz_nI_ix, zz_nI_in, up_eq, lg_cc, q10, q20, q30, eq_self, ↓reduceIte, not_true_eq_false, not_false_eq_true, hh, hm, h89]
        exact rfl
theorem l1343 (hR : Rel I (J 5 4)) (hi : i + 4 ≤ n) (hn : n ≤ 2048) : Nx d n i ex (1343, [some (.ref 0), some (.ref 5), some (.ref 23), some (.ref 44), some (.int (nI i)), l5, l6], [], f, zz_hp n I J ex) := by
  rcases op_award I _ hR with ⟨I1, v, hC, hM⟩ | ⟨e, -, hne, -⟩
  · obtain ⟨f1, hc'⟩ := hC (d + 1) n J ex rfl
    have hc : zz_Call zz_prog (d + 21) 23 [.ref 5] (zz_hp n I J ex) = some (.inl v, f1, zz_hp n I1 J ex) := hc'
    obtain ⟨u, rfl⟩ := zz_Call_rt (b := true) p23 rfl hc
    have z0 := call_0 hc
    obtain ⟨X, f2, hm', g0, hRX⟩ := hM (d + 14) n J ex
    have hm : zz_Call zz_prog (d + 21) 151 [.ref 23] (zz_hp n I1 J ex) = some (.inl (some (.int u)), f2, zz_hp n X J ex) := hm'
    refine ⟨X, J, ex, ?_, ?_, ?_, ?_, hRX, Or.inl rfl⟩
    rotate_left 3
    · simp (disch := first | omega | decide | assumption | (refine hcN_lt ?_; omega) | (refine ecN_lt ?_; omega) | (refine hcN_lt2 ?_; omega) | (refine ecN_lt2 ?_; omega)) only [s179_1343, s179_1344, s179_1347, s179_1348, s179_1351, s179_1354, s179_1355, zz_ck_t, zz_sl_n, zz_sl_i, zz_sl_r, zz_ret_l, zz_ret_r, zz_ret_if, zz_sw_cons, zz_sw_nil, ↓zz_ck_b, ↓zz_ck_0, ↓zz_ck_1, Option.toList, List.cons_append, List.nil_append, List.append_nil, Bool.and_true, Bool.true_and, Bool.and_false, Bool.false_and, Bool.and_self, ite_not, zz_ary_0, zz_na1, zz_na2, zz_na3, zz_nI_ix, zz_nI_in, up_eq, lg_cc, q10, q20, q30, eq_self, ↓reduceIte, not_true_eq_false, not_false_eq_true, hc, z0, hm]
      exact rfl
  · exact absurd rfl hne
theorem l1356 (hR : Rel I (J 5 4)) (hi : i + 4 ≤ n) (hn : n ≤ 2048) : Nx d n i ex (1356, [some (.ref 0), some (.ref 5), some (.ref 23), some (.ref 44), some (.int (nI i)), l5, l6], [], f, zz_hp n I J ex) := by
  rcases op_owner (I 0 (i + 1)) (I 0 (i + 2)) I _ hR with ⟨I1, v, hC, hM⟩ | ⟨e, hT, hne, w, hM⟩
  · obtain ⟨f1, hc⟩ := hC d n J ex rfl
    have hv := zz_Call_rt (b := true) p24 rfl hc
    obtain ⟨u, rfl⟩ := hv
    have z0 := call_0 hc
    have hh : zz_Call zz_prog (d + 21) 176 [.ref 5, .int (I 0 (i + 1)), .int (I 0 (i + 2)), .ref 44] (zz_hp n I J ex) = some (.inl (some (.int 0)), false, zz_hp n I1 (zz_up J 44 0 u.toInt64) ex) := h176o _ _ hc
    obtain ⟨X, f2, hm', g0, hRX⟩ := hM (d + 14) n (zz_up J 44 0 u.toInt64) ex
    have hm : zz_Call zz_prog (d + 21) 152 [.ref 23, .int (I 0 (i + 1)), .int (I 0 (i + 2))] (zz_hp n I1 (zz_up J 44 0 u.toInt64) ex) = some (.inl (some (.int u)), f2, zz_hp n X (zz_up J 44 0 u.toInt64) ex) := hm'
    have h89 := c89 (d := d + 20) (n := n) (I := X) (J := (zz_up J 44 0 u.toInt64)) (ex := ex)
    rw [g0] at h89
    refine ⟨X, (zz_up J 44 0 u.toInt64), ex, ?_, ?_, ?_, ?_, hRX, Or.inl rfl⟩
    rotate_left 3
    · simp (disch := first | omega | decide | assumption | (refine hcN_lt ?_; omega) | (refine ecN_lt ?_; omega) | (refine hcN_lt2 ?_; omega) | (refine ecN_lt2 ?_; omega)) only [s179_1356, s179_1357, s179_1358, s179_1360, s179_1361, s179_1362, s179_1363, s179_1364, s179_1366, s179_1367, s179_1368, s179_1369, s179_1370, s179_1373, s179_1375, s179_1376, s179_1377, s179_1379, s179_1380, s179_1381, s179_1382, s179_1383, s179_1385, s179_1386, s179_1387, s179_1388, s179_1391, s179_1393, s179_1394, s179_1397, s179_1399, s179_1402, s179_1403, s179_1404, s179_1406, s179_1409, s179_1410, s179_1411, s179_1412, s179_1414, s179_1415, s179_1416, s179_1419, s179_1420, s179_1421, zz_ck_t, zz_sl_n, zz_sl_i, zz_sl_r, zz_ret_l, zz_ret_r, zz_ret_if, zz_sw_cons, zz_sw_nil, ↓zz_ck_b, ↓zz_ck_0, ↓zz_ck_1, Option.toList, List.cons_append, List.nil_append, List.append_nil, Bool.and_true, Bool.true_and, Bool.and_false, Bool.false_and, Bool.and_self, ite_not, zz_ary_0, zz_na1, zz_na2, zz_na3, zz_nI_ix, zz_nI_in, up_eq, lg_cc, q10, q20, q30, eq_self, ↓reduceIte, not_true_eq_false, not_false_eq_true, hh, z0, hm, h89]
      exact rfl
  · have he := kd_6 hne
    subst he
    · have hh : zz_Call zz_prog (d + 21) 176 [.ref 5, .int (I 0 (i + 1)), .int (I 0 (i + 2)), .ref 44] (zz_hp n I J ex) = some (.inl (some (.int 1)), false, zz_hp n I J (ex ++ [(4, 6)])) := h176t6 _ _ (hT d n J ex)
      obtain ⟨X, f2, hm', g0', hRX⟩ := hM (d + 14) n J (ex ++ [(4, 6)])
      have hm : zz_Call zz_prog (d + 21) 152 [.ref 23, .int (I 0 (i + 1)), .int (I 0 (i + 2))] (zz_hp n I J (ex ++ [(4, 6)])) = some (.inl w, f2, zz_hp n X J (ex ++ [(4, 6)])) := hm'
      have g0 : X 23 0 = 1 := g0'
      have hv := zz_Call_rt (b := true) p152 rfl hm
      obtain ⟨u, rfl⟩ := hv
      have h89 := c89 (d := d + 20) (n := n) (I := X) (J := J) (ex := ex ++ [(4, 6)])
      rw [g0] at h89
      refine ⟨X, J, ex ++ [(4, 6)], ?_, ?_, ?_, ?_, hRX, Or.inr ⟨6, rfl⟩⟩
      rotate_left 3
      · simp (disch := first | omega | decide | assumption | (refine hcN_lt ?_; omega) | (refine ecN_lt ?_; omega) | (refine hcN_lt2 ?_; omega) | (refine ecN_lt2 ?_; omega)) only [s179_1356, s179_1357, s179_1358, s179_1360, s179_1361, s179_1362, s179_1363, s179_1364, s179_1366, s179_1367, s179_1368, s179_1369, s179_1370, s179_1373, s179_1375, s179_1376, s179_1377, s179_1379, s179_1380, s179_1381, s179_1382, s179_1383, s179_1385, s179_1386, s179_1387, s179_1388, s179_1391, s179_1393, s179_1394, s179_1397, s179_1399, s179_1402, s179_1403, s179_1404, s179_1406, s179_1409, s179_1410, s179_1411, s179_1412, s179_1414, s179_1415, s179_1416, s179_1419, s179_1420, s179_1421, zz_ck_t, zz_sl_n, zz_sl_i, zz_sl_r, zz_ret_l, zz_ret_r, zz_ret_if, zz_sw_cons, zz_sw_nil, ↓zz_ck_b, ↓zz_ck_0, ↓zz_ck_1, Option.toList, List.cons_append, List.nil_append, List.append_nil, Bool.and_true, Bool.true_and, Bool.and_false, Bool.false_and, Bool.and_self, ite_not, zz_ary_0, zz_na1, zz_na2, zz_na3, zz_nI_ix, zz_nI_in, up_eq, lg_cc, q10, q20, q30, eq_self, ↓reduceIte, not_true_eq_false, not_false_eq_true, hh, hm, h89]
        exact rfl
theorem l1424 (hR : Rel I (J 5 4)) (hi : i + 4 ≤ n) (hn : n ≤ 2048) : Nx d n i ex (1424, [some (.ref 0), some (.ref 5), some (.ref 23), some (.ref 44), some (.int (nI i)), l5, l6], [], f, zz_hp n I J ex) := by
  rcases op_legal (I 0 (i + 1)) I _ hR with ⟨I1, v, hC, hM⟩ | ⟨e, -, hne, -⟩
  · obtain ⟨f1, hc'⟩ := hC (d + 1) n J ex rfl
    have hc : zz_Call zz_prog (d + 21) 25 [.ref 5, .int (I 0 (i + 1))] (zz_hp n I J ex) = some (.inl v, f1, zz_hp n I1 J ex) := hc'
    obtain ⟨u, rfl⟩ := zz_Call_rt (b := true) p25 rfl hc
    have z0 := call_0 hc
    obtain ⟨X, f2, hm', g0, hRX⟩ := hM (d + 14) n J ex
    have hm : zz_Call zz_prog (d + 21) 153 [.ref 23, .int (I 0 (i + 1))] (zz_hp n I1 J ex) = some (.inl (some (.int u)), f2, zz_hp n X J ex) := hm'
    refine ⟨X, J, ex, ?_, ?_, ?_, ?_, hRX, Or.inl rfl⟩
    rotate_left 3
    · simp (disch := first | omega | decide | assumption | (refine hcN_lt ?_; omega) | (refine ecN_lt ?_; omega) | (refine hcN_lt2 ?_; omega) | (refine ecN_lt2 ?_; omega)) only [s179_1424, s179_1425, s179_1426, s179_1428, s179_1429, s179_1430, s179_1431, s179_1434, s179_1435, s179_1436, s179_1438, s179_1439, s179_1440, s179_1441, s179_1444, s179_1447, s179_1448, zz_ck_t, zz_sl_n, zz_sl_i, zz_sl_r, zz_ret_l, zz_ret_r, zz_ret_if, zz_sw_cons, zz_sw_nil, ↓zz_ck_b, ↓zz_ck_0, ↓zz_ck_1, Option.toList, List.cons_append, List.nil_append, List.append_nil, Bool.and_true, Bool.true_and, Bool.and_false, Bool.false_and, Bool.and_self, ite_not, zz_ary_0, zz_na1, zz_na2, zz_na3, zz_nI_ix, zz_nI_in, up_eq, lg_cc, q10, q20, q30, eq_self, ↓reduceIte, not_true_eq_false, not_false_eq_true, hc, z0, hm]
      exact rfl
  · exact absurd rfl hne
theorem l1449 (hR : Rel I (J 5 4)) (hi : i + 4 ≤ n) (hn : n ≤ 2048) : Nx d n i ex (1449, [some (.ref 0), some (.ref 5), some (.ref 23), some (.ref 44), some (.int (nI i)), l5, l6], [], f, zz_hp n I J ex) := by
  rcases op_forecast (I 0 (i + 1)) (I 0 (i + 2)) (I 0 (i + 3)) I _ hR with ⟨I1, v, hC, hM⟩ | ⟨e, hT, hne, w, hM⟩
  · obtain ⟨f1, hc⟩ := hC d n J ex rfl
    have hv := zz_Call_rt (b := true) p26 rfl hc
    obtain ⟨u, rfl⟩ := hv
    have z0 := call_0 hc
    have hh : zz_Call zz_prog (d + 21) 177 [.ref 5, .int (I 0 (i + 1)), .int (I 0 (i + 2)), .int (I 0 (i + 3)), .ref 44] (zz_hp n I J ex) = some (.inl (some (.int 0)), false, zz_hp n I1 (zz_up J 44 0 u.toInt64) ex) := h177o _ _ _ hc
    obtain ⟨X, f2, hm', g0, hRX⟩ := hM (d + 14) n (zz_up J 44 0 u.toInt64) ex
    have hm : zz_Call zz_prog (d + 21) 154 [.ref 23, .int (I 0 (i + 1)), .int (I 0 (i + 2)), .int (I 0 (i + 3))] (zz_hp n I1 (zz_up J 44 0 u.toInt64) ex) = some (.inl (some (.int u)), f2, zz_hp n X (zz_up J 44 0 u.toInt64) ex) := hm'
    have h89 := c89 (d := d + 20) (n := n) (I := X) (J := (zz_up J 44 0 u.toInt64)) (ex := ex)
    rw [g0] at h89
    refine ⟨X, (zz_up J 44 0 u.toInt64), ex, ?_, ?_, ?_, ?_, hRX, Or.inl rfl⟩
    rotate_left 3
    · simp (disch := first | omega | decide | assumption | (refine hcN_lt ?_; omega) | (refine ecN_lt ?_; omega) | (refine hcN_lt2 ?_; omega) | (refine ecN_lt2 ?_; omega)) only [s179_1449, s179_1450, s179_1451, s179_1453, s179_1454, s179_1455, s179_1456, s179_1457, s179_1459, s179_1460, s179_1461, s179_1462, s179_1463, s179_1465, s179_1466, s179_1467, s179_1468, s179_1469, s179_1472, s179_1474, s179_1475, s179_1476, s179_1478, s179_1479, s179_1480, s179_1481, s179_1482, s179_1484, s179_1485, s179_1486, s179_1487, s179_1488, s179_1490, s179_1491, s179_1492, s179_1493, s179_1496, s179_1498, s179_1499, s179_1502, s179_1504, s179_1507, s179_1508, s179_1509, s179_1511, s179_1514, s179_1515, s179_1516, s179_1517, s179_1519, s179_1520, s179_1521, s179_1524, s179_1525, s179_1526, zz_ck_t, zz_sl_n, zz_sl_i, zz_sl_r, zz_ret_l, zz_ret_r, zz_ret_if, zz_sw_cons, zz_sw_nil, ↓zz_ck_b, ↓zz_ck_0, ↓zz_ck_1, Option.toList, List.cons_append, List.nil_append, List.append_nil, Bool.and_true, Bool.true_and, Bool.and_false, Bool.false_and, Bool.and_self, ite_not, zz_ary_0, zz_na1, zz_na2, zz_na3, zz_nI_ix, zz_nI_in, up_eq, lg_cc, q10, q20, q30, eq_self, ↓reduceIte, not_true_eq_false, not_false_eq_true, hh, z0, hm, h89]
      exact rfl
  · have he := kd_64 hne
    rcases he with rfl | rfl
    · have hh : zz_Call zz_prog (d + 21) 177 [.ref 5, .int (I 0 (i + 1)), .int (I 0 (i + 2)), .int (I 0 (i + 3)), .ref 44] (zz_hp n I J ex) = some (.inl (some (.int 1)), false, zz_hp n I J (ex ++ [(4, 6)])) := h177t6 _ _ _ (hT d n J ex)
      obtain ⟨X, f2, hm', g0', hRX⟩ := hM (d + 14) n J (ex ++ [(4, 6)])
      have hm : zz_Call zz_prog (d + 21) 154 [.ref 23, .int (I 0 (i + 1)), .int (I 0 (i + 2)), .int (I 0 (i + 3))] (zz_hp n I J (ex ++ [(4, 6)])) = some (.inl w, f2, zz_hp n X J (ex ++ [(4, 6)])) := hm'
      have g0 : X 23 0 = 1 := g0'
      have hv := zz_Call_rt (b := true) p154 rfl hm
      obtain ⟨u, rfl⟩ := hv
      have h89 := c89 (d := d + 20) (n := n) (I := X) (J := J) (ex := ex ++ [(4, 6)])
      rw [g0] at h89
      refine ⟨X, J, ex ++ [(4, 6)], ?_, ?_, ?_, ?_, hRX, Or.inr ⟨6, rfl⟩⟩
      rotate_left 3
      · simp (disch := first | omega | decide | assumption | (refine hcN_lt ?_; omega) | (refine ecN_lt ?_; omega) | (refine hcN_lt2 ?_; omega) | (refine ecN_lt2 ?_; omega)) only [s179_1449, s179_1450, s179_1451, s179_1453, s179_1454, s179_1455, s179_1456, s179_1457, s179_1459, s179_1460, s179_1461, s179_1462, s179_1463, s179_1465, s179_1466, s179_1467, s179_1468, s179_1469, s179_1472, s179_1474, s179_1475, s179_1476, s179_1478, s179_1479, s179_1480, s179_1481, s179_1482, s179_1484, s179_1485, s179_1486, s179_1487, s179_1488, s179_1490, s179_1491, s179_1492, s179_1493, s179_1496, s179_1498, s179_1499, s179_1502, s179_1504, s179_1507, s179_1508, s179_1509, s179_1511, s179_1514, s179_1515, s179_1516, s179_1517, s179_1519, s179_1520, s179_1521, s179_1524, s179_1525, s179_1526, zz_ck_t, zz_sl_n, zz_sl_i, zz_sl_r, zz_ret_l, zz_ret_r, zz_ret_if, zz_sw_cons, zz_sw_nil, ↓zz_ck_b, ↓zz_ck_0, ↓zz_ck_1, Option.toList, List.cons_append, List.nil_append, List.append_nil, Bool.and_true, Bool.true_and, Bool.and_false, Bool.false_and, Bool.and_self, ite_not, zz_ary_0, zz_na1, zz_na2, zz_na3, zz_nI_ix, zz_nI_in, up_eq, lg_cc, q10, q20, q30, eq_self, ↓reduceIte, not_true_eq_false, not_false_eq_true, hh, hm, h89]
        exact rfl
    · have hh : zz_Call zz_prog (d + 21) 177 [.ref 5, .int (I 0 (i + 1)), .int (I 0 (i + 2)), .int (I 0 (i + 3)), .ref 44] (zz_hp n I J ex) = some (.inl (some (.int 2)), false, zz_hp n I J (ex ++ [(4, 4)])) := h177t4 _ _ _ (hT d n J ex)
      obtain ⟨X, f2, hm', g0', hRX⟩ := hM (d + 14) n J (ex ++ [(4, 4)])
      have hm : zz_Call zz_prog (d + 21) 154 [.ref 23, .int (I 0 (i + 1)), .int (I 0 (i + 2)), .int (I 0 (i + 3))] (zz_hp n I J (ex ++ [(4, 4)])) = some (.inl w, f2, zz_hp n X J (ex ++ [(4, 4)])) := hm'
      have g0 : X 23 0 = 2 := g0'
      have hv := zz_Call_rt (b := true) p154 rfl hm
      obtain ⟨u, rfl⟩ := hv
      have h89 := c89 (d := d + 20) (n := n) (I := X) (J := J) (ex := ex ++ [(4, 4)])
      rw [g0] at h89
      refine ⟨X, J, ex ++ [(4, 4)], ?_, ?_, ?_, ?_, hRX, Or.inr ⟨4, rfl⟩⟩
      rotate_left 3
      · simp (disch := first | omega | decide | assumption | (refine hcN_lt ?_; omega) | (refine ecN_lt ?_; omega) | (refine hcN_lt2 ?_; omega) | (refine ecN_lt2 ?_; omega)) only [s179_1449, s179_1450, s179_1451, s179_1453, s179_1454, s179_1455, s179_1456, s179_1457, s179_1459, s179_1460, s179_1461, s179_1462, s179_1463, s179_1465, s179_1466, s179_1467, s179_1468, s179_1469, s179_1472, s179_1474, s179_1475, s179_1476, s179_1478, s179_1479, s179_1480, s179_1481, s179_1482, s179_1484, s179_1485, s179_1486, s179_1487, s179_1488, s179_1490, s179_1491, s179_1492, s179_1493, s179_1496, s179_1498, s179_1499, s179_1502, s179_1504, s179_1507, s179_1508, s179_1509, s179_1511, s179_1514, s179_1515, s179_1516, s179_1517, s179_1519, s179_1520, s179_1521, s179_1524, s179_1525, s179_1526, zz_ck_t, zz_sl_n, zz_sl_i, zz_sl_r, zz_ret_l, zz_ret_r, zz_ret_if, zz_sw_cons, zz_sw_nil, ↓zz_ck_b, ↓zz_ck_0, ↓zz_ck_1, Option.toList, List.cons_append, List.nil_append, List.append_nil, Bool.and_true, Bool.true_and, Bool.and_false, Bool.false_and, Bool.and_self, ite_not, zz_ary_0, zz_na1, zz_na2, zz_na3, zz_nI_ix, zz_nI_in, up_eq, lg_cc, q10, q20, q30, eq_self, ↓reduceIte, not_true_eq_false, not_false_eq_true, hh, hm, h89]
        exact rfl
end OU
