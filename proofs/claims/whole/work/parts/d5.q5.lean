def mkW (I : Nat → Nat → Int32) : Nat → Nat → Int32 := (zz_up (zz_up (zz_up (zz_up (zz_up (zz_up (zz_up (zz_up (zz_up (zz_up (zz_up (zz_up (zz_up (zz_up (zz_up (zz_up (zz_up (zz_up (zz_up (zz_up (zz_up (zz_up (zz_up (zz_up (zz_up (zz_up (zz_up (zz_up (zz_up (zz_up (zz_up (zz_up (zz_up (zz_up (zz_up (zz_up (zz_up (zz_up (zz_up (zz_up (zz_up (zz_up (zz_up (zz_up I 36 0 1) 36 1 1) 36 2 0) 36 3 0) 36 4 0) 36 5 1) 36 6 1) 36 7 1) 36 8 1) 36 9 0) 36 10 0) 36 11 0) 36 12 0) 36 13 2) 36 14 3) 36 15 0) 36 16 0) 36 17 1) 36 18 1) 36 19 1) 37 0 2) 37 1 1) 37 2 1) 37 3 0) 37 4 0) 37 5 (-1)) 37 6 (-1)) 37 7 0) 37 8 0) 37 9 1) 37 10 1) 37 11 2) 38 0 3) 38 1 4) 38 2 4) 38 3 5) 38 4 5) 38 5 6) 38 6 6) 38 7 5) 38 8 5) 38 9 4) 38 10 4) 38 11 3)
def mkP (P : Nat → Nat → Value) : Nat → Nat → Value := (zz_up (zz_up (zz_up (zz_up (zz_up (zz_up (zz_up (zz_up (zz_up (zz_up (zz_up (zz_up (zz_up (zz_up (zz_up (zz_up (zz_up (zz_up (zz_up (zz_up P 23 1 (.ref 24)) 23 2 (.ref 25)) 23 4 (.ref 26)) 23 5 (.ref 27)) 23 6 (.ref 28)) 23 7 (.ref 29)) 23 8 (.ref 30)) 23 9 (.ref 31)) 23 10 (.ref 32)) 23 12 (.ref 33)) 23 13 (.ref 34)) 23 14 (.ref 35)) 23 17 (.ref 36)) 23 18 (.ref 37)) 23 19 (.ref 38)) 23 20 (.ref 39)) 23 21 (.ref 40)) 23 22 (.ref 41)) 23 23 (.ref 42)) 23 24 (.ref 43))
def mkQ (Q : Nat → Nat → Value) : Nat → Nat → Value := (zz_up (zz_up (zz_up (zz_up (zz_up (zz_up (zz_up (zz_up (zz_up (zz_up (zz_up (zz_up (zz_up (zz_up (zz_up (zz_up (zz_up Q 5 0 (.ref 6)) 5 1 (.ref 7)) 5 2 (.ref 8)) 9 12 (.ref 10)) 9 13 (.ref 11)) 9 14 (.ref 12)) 9 15 (.ref 13)) 9 16 (.ref 14)) 9 17 (.ref 15)) 5 7 (.ref 9)) 16 12 (.ref 17)) 16 13 (.ref 18)) 16 14 (.ref 19)) 16 15 (.ref 20)) 16 16 (.ref 21)) 16 17 (.ref 22)) 5 8 (.ref 16))
def fpT : List Int32 := [2, 1, 1, 0, 0, -1, -1, 0, 0, 1, 1, 2]
def lsT : List Nat := [3, 4, 4, 5, 5, 6, 6, 5, 5, 4, 4, 3]
theorem mkP_at : mkP (mkQ (fun _ _ => .null)) = zz_P0 := by
  funext a f
  unfold mkP mkQ zz_up zz_P0
  dsimp only
  by_cases h5 : a = 5
  · subst h5
    match f with
    | 0 | 1 | 2 | 3 | 4 | 5 | 6 | 7 | 8 => rfl
    | f + 9 => rfl
  by_cases h9 : a = 9
  · subst h9
    match f with
    | 0 | 1 | 2 | 3 | 4 | 5 | 6 | 7 | 8 | 9 | 10 | 11 | 12 | 13 | 14 | 15 | 16 | 17 => rfl
    | f + 18 => rfl
  by_cases h16 : a = 16
  · subst h16
    match f with
    | 0 | 1 | 2 | 3 | 4 | 5 | 6 | 7 | 8 | 9 | 10 | 11 | 12 | 13 | 14 | 15 | 16 | 17 => rfl
    | f + 18 => rfl
  by_cases h23 : a = 23
  · subst h23
    match f with
    | 0 | 1 | 2 | 3 | 4 | 5 | 6 | 7 | 8 | 9 | 10 | 11 | 12 | 13 | 14 | 15 | 16 | 17 | 18 | 19 | 20 | 21 | 22 | 23 | 24 => rfl
    | f + 25 => rfl
  simp only [if_neg h5, if_neg h9, if_neg h16, if_neg h23]
  split
  all_goals first
    | rfl
    | exact absurd rfl h5
    | exact absurd rfl h9
    | exact absurd rfl h16
    | exact absurd rfl h23
section Q5
variable {d n : Nat} {I : Nat → Nat → Int32} {J : Nat → Nat → Int64} {P : Nat → Nat → Value}
theorem mk_s (hI : ∀ b j, 23 ≤ b → I b j = 0) : zz_Call zz_prog (d + 1) 88 [.ref 23] (zz_hm n 24 I J P) = zz_Run zz_prog d 88 (370, [some (.ref 23), none, none, none, none, none, none], [], false, zz_hm n 44 (mkW I) J (mkP P)) := by
  have hA : ∀ q, 23 ≤ q → zz_all I q 0 = I := fun q hq => zz_all_id (fun j => hI q j hq)
  simp (maxSteps := 2000000) (disch := first | omega | decide) only [e88, s88_0, s88_1, s88_4, s88_5, s88_13, s88_14, s88_22, s88_23, s88_30, s88_31, s88_38, s88_39, s88_46, s88_47, s88_54, s88_55, s88_62, s88_63, s88_70, s88_71, s88_78, s88_79, s88_86, s88_87, s88_94, s88_95, s88_102, s88_103, s88_107, s88_108, s88_109, s88_111, s88_112, s88_113, s88_115, s88_116, s88_117, s88_119, s88_120, s88_121, s88_123, s88_124, s88_125, s88_127, s88_128, s88_129, s88_131, s88_132, s88_134, s88_136, s88_137, s88_139, s88_141, s88_142, s88_144, s88_146, s88_147, s88_149, s88_151, s88_152, s88_154, s88_156, s88_157, s88_159, s88_161, s88_162, s88_164, s88_166, s88_167, s88_169, s88_171, s88_172, s88_174, s88_176, s88_177, s88_179, s88_181, s88_182, s88_184, s88_186, s88_187, s88_189, s88_191, s88_192, s88_194, s88_196, s88_197, s88_199, s88_204, s88_205, s88_209, s88_210, s88_211, s88_213, s88_214, s88_215, s88_217, s88_218, s88_219, s88_221, s88_222, s88_223, s88_225, s88_226, s88_227, s88_229, s88_230, s88_231, s88_233, s88_234, s88_236, s88_238, s88_239, s88_241, s88_243, s88_244, s88_246, s88_248, s88_249, s88_251, s88_253, s88_254, s88_256, s88_258, s88_259, s88_261, s88_266, s88_267, s88_271, s88_272, s88_273, s88_275, s88_276, s88_277, s88_279, s88_280, s88_281, s88_283, s88_284, s88_285, s88_287, s88_288, s88_289, s88_291, s88_292, s88_293, s88_296, s88_297, s88_299, s88_302, s88_303, s88_305, s88_307, s88_308, s88_310, s88_312, s88_313, s88_315, s88_317, s88_318, s88_320, s88_322, s88_323, s88_325, s88_330, s88_331, s88_338, s88_339, s88_346, s88_347, s88_354, s88_355, s88_362, s88_363, g88_8, g88_10, g88_17, g88_19, g88_25, g88_27, g88_33, g88_35, g88_41, g88_43, g88_49, g88_51, g88_57, g88_59, g88_65, g88_67, g88_73, g88_75, g88_81, g88_83, g88_89, g88_91, g88_97, g88_99, g88_105, g88_110, g88_114, g88_118, g88_122, g88_126, g88_130, g88_135, g88_140, g88_145, g88_150, g88_155, g88_160, g88_165, g88_170, g88_175, g88_180, g88_185, g88_190, g88_195, g88_200, g88_201, g88_207, g88_212, g88_216, g88_220, g88_224, g88_228, g88_232, g88_237, g88_242, g88_247, g88_252, g88_257, g88_262, g88_263, g88_269, g88_274, g88_278, g88_282, g88_286, g88_290, g88_295, g88_301, g88_306, g88_311, g88_316, g88_321, g88_326, g88_327, g88_333, g88_335, g88_341, g88_343, g88_349, g88_351, g88_357, g88_359, g88_365, g88_367, zz_ck_t, zz_sl_n, zz_sl_i, zz_sl_r, zz_ret_l, zz_ret_r, zz_ret_if, zz_sw_cons, zz_sw_nil, ↓zz_ck_b, ↓zz_ck_0, ↓zz_ck_1, Option.toList, List.cons_append, List.nil_append, List.append_nil, Bool.and_true, Bool.true_and, Bool.and_false, Bool.false_and, Bool.and_self, ite_not, zz_all_up, hA]
  exact rfl
theorem mkW_ne {b j : Nat} (h : b < 36 ∨ 38 < b) : mkW I b j = I b j := by
  unfold mkW
  simp (disch := first | omega | decide) only [up_ne]
theorem mkW_36 (hI : ∀ j, I 36 j = 0) (j : Nat) : mkW I 36 j = zz_t1.getD j 0 := by
  by_cases h : j < 20
  · match j, h with
    | 0, _ | 1, _ | 2, _ | 3, _ | 4, _ | 5, _ | 6, _ | 7, _ | 8, _ | 9, _ | 10, _ | 11, _ | 12, _ | 13, _ | 14, _ | 15, _ | 16, _ | 17, _ | 18, _ | 19, _ => rfl
    | j + 20, h => exact absurd h (by omega)
  · have : mkW I 36 j = I 36 j := by
      unfold mkW
      simp (disch := first | omega | decide) only [up_ne, up_nf]
    rw [this, hI j, List.getD_eq_getElem?_getD, List.getElem?_eq_none (show zz_t1.length ≤ j by exact (Nat.not_lt.mp h))]
    rfl
theorem mkW_37 {j : Nat} (h : j < 12) : mkW I 37 j = fpT.getD j 0 := by
  match j, h with
  | 0, _ | 1, _ | 2, _ | 3, _ | 4, _ | 5, _ | 6, _ | 7, _ | 8, _ | 9, _ | 10, _ | 11, _ => rfl
theorem mkW_38 {j : Nat} (h : j < 12) : mkW I 38 j = nI (lsT.getD j 0) := by
  match j, h with
  | 0, _ | 1, _ | 2, _ | 3, _ | 4, _ | 5, _ | 6, _ | 7, _ | 8, _ | 9, _ | 10, _ | 11, _ => rfl
end Q5
