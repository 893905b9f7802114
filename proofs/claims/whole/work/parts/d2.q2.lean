theorem zz_all_id {α : Type} {f : Nat → Nat → α} {a : Nat} {x : α} (h : ∀ j, f a j = x) : zz_all f a x = f := by
  funext b j
  unfold zz_all
  split
  · rename_i z
    subst z
    exact (h j).symm
  · rfl
theorem zz_all_up {α : Type} {f : Nat → Nat → α} {i j a : Nat} {x y : α} (h : ¬ i = a) : zz_all (zz_up f i j x) a y = zz_up (zz_all f a y) i j x := by
  funext b c
  unfold zz_all zz_up
  dsimp only
  by_cases z : b = a
  · subst z
    rw [if_pos rfl, if_neg (fun w => h w.symm), if_pos rfl]
  · rw [if_neg z]
    by_cases w : b = i
    · rw [if_pos w, if_pos w]
      by_cases u : c = j
      · rw [if_pos u, if_pos u]
      · rw [if_neg u, if_neg u, if_neg z]
    · rw [if_neg w, if_neg w, if_neg z]
section Q2
variable {d n m a ln : Nat} {I : Nat → Nat → Int32} {J : Nat → Nat → Int64} {P : Nat → Nat → Value}
theorem c178g (e : ((zz_S0 n).take m)[a]? = some (1, ln)) (hl : ln ≤ 4096) (v : Int32) : ∃ X f, zz_Call zz_prog (d + 1) 178 [.ref a, .int v] (zz_hm n m I J P) = some (.inl none, f, zz_hm n m X J P) ∧ (∀ j, j < ln → X a j = v) ∧ ∀ b j, ¬ b = a → X b j = I b j := by
  obtain ⟨s', h1, X, f, rfl, g1, g2⟩ := zz_forR (F := fun c => zz_Run zz_prog d 178 c) (N := ln) (P := fun k s => ∃ (X : Nat → Nat → Int32) (f : Bool), s = (5, [some (.ref a), some (.int v), some (.int (nI k)), some (.int (nI ln))], [], f, zz_hm n m X J P) ∧ (∀ j, j < k → X a j = v) ∧ ∀ b j, ¬ b = a → X b j = I b j) (fun k s hk hP => by
    obtain ⟨X, f, rfl, g1, g2⟩ := hP
    refine ⟨(5, [some (.ref a), some (.int v), some (.int (nI (k + 1))), some (.int (nI ln))], [], false, zz_hm n m (zz_up X a k v) J P), ?_, zz_up X a k v, false, rfl, fun j hj => ?_, fun b j hb => ?_⟩
    · rw [s178_5]
      simp (disch := first | omega | decide) only [s178_0, s178_1, s178_2, s178_3, s178_4, s178_6, s178_7, s178_10, s178_11, s178_12, s178_13, s178_14, s178_17, s178_20, g178_13 e, zz_ck_t, zz_sl_n, zz_sl_i, zz_sl_r, zz_ret_l, zz_ret_r, zz_ret_if, zz_sw_cons, zz_sw_nil, ↓zz_ck_b, ↓zz_ck_0, ↓zz_ck_1, Option.toList, List.cons_append, List.nil_append, List.append_nil, Bool.and_true, Bool.true_and, Bool.and_false, Bool.false_and, Bool.and_self, ite_not, zz_ofN, zz_lc0, zz_cl0, zz_tc0, zz_ct0, zz_ec0, zz_lc1, zz_cl1, zz_tc1, zz_ct1, zz_ec1, zz_lc2, zz_cl2, zz_tc2, zz_ct2, zz_ec2, zz_lc3, zz_cl3, zz_tc3, zz_ct3, zz_ec3, zz_lc4, zz_cl4, zz_tc4, zz_ct4, zz_ec4, zz_lc5, zz_cl5, zz_tc5, zz_ct5, zz_ec5, zz_lc6, zz_cl6, zz_tc6, zz_ct6, zz_ec6, zz_lc7, zz_cl7, zz_tc7, zz_ct7, zz_ec7, zz_lc8, zz_cl8, zz_tc8, zz_ct8, zz_ec8, zz_lc9, zz_cl9, zz_tc9, zz_ct9, zz_ec9, zz_lc15, zz_cl15, zz_tc15, zz_ct15, zz_ec15, zz_lc16, zz_cl16, zz_tc16, zz_ct16, zz_ec16, zz_lc18, zz_cl18, zz_tc18, zz_ct18, zz_ec18, zz_lc19, zz_cl19, zz_tc19, zz_ct19, zz_ec19, zz_lc20, zz_cl20, zz_tc20, zz_ct20, zz_ec20, zz_lc36, zz_cl36, zz_tc36, zz_ct36, zz_ec36, zz_lc54, zz_cl54, zz_tc54, zz_ct54, zz_ec54, zz_lc72, zz_cl72, zz_tc72, zz_ct72, zz_ec72, zz_lc100, zz_cl100, zz_tc100, zz_ct100, zz_ec100, zz_lc126, zz_cl126, zz_tc126, zz_ct126, zz_ec126, zz_lc144, zz_cl144, zz_tc144, zz_ct144, zz_ec144, zz_lc146, zz_cl146, zz_tc146, zz_ct146, zz_ec146, zz_lc151, zz_cl151, zz_tc151, zz_ct151, zz_ec151, zz_lc162, zz_cl162, zz_tc162, zz_ct162, zz_ec162, zz_lc171, zz_cl171, zz_tc171, zz_ct171, zz_ec171, zz_lc176, zz_cl176, zz_tc176, zz_ct176, zz_ec176, zz_nI_add, zz_nI_mul, zz_nI_ix, zz_nI_in, zz_na1, zz_nb1, zz_na2, zz_nb2, zz_na3, zz_nb3, zz_na4, zz_nb4, zz_na5, zz_nb5, zz_na6, zz_nb6, zz_na7, zz_nb7, zz_na8, zz_nb8, zz_na9, zz_nb9, zz_na15, zz_nb15, zz_na16, zz_nb16, zz_na18, zz_nb18, zz_na19, zz_nb19, zz_na20, zz_nb20, zz_na36, zz_nb36, zz_na54, zz_nb54, zz_na72, zz_nb72, zz_na100, zz_nb100, zz_na126, zz_nb126, zz_na144, zz_nb144, zz_na146, zz_nb146, zz_na151, zz_nb151, zz_na162, zz_nb162, zz_na171, zz_nb171, zz_na176, zz_nb176, zz_nm2, zz_nn2, zz_nm3, zz_nn3, zz_nm4, zz_nn4, zz_nm5, zz_nn5, zz_nm6, zz_nn6, zz_nm100, zz_nn100, zz_ary_1, zz_ary_2, zz_ary_3, zz_ary_4, zz_ary_6, zz_ary_7, zz_ary_8, zz_ary_10, zz_ary_11, zz_ary_12, zz_ary_13, zz_ary_14, zz_ary_15, zz_ary_17, zz_ary_18, zz_ary_19, zz_ary_20, zz_ary_21, zz_ary_22, zz_ary_24, zz_ary_25, zz_ary_26, zz_ary_27, zz_ary_28, zz_ary_29, zz_ary_30, zz_ary_31, zz_ary_32, zz_ary_33, zz_ary_34, zz_ary_35, zz_ary_36, zz_ary_37, zz_ary_38, zz_ary_39, zz_ary_40, zz_ary_41, zz_ary_42, zz_ary_43, zz_yle, zz_nle, zz_ylt, zz_nlt, zz_yeq, zz_neq, ↓reduceIte, not_true_eq_false, not_false_eq_true, zz_leN, zz_ltN, zz_eqN]
    · by_cases z : j = k
      · subst z
        exact up_eq
      · rw [up_nf z]
        exact g1 j (by omega)
    · rw [up_ne hb]
      exact g2 b j hb) ln 0 (by omega) (5, [some (.ref a), some (.int v), some (.int (nI 0)), some (.int (nI ln))], [], true, zz_hm n m I J P) ⟨I, true, rfl, fun j hj => by omega, fun _ _ _ => rfl⟩
  refine ⟨X, f, ?_, g1, g2⟩
  have h0 : zz_Call zz_prog (d + 1) 178 [.ref a, .int v] (zz_hm n m I J P) = zz_Run zz_prog d 178 (5, [some (.ref a), some (.int v), some (.int (nI 0)), some (.int (nI ln))], [], true, zz_hm n m I J P) := by
    simp (disch := first | omega | decide) only [e178, s178_0, s178_1, s178_2, s178_3, s178_4, s178_6, s178_7, s178_10, s178_11, s178_12, s178_13, s178_14, s178_17, s178_20, g178_3 e, zz_ck_t, zz_sl_n, zz_sl_i, zz_sl_r, zz_ret_l, zz_ret_r, zz_ret_if, zz_sw_cons, zz_sw_nil, ↓zz_ck_b, ↓zz_ck_0, ↓zz_ck_1, Option.toList, List.cons_append, List.nil_append, List.append_nil, Bool.and_true, Bool.true_and, Bool.and_false, Bool.false_and, Bool.and_self, ite_not, zz_ofN]
    exact rfl
  rw [h0]
  refine Eq.trans h1 ?_
  show zz_Run zz_prog d 178 (5, [some (.ref a), some (.int v), some (.int (nI ln)), some (.int (nI ln))], [], f, zz_hm n m X J P) = _
  rw [s178_5]
  simp (disch := first | omega | decide) only [s178_0, s178_1, s178_2, s178_3, s178_4, s178_6, s178_7, s178_10, s178_11, s178_12, s178_13, s178_14, s178_17, s178_20, zz_ck_t, zz_sl_n, zz_sl_i, zz_sl_r, zz_ret_l, zz_ret_r, zz_ret_if, zz_sw_cons, zz_sw_nil, ↓zz_ck_b, ↓zz_ck_0, ↓zz_ck_1, Option.toList, List.cons_append, List.nil_append, List.append_nil, Bool.and_true, Bool.true_and, Bool.and_false, Bool.false_and, Bool.and_self, ite_not, zz_ofN, zz_lc0, zz_cl0, zz_tc0, zz_ct0, zz_ec0, zz_lc1, zz_cl1, zz_tc1, zz_ct1, zz_ec1, zz_lc2, zz_cl2, zz_tc2, zz_ct2, zz_ec2, zz_lc3, zz_cl3, zz_tc3, zz_ct3, zz_ec3, zz_lc4, zz_cl4, zz_tc4, zz_ct4, zz_ec4, zz_lc5, zz_cl5, zz_tc5, zz_ct5, zz_ec5, zz_lc6, zz_cl6, zz_tc6, zz_ct6, zz_ec6, zz_lc7, zz_cl7, zz_tc7, zz_ct7, zz_ec7, zz_lc8, zz_cl8, zz_tc8, zz_ct8, zz_ec8, zz_lc9, zz_cl9, zz_tc9, zz_ct9, zz_ec9, zz_lc15, zz_cl15, zz_tc15, zz_ct15, zz_ec15, zz_lc16, zz_cl16, zz_tc16, zz_ct16, zz_ec16, zz_lc18, zz_cl18, zz_tc18, zz_ct18, zz_ec18, zz_lc19, zz_cl19, zz_tc19, zz_ct19, zz_ec19, zz_lc20, zz_cl20, zz_tc20, zz_ct20, zz_ec20, zz_lc36, zz_cl36, zz_tc36, zz_ct36, zz_ec36, zz_lc54, zz_cl54, zz_tc54, zz_ct54, zz_ec54, zz_lc72, zz_cl72, zz_tc72, zz_ct72, zz_ec72, zz_lc100, zz_cl100, zz_tc100, zz_ct100, zz_ec100, zz_lc126, zz_cl126, zz_tc126, zz_ct126, zz_ec126, zz_lc144, zz_cl144, zz_tc144, zz_ct144, zz_ec144, zz_lc146, zz_cl146, zz_tc146, zz_ct146, zz_ec146, zz_lc151, zz_cl151, zz_tc151, zz_ct151, zz_ec151, zz_lc162, zz_cl162, zz_tc162, zz_ct162, zz_ec162, zz_lc171, zz_cl171, zz_tc171, zz_ct171, zz_ec171, zz_lc176, zz_cl176, zz_tc176, zz_ct176, zz_ec176, zz_nI_add, zz_nI_mul, zz_nI_ix, zz_nI_in, zz_na1, zz_nb1, zz_na2, zz_nb2, zz_na3, zz_nb3, zz_na4, zz_nb4, zz_na5, zz_nb5, zz_na6, zz_nb6, zz_na7, zz_nb7, zz_na8, zz_nb8, zz_na9, zz_nb9, zz_na15, zz_nb15, zz_na16, zz_nb16, zz_na18, zz_nb18, zz_na19, zz_nb19, zz_na20, zz_nb20, zz_na36, zz_nb36, zz_na54, zz_nb54, zz_na72, zz_nb72, zz_na100, zz_nb100, zz_na126, zz_nb126, zz_na144, zz_nb144, zz_na146, zz_nb146, zz_na151, zz_nb151, zz_na162, zz_nb162, zz_na171, zz_nb171, zz_na176, zz_nb176, zz_nm2, zz_nn2, zz_nm3, zz_nn3, zz_nm4, zz_nn4, zz_nm5, zz_nn5, zz_nm6, zz_nn6, zz_nm100, zz_nn100, zz_ary_1, zz_ary_2, zz_ary_3, zz_ary_4, zz_ary_6, zz_ary_7, zz_ary_8, zz_ary_10, zz_ary_11, zz_ary_12, zz_ary_13, zz_ary_14, zz_ary_15, zz_ary_17, zz_ary_18, zz_ary_19, zz_ary_20, zz_ary_21, zz_ary_22, zz_ary_24, zz_ary_25, zz_ary_26, zz_ary_27, zz_ary_28, zz_ary_29, zz_ary_30, zz_ary_31, zz_ary_32, zz_ary_33, zz_ary_34, zz_ary_35, zz_ary_36, zz_ary_37, zz_ary_38, zz_ary_39, zz_ary_40, zz_ary_41, zz_ary_42, zz_ary_43, zz_yle, zz_nle, zz_ylt, zz_nlt, zz_yeq, zz_neq, ↓reduceIte, not_true_eq_false, not_false_eq_true, zz_leN, zz_ltN, zz_eqN]
end Q2
