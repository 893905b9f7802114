def mix (A B : Nat → Nat → Int32) : Nat → Nat → Int32 := fun b j => if b = 24 then B 24 j else A b j
section O7
variable {d n t pc s : Nat} {I X I1 W A B : Nat → Nat → Int32} {J : Nat → Nat → Int64} {ex : List (Nat × Nat)} {y : Int64} {S : Nat → Int32}
theorem mix24 : mix A B 24 = B 24 := funext fun _ => if_pos rfl
theorem mixn {b : Nat} (h : ¬ b = 24) : mix A B b = A b := funext fun _ => if_neg h
theorem Cst.mix (h : Cst A 9 (B 24)) : Cst (mix A B) 9 (mix A B 24) := by
  rw [mix24]
  exact h.cong (fun b j h1 h2 => congrFun (mixn (by omega)) j) (fun _ => rfl)
theorem fr_eF (e9 : X 9 = I 9) (e10 : X 10 = I 10) (e11 : X 11 = I 11) : eF X t = eF I t := by
  unfold eF hPL cnt aRF rF lO hRd wth
  rw [e9, e10, e11]
theorem fr_eRm (e : X 24 = I 24) : eRm X t = eRm I t := by
  unfold eRm aBm mB0 rch isMi hRm pcm cnt
  rw [e]
theorem op_undo : Opr 15 [] 143 [] (fun e => if e = 3 then 1 else 0) := fun I y hR => by
  have hR' := hR
  obtain ⟨g1, g2, ⟨gd, nm, g3⟩, ⟨P, pe, pk, g4⟩, g5, g6, g7, g8, pc, g9, g10, g11, g12, g13⟩ := hR'
  rcases g6 with z0 | z1
  · exact Or.inr ⟨3, fun d n J ex => c15e (d := d + 18) z0, by decide, _, OkM.ref' hR (fun d n J ex => ⟨false, c143n (d := d + 5) (g7.trans z0)⟩)⟩
  · rcases g13 with ⟨-, w, -⟩ | ⟨hp2, hv, hb⟩
    · rw [z1] at w
      exact absurd w (by decide)
    · obtain ⟨hC16, hV16⟩ := hb z1
      obtain ⟨N, f, t, D, x, a1, a2, a3, a4, a5, a6⟩ := hV16
      have hz : I 16 11 = 0 ∨ I 16 11 = 1 := by
        rw [hC16.2.2.2.2.2.2.2.2.2.2.2.2.2.2.1]
        exact a3.pl
      have cp9 : ∀ i j, i ≤ 6 → (i = 0 → j < 12) → cpAr I 16 9 (9 + i) j = I (16 + i) j := fun i j hi hj => by
        unfold cpAr
        simp only [zz_fold, zz_cpy]
        have h7 : i = 0 ∨ i = 1 ∨ i = 2 ∨ i = 3 ∨ i = 4 ∨ i = 5 ∨ i = 6 := by omega
        rcases h7 with rfl | rfl | rfl | rfl | rfl | rfl | rfl
        · simp
          exact cpUp_eq (by decide) 12 (hj rfl)
        all_goals
          simp
          exact cpUp_ne (by decide) 12
      have cpn : ∀ b j, ¬ (9 ≤ b ∧ b ≤ 15) → cpAr I 16 9 b j = I b j := fun b j hb => by
        unfold cpAr
        simp only [zz_fold, zz_cpy]
        rw [if_neg (by omega), if_neg (by omega), if_neg (by omega), if_neg (by omega), if_neg (by omega), if_neg (by omega)]
        exact cpUp_ne (by omega) 12
      have hI1 : ∀ b j, ¬ (9 ≤ b ∧ b ≤ 15) → ¬ (b = 5 ∧ j = 9) → zz_up (cpAr I 16 9) 5 9 0 b j = I b j := fun b j h1 h2 => by
        by_cases w : b = 5
        · rw [up_nf (fun q => h2 ⟨w, q⟩), cpn b j h1]
        · rw [up_ne w, cpn b j h1]
      have hI9 : ∀ i j, i ≤ 6 → (i = 0 → j < 12) → zz_up (cpAr I 16 9) 5 9 0 (9 + i) j = I (16 + i) j := fun i j hi hj => by rw [up_ne (by omega), cp9 i j hi hj]
      generalize hI1e : zz_up (cpAr I 16 9) 5 9 0 = I1 at *
      have I159 : I1 5 9 = 0 := by rw [← hI1e, up_eq]
      have un : (∀ b j, ¬ b = 24 → unM I1 b j = zz_up I1 23 0 0 b j) ∧ (∀ j, j < 193 → unM I1 24 j = I1 25 j) := by
        have : ∀ k, (∀ b j, ¬ b = 24 → zz_fold (fun k X => zz_up X 24 k (X 25 k)) k 0 (zz_up I1 23 0 0) b j = zz_up I1 23 0 0 b j) ∧ (∀ j, j < k → zz_fold (fun k X => zz_up X 24 k (X 25 k)) k 0 (zz_up I1 23 0 0) 24 j = I1 25 j) := fun k => by
          induction k with
          | zero => exact ⟨fun _ _ _ => rfl, fun j hj => by omega⟩
          | succ k ih =>
            obtain ⟨i1, i2⟩ := ih
            rw [zz_fold_succ, Nat.zero_add]
            refine ⟨fun b j hb => by rw [up_ne hb]; exact i1 b j hb, fun j hj => ?_⟩
            by_cases w : j = k
            · subst w
              rw [up_eq, i1 25 j (by decide), up_ne (by decide)]
            · rw [up_nf w]
              exact i2 j (by omega)
        exact this 193
      obtain ⟨u1, u2⟩ := un
      have X24 : ∀ j, j < 193 → zz_up (unM I1) 23 3 0 24 j = I 25 j := fun j hj => by rw [up_ne (by decide), u2 j hj, hI1 25 j (by omega) (by omega)]
      have Xn : ∀ b j, ¬ (9 ≤ b ∧ b ≤ 15) → ¬ (b = 5 ∧ j = 9) → ¬ b = 24 → ¬ (b = 23 ∧ (j = 0 ∨ j = 3)) → zz_up (unM I1) 23 3 0 b j = I b j := fun b j h1 h2 h3 h4 => by
        by_cases w : b = 23
        · subst w
          rw [up_nf (by omega), u1 23 j (by decide), up_nf (by omega), hI1 23 j (by omega) (by omega)]
        · rw [up_ne w, u1 b j h3, up_ne w, hI1 b j h1 h2]
      have X9 : ∀ i j, i ≤ 6 → (i = 0 → j < 12) → zz_up (unM I1) 23 3 0 (9 + i) j = I (16 + i) j := fun i j hi hj => by rw [up_ne (by omega), u1 (9 + i) j (by omega), up_ne (by omega), hI9 i j hi hj]
      refine Or.inl ⟨I1, some (.int (I 25 180)), fun d n J ex _ => ⟨false, ?_⟩, fun d n J ex => ⟨zz_up (unM I1) 23 3 0, false, ?_, ?_, ?_⟩⟩
      · have := c15a (d := d + 18) (n := n) (J := J) (ex := ex) z1 hz
        rw [hI1e, cp9 0 0 (by omega) (fun _ => by omega), hC16.2.2.2.2.2.2.1] at this
        exact this
      · have := c143a (d := d + 5) (n := n) (J := J) (ex := ex) (I := I1) (by rw [hI1 23 3 (by omega) (by omega), g7, z1])
        rw [u2 180 (by omega), hI1 25 180 (by omega) (by omega)] at this
        exact this
      · rw [up_nf (by decide), u1 23 0 (by decide), up_eq]
      · have e56 : zz_up (unM I1) 23 3 0 5 6 = I 5 6 := Xn 5 6 (by omega) (by omega) (by omega) (by omega)
        have e59 : zz_up (unM I1) 23 3 0 5 9 = 0 := by rw [up_ne (by decide), u1 5 9 (by decide), up_ne (by decide), I159]
        refine ⟨g1.cong (fun b j hb => Xn b j (by omega) (by omega) (by omega) (by omega)), g2.cong (fun b j hb hb2 => Xn b j (by omega) (by omega) (by omega) (by omega)), ⟨gd, nm, g3.cong (fun b j hb => Xn b j (by omega) (by omega) (by omega) (by omega))⟩, ⟨P, pe, pk, g4.cong (fun b j hb => Xn b j (by omega) (by omega) (by omega) (by omega)) (Xn _ _ (by omega) (by omega) (by omega) (by omega)) (Xn _ _ (by omega) (by omega) (by omega) (by omega))⟩, fun k hk => by rw [Xn _ _ (by omega) (by omega) (by omega) (by omega)]; exact g5 k hk, Or.inl e59, by rw [up_eq, e59], by rw [Xn 23 16 (by omega) (by omega) (by omega) (by omega), e56]; exact g8, pc, by rw [Xn _ _ (by omega) (by omega) (by omega) (by omega)]; exact g9, by rw [Xn _ _ (by omega) (by omega) (by omega) (by omega)]; exact g10, g11, hC16.congb (fun i j hi hj => X9 i j hi hj) X24, Or.inr ⟨hp2, ?_, fun w => ?_⟩⟩
        · rw [e56]
          exact Vst.cong ⟨N, f, t, D, x, a1, a2, a3, a4, a5, a6⟩ g11 X24
        · rw [e59] at w
          exact absurd w (by decide)
theorem c139z (h6 : ¬ I 24 180 = 6) (k a b : Int32) : zz_Call zz_prog (d + 2) 139 [.ref 23, .int k, .int a, .int b] (zz_hp n I J ex) = some (.inl (some (.int 0)), true, zz_hp n I J ex) := by
  simp (disch := first | omega | decide | assumption | (refine hcN_lt ?_; omega) | (refine ecN_lt ?_; omega) | (refine hcN_lt2 ?_; omega) | (refine ecN_lt2 ?_; omega)) only [e139, s139_0, s139_1, s139_4, s139_7, s139_8, s139_10, s139_11, s139_14, s139_17, s139_18, s139_20, s139_23, s139_24, s139_27, s139_30, s139_31, s139_34, s139_35, s139_38, s139_41, s139_42, s139_44, s139_45, s139_46, s139_47, s139_48, s139_49, s139_50, s139_53, s139_56, s139_57, s139_58, s139_59, s139_60, s139_61, s139_64, s139_65, s139_66, s139_67, s139_68, s139_71, s139_72, s139_75, s139_78, s139_79, s139_80, s139_81, s139_82, s139_83, s139_86, s139_87, s139_90, s139_91, s139_94, s139_95, s139_98, s139_101, s139_102, s139_103, s139_104, s139_107, s139_108, s139_111, s139_112, s139_114, s139_116, s139_119, s139_120, s139_121, s139_124, s139_125, s139_127, s139_128, s139_131, s139_133, s139_136, s139_137, s139_140, s139_141, zz_ck_t, zz_sl_n, zz_sl_i, zz_sl_r, zz_ret_l, zz_ret_r, zz_ret_if, zz_sw_cons, zz_sw_nil, ↓zz_ck_b, ↓zz_ck_0, ↓zz_ck_1, Option.toList, List.cons_append, List.nil_append, List.append_nil, Bool.and_true, Bool.true_and, Bool.and_false, Bool.false_and, Bool.and_self, ite_not, zz_ofN, zz_lc0, zz_cl0, zz_tc0, zz_ct0, zz_ec0, zz_lc1, zz_cl1, zz_tc1, zz_ct1, zz_ec1, zz_lc2, zz_cl2, zz_tc2, zz_ct2, zz_ec2, zz_lc3, zz_cl3, zz_tc3, zz_ct3, zz_ec3, zz_lc4, zz_cl4, zz_tc4, zz_ct4, zz_ec4, zz_lc5, zz_cl5, zz_tc5, zz_ct5, zz_ec5, zz_lc6, zz_cl6, zz_tc6, zz_ct6, zz_ec6, zz_lc7, zz_cl7, zz_tc7, zz_ct7, zz_ec7, zz_lc8, zz_cl8, zz_tc8, zz_ct8, zz_ec8, zz_lc9, zz_cl9, zz_tc9, zz_ct9, zz_ec9, zz_lc15, zz_cl15, zz_tc15, zz_ct15, zz_ec15, zz_lc16, zz_cl16, zz_tc16, zz_ct16, zz_ec16, zz_lc18, zz_cl18, zz_tc18, zz_ct18, zz_ec18, zz_lc19, zz_cl19, zz_tc19, zz_ct19, zz_ec19, zz_lc20, zz_cl20, zz_tc20, zz_ct20, zz_ec20, zz_lc36, zz_cl36, zz_tc36, zz_ct36, zz_ec36, zz_lc54, zz_cl54, zz_tc54, zz_ct54, zz_ec54, zz_lc72, zz_cl72, zz_tc72, zz_ct72, zz_ec72, zz_lc100, zz_cl100, zz_tc100, zz_ct100, zz_ec100, zz_lc126, zz_cl126, zz_tc126, zz_ct126, zz_ec126, zz_lc144, zz_cl144, zz_tc144, zz_ct144, zz_ec144, zz_lc146, zz_cl146, zz_tc146, zz_ct146, zz_ec146, zz_lc151, zz_cl151, zz_tc151, zz_ct151, zz_ec151, zz_lc162, zz_cl162, zz_tc162, zz_ct162, zz_ec162, zz_lc171, zz_cl171, zz_tc171, zz_ct171, zz_ec171, zz_lc176, zz_cl176, zz_tc176, zz_ct176, zz_ec176, zz_nI_add, zz_nI_mul, zz_nI_ix, zz_nI_in, zz_na1, zz_nb1, zz_na2, zz_nb2, zz_na3, zz_nb3, zz_na4, zz_nb4, zz_na5, zz_nb5, zz_na6, zz_nb6, zz_na7, zz_nb7, zz_na8, zz_nb8, zz_na9, zz_nb9, zz_na15, zz_nb15, zz_na16, zz_nb16, zz_na18, zz_nb18, zz_na19, zz_nb19, zz_na20, zz_nb20, zz_na36, zz_nb36, zz_na54, zz_nb54, zz_na72, zz_nb72, zz_na100, zz_nb100, zz_na126, zz_nb126, zz_na144, zz_nb144, zz_na146, zz_nb146, zz_na151, zz_nb151, zz_na162, zz_nb162, zz_na171, zz_nb171, zz_na176, zz_nb176, zz_nm2, zz_nn2, zz_nm3, zz_nn3, zz_nm4, zz_nn4, zz_nm5, zz_nn5, zz_nm6, zz_nn6, zz_nm100, zz_nn100, zz_ary_1, zz_ary_2, zz_ary_3, zz_ary_4, zz_ary_6, zz_ary_7, zz_ary_8, zz_ary_10, zz_ary_11, zz_ary_12, zz_ary_13, zz_ary_14, zz_ary_15, zz_ary_17, zz_ary_18, zz_ary_19, zz_ary_20, zz_ary_21, zz_ary_22, zz_ary_24, zz_ary_25, zz_ary_26, zz_ary_27, zz_ary_28, zz_ary_29, zz_ary_30, zz_ary_31, zz_ary_32, zz_ary_33, zz_ary_34, zz_ary_35, zz_ary_36, zz_ary_37, zz_ary_38, zz_ary_39, zz_ary_40, zz_ary_41, zz_ary_42, zz_ary_43, zz_yle, zz_nle, zz_ylt, zz_nlt, zz_yeq, zz_neq, ↓reduceIte, not_true_eq_false, not_false_eq_true, zz_leN, zz_ltN, zz_eqN, q181, r181, q180, r180, h6]
theorem pl_rng (k a b : Int32) : isPl k a b = !plO k a b ∧ (isPl k a b = true → ∃ q, q < 4 ∧ k = nI q) := by
  by_cases h : 0 ≤ k ∧ k ≤ 3
  · obtain ⟨q, hq, rfl⟩ := rng_nat (k := 3) rfl h.1 h.2 (by decide)
    refine ⟨?_, fun _ => ⟨q, by omega, rfl⟩⟩
    have h4 : q = 0 ∨ q = 1 ∨ q = 2 ∨ q = 3 := by omega
    unfold isPl plO
    rcases h4 with rfl | rfl | rfl | rfl <;> simp [nI] <;> cases isG a <;> cases isG b <;> decide
  · have e1 : plO k a b = true := by
      unfold plO
      by_cases z : 0 ≤ k
      · have z2 : ¬ k ≤ 3 := fun w => h ⟨z, w⟩
        simp [z2]
      · simp [z]
    have e2 : isPl k a b = false := by
      unfold isPl
      have i0 : ¬ k = 0 := fun z => h (by subst z; decide)
      have i1 : ¬ k = 1 := fun z => h (by subst z; decide)
      have i2 : ¬ k = 2 := fun z => h (by subst z; decide)
      have i3 : ¬ k = 3 := fun z => h (by subst z; decide)
      simp [i0, i1, i2, i3]
    rw [e1, e2]
    exact ⟨rfl, fun z => by cases z⟩
end O7
