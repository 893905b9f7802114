theorem zz_forR {β γ : Type} {F : β → γ} {N : Nat} {P : Nat → β → Prop} (hs : ∀ k s, k < N → P k s → ∃ s', F s = F s' ∧ P (k + 1) s') : ∀ (m k : Nat), k + m = N → ∀ s, P k s → ∃ s', F s = F s' ∧ P N s'
  | 0, k, hk, s, h => by
    have : k = N := by omega
    subst this
    exact ⟨s, rfl, h⟩
  | m + 1, k, hk, s, h => by
    obtain ⟨s1, h1, h2⟩ := hs k s (by omega) h
    obtain ⟨s2, h3, h4⟩ := zz_forR hs m (k + 1) (by omega) s1 h2
    exact ⟨s2, h1.trans h3, h4⟩
theorem cN_mn {P : Nat → Bool} {n : Nat} : ∀ m, cN P n ≤ cN P (n + m)
  | 0 => Nat.le_refl _
  | m + 1 => by
    have := cN_mn (P := P) (n := n) m
    rw [show n + (m + 1) = (n + m) + 1 by omega, cN_s]
    split <;> omega
theorem cnt_cN {I : Nat → Nat → Int32} {a n : Nat} {v : Int32} : cnt I a n v = cN (fun s => decide (I a s = v)) n := by
  unfold cnt cN
  refine zz_fold_congr n 0 0 (fun i a _ _ => ?_)
  simp only [decide_eq_true_eq]
def chC (I : Nat → Nat → Int32) (p c : Nat) : Nat := if hRm I c p = true then wk (Fm I p) 15 true c (fun e => decide (I 24 e = nI (p + 1))) else 0
def chm (I : Nat → Nat → Int32) (p : Nat) : Nat := zz_fold (fun c a => if a < chC I p c then chC I p c else a) 54 0 0
theorem wk_bd {F : Nat → Bool} : ∀ (m : Nat) (first : Bool) (c : Nat) (R : Nat → Bool), wk F m first c R ≤ m
  | 0, _, _, _ => Nat.le_refl 0
  | m + 1, first, c, R => by
    cases hF : (!first && F c) with
    | true =>
      rw [wk, hF, if_pos rfl]
      omega
    | false =>
      rw [wk_le hF]
      intro e _ _ _
      have := wk_bd (F := F) m false (oE e c) (fun x => R x && !decide (x = e))
      omega
theorem chC_le {I : Nat → Nat → Int32} {p c : Nat} : chC I p c ≤ 15 := by
  unfold chC
  split
  · exact wk_bd 15 _ _ _
  · omega
section CH4
variable {d n t pc s : Nat} {I : Nat → Nat → Int32} {J : Nat → Nat → Int64} {ex : List (Nat × Nat)} {h : zz_H}
theorem c113o (hT : Tm I) (p : Nat) (hp : p < 4) (hr : cnt I 24 72 (nI (p + 1)) ≤ 15) : ∃ (X : Nat → Nat → Int32) (own : Nat → Nat) (f : Bool), zz_Run zz_prog (d + 4) 113 (4, [some (.ref 23), some (.int (nI p)), some (.int 0), some (.int 0), none, none], [], true, zz_hp n I J ex) = zz_Run zz_prog (d + 4) 113 (4, [some (.ref 23), some (.int (nI p)), some (.int (nI (cnt I 24 72 (nI (p + 1))))), some (.int (nI 72)), none, none], [], f, zz_hp n X J ex) ∧ Sm I X ∧ (∀ k, k < cnt I 24 72 (nI (p + 1)) → X 39 k = nI (own k) ∧ own k < 72) ∧ (∀ i j, i < cnt I 24 72 (nI (p + 1)) → j < cnt I 24 72 (nI (p + 1)) → own i = own j → i = j) ∧ (∀ e, e < 72 → (decide (I 24 e = nI (p + 1)) = true ↔ ∃ k, k < cnt I 24 72 (nI (p + 1)) ∧ own k = e)) := by
  rw [cnt_cN] at hr ⊢
  generalize hQ : (fun s => decide (I 24 s = nI (p + 1))) = Q at *
  have hQe : ∀ e, Q e = decide (I 24 e = nI (p + 1)) := fun e => by rw [← hQ]
  obtain ⟨s', h1, X, own, f, rfl, g1, g2, g3, g4, g5⟩ := zz_forR (F := fun c => zz_Run zz_prog (d + 4) 113 c) (N := 72) (P := fun e s => ∃ (X : Nat → Nat → Int32) (own : Nat → Nat) (f : Bool), s = (4, [some (.ref 23), some (.int (nI p)), some (.int (nI (cN Q e))), some (.int (nI e)), none, none], [], f, zz_hp n X J ex) ∧ Sm I X ∧ (∀ k, k < cN Q e → X 39 k = nI (own k) ∧ own k < e) ∧ (∀ i j, i < j → j < cN Q e → own i < own j) ∧ (∀ k, k < cN Q e → Q (own k) = true) ∧ (∀ x, x < e → Q x = true → ∃ k, k < cN Q e ∧ own k = x)) (fun e s he hP => by
    obtain ⟨X, own, f, rfl, g1, g2, g3, g4, g5⟩ := hP
    have hle := cN_mn (P := Q) (n := e + 1) (72 - (e + 1))
    rw [show e + 1 + (72 - (e + 1)) = 72 by omega] at hle
    have hX : X 24 e = I 24 e := g1 24 (by omega) e
    have hqe := hQe e
    cases hq : Q e with
    | false =>
      have hs : cN Q (e + 1) = cN Q e := by rw [cN_s, hq]; rfl
      rw [hq] at hqe
      have hne : ¬ I 24 e = nI (p + 1) := of_decide_eq_false hqe.symm
      refine ⟨_, ?_, X, own, f, rfl, g1, ?_, ?_, ?_, ?_⟩
      · rw [hs, s113_4]
        simp (disch := first | omega | decide | assumption | (refine hcN_lt ?_; omega) | (refine ecN_lt ?_; omega) | (refine hcN_lt2 ?_; omega) | (refine ecN_lt2 ?_; omega)) only [s113_0, s113_1, s113_2, s113_3, s113_5, s113_7, s113_10, s113_11, s113_14, s113_15, s113_16, s113_17, s113_18, s113_19, s113_20, s113_21, s113_24, s113_25, s113_28, s113_29, s113_30, s113_31, s113_34, s113_37, s113_40, s113_41, s113_42, s113_43, s113_47, s113_49, s113_52, s113_53, s113_55, s113_56, s113_59, s113_62, s113_63, s113_65, s113_66, s113_67, s113_70, s113_73, s113_74, s113_76, s113_78, s113_79, s113_82, s113_84, s113_87, s113_88, s113_89, s113_92, s113_95, s113_96, zz_ck_t, zz_sl_n, zz_sl_i, zz_sl_r, zz_ret_l, zz_ret_r, zz_ret_if, zz_sw_cons, zz_sw_nil, ↓zz_ck_b, ↓zz_ck_0, ↓zz_ck_1, Option.toList, List.cons_append, List.nil_append, List.append_nil, Bool.and_true, Bool.true_and, Bool.and_false, Bool.false_and, Bool.and_self, ite_not, zz_ofN, zz_lc0, zz_cl0, zz_tc0, zz_ct0, zz_ec0, zz_lc1, zz_cl1, zz_tc1, zz_ct1, zz_ec1, zz_lc2, zz_cl2, zz_tc2, zz_ct2, zz_ec2, zz_lc3, zz_cl3, zz_tc3, zz_ct3, zz_ec3, zz_lc4, zz_cl4, zz_tc4, zz_ct4, zz_ec4, zz_lc5, zz_cl5, zz_tc5, zz_ct5, zz_ec5, zz_lc6, zz_cl6, zz_tc6, zz_ct6, zz_ec6, zz_lc7, zz_cl7, zz_tc7, zz_ct7, zz_ec7, zz_lc8, zz_cl8, zz_tc8, zz_ct8, zz_ec8, zz_lc9, zz_cl9, zz_tc9, zz_ct9, zz_ec9, zz_lc15, zz_cl15, zz_tc15, zz_ct15, zz_ec15, zz_lc16, zz_cl16, zz_tc16, zz_ct16, zz_ec16, zz_lc18, zz_cl18, zz_tc18, zz_ct18, zz_ec18, zz_lc19, zz_cl19, zz_tc19, zz_ct19, zz_ec19, zz_lc20, zz_cl20, zz_tc20, zz_ct20, zz_ec20, zz_lc36, zz_cl36, zz_tc36, zz_ct36, zz_ec36, zz_lc54, zz_cl54, zz_tc54, zz_ct54, zz_ec54, zz_lc72, zz_cl72, zz_tc72, zz_ct72, zz_ec72, zz_lc100, zz_cl100, zz_tc100, zz_ct100, zz_ec100, zz_lc126, zz_cl126, zz_tc126, zz_ct126, zz_ec126, zz_lc144, zz_cl144, zz_tc144, zz_ct144, zz_ec144, zz_lc146, zz_cl146, zz_tc146, zz_ct146, zz_ec146, zz_lc151, zz_cl151, zz_tc151, zz_ct151, zz_ec151, zz_lc162, zz_cl162, zz_tc162, zz_ct162, zz_ec162, zz_lc171, zz_cl171, zz_tc171, zz_ct171, zz_ec171, zz_lc176, zz_cl176, zz_tc176, zz_ct176, zz_ec176, zz_nI_add, zz_nI_mul, zz_nI_ix, zz_nI_in, zz_na1, zz_nb1, zz_na2, zz_nb2, zz_na3, zz_nb3, zz_na4, zz_nb4, zz_na5, zz_nb5, zz_na6, zz_nb6, zz_na7, zz_nb7, zz_na8, zz_nb8, zz_na9, zz_nb9, zz_na15, zz_nb15, zz_na16, zz_nb16, zz_na18, zz_nb18, zz_na19, zz_nb19, zz_na20, zz_nb20, zz_na36, zz_nb36, zz_na54, zz_nb54, zz_na72, zz_nb72, zz_na100, zz_nb100, zz_na126, zz_nb126, zz_na144, zz_nb144, zz_na146, zz_nb146, zz_na151, zz_nb151, zz_na162, zz_nb162, zz_na171, zz_nb171, zz_na176, zz_nb176, zz_nm2, zz_nn2, zz_nm3, zz_nn3, zz_nm4, zz_nn4, zz_nm5, zz_nn5, zz_nm6, zz_nn6, zz_nm100, zz_nn100, zz_ary_1, zz_ary_2, zz_ary_3, zz_ary_4, zz_ary_6, zz_ary_7, zz_ary_8, zz_ary_10, zz_ary_11, zz_ary_12, zz_ary_13, zz_ary_14, zz_ary_15, zz_ary_17, zz_ary_18, zz_ary_19, zz_ary_20, zz_ary_21, zz_ary_22, zz_ary_24, zz_ary_25, zz_ary_26, zz_ary_27, zz_ary_28, zz_ary_29, zz_ary_30, zz_ary_31, zz_ary_32, zz_ary_33, zz_ary_34, zz_ary_35, zz_ary_36, zz_ary_37, zz_ary_38, zz_ary_39, zz_ary_40, zz_ary_41, zz_ary_42, zz_ary_43, zz_yle, zz_nle, zz_ylt, zz_nlt, zz_yeq, zz_neq, ↓reduceIte, not_true_eq_false, not_false_eq_true, zz_leN, zz_ltN, zz_eqN, Int32.zero_add, hX, hne]
      · rw [hs]
        exact fun k hk => ⟨(g2 k hk).1, by have := (g2 k hk).2; omega⟩
      · rw [hs]
        exact g3
      · rw [hs]
        exact g4
      · rw [hs]
        intro x hx hxq
        rcases Nat.lt_or_ge x e with z | z
        · exact g5 x z hxq
        · have : x = e := by omega
          subst this
          rw [hq] at hxq
          cases hxq
    | true =>
      have hs : cN Q (e + 1) = cN Q e + 1 := by rw [cN_s, hq]; rfl
      rw [hq] at hqe
      have hne : I 24 e = nI (p + 1) := of_decide_eq_true hqe.symm
      rw [hs] at hle
      refine ⟨_, ?_, zz_up X 39 (cN Q e) (nI e), (fun k => if k = cN Q e then e else own k), false, rfl, g1.up (by omega), ?_, ?_, ?_, ?_⟩
      · rw [hs, s113_4]
        simp (disch := first | omega | decide | assumption | (refine hcN_lt ?_; omega) | (refine ecN_lt ?_; omega) | (refine hcN_lt2 ?_; omega) | (refine ecN_lt2 ?_; omega)) only [s113_0, s113_1, s113_2, s113_3, s113_5, s113_7, s113_10, s113_11, s113_14, s113_15, s113_16, s113_17, s113_18, s113_19, s113_20, s113_21, s113_24, s113_25, s113_28, s113_29, s113_30, s113_31, s113_34, s113_37, s113_40, s113_41, s113_42, s113_43, s113_47, s113_49, s113_52, s113_53, s113_55, s113_56, s113_59, s113_62, s113_63, s113_65, s113_66, s113_67, s113_70, s113_73, s113_74, s113_76, s113_78, s113_79, s113_82, s113_84, s113_87, s113_88, s113_89, s113_92, s113_95, s113_96, zz_ck_t, zz_sl_n, zz_sl_i, zz_sl_r, zz_ret_l, zz_ret_r, zz_ret_if, zz_sw_cons, zz_sw_nil, ↓zz_ck_b, ↓zz_ck_0, ↓zz_ck_1, Option.toList, List.cons_append, List.nil_append, List.append_nil, Bool.and_true, Bool.true_and, Bool.and_false, Bool.false_and, Bool.and_self, ite_not, zz_ofN, zz_lc0, zz_cl0, zz_tc0, zz_ct0, zz_ec0, zz_lc1, zz_cl1, zz_tc1, zz_ct1, zz_ec1, zz_lc2, zz_cl2, zz_tc2, zz_ct2, zz_ec2, zz_lc3, zz_cl3, zz_tc3, zz_ct3, zz_ec3, zz_lc4, zz_cl4, zz_tc4, zz_ct4, zz_ec4, zz_lc5, zz_cl5, zz_tc5, zz_ct5, zz_ec5, zz_lc6, zz_cl6, zz_tc6, zz_ct6, zz_ec6, zz_lc7, zz_cl7, zz_tc7, zz_ct7, zz_ec7, zz_lc8, zz_cl8, zz_tc8, zz_ct8, zz_ec8, zz_lc9, zz_cl9, zz_tc9, zz_ct9, zz_ec9, zz_lc15, zz_cl15, zz_tc15, zz_ct15, zz_ec15, zz_lc16, zz_cl16, zz_tc16, zz_ct16, zz_ec16, zz_lc18, zz_cl18, zz_tc18, zz_ct18, zz_ec18, zz_lc19, zz_cl19, zz_tc19, zz_ct19, zz_ec19, zz_lc20, zz_cl20, zz_tc20, zz_ct20, zz_ec20, zz_lc36, zz_cl36, zz_tc36, zz_ct36, zz_ec36, zz_lc54, zz_cl54, zz_tc54, zz_ct54, zz_ec54, zz_lc72, zz_cl72, zz_tc72, zz_ct72, zz_ec72, zz_lc100, zz_cl100, zz_tc100, zz_ct100, zz_ec100, zz_lc126, zz_cl126, zz_tc126, zz_ct126, zz_ec126, zz_lc144, zz_cl144, zz_tc144, zz_ct144, zz_ec144, zz_lc146, zz_cl146, zz_tc146, zz_ct146, zz_ec146, zz_lc151, zz_cl151, zz_tc151, zz_ct151, zz_ec151, zz_lc162, zz_cl162, zz_tc162, zz_ct162, zz_ec162, zz_lc171, zz_cl171, zz_tc171, zz_ct171, zz_ec171, zz_lc176, zz_cl176, zz_tc176, zz_ct176, zz_ec176, zz_nI_add, zz_nI_mul, zz_nI_ix, zz_nI_in, zz_na1, zz_nb1, zz_na2, zz_nb2, zz_na3, zz_nb3, zz_na4, zz_nb4, zz_na5, zz_nb5, zz_na6, zz_nb6, zz_na7, zz_nb7, zz_na8, zz_nb8, zz_na9, zz_nb9, zz_na15, zz_nb15, zz_na16, zz_nb16, zz_na18, zz_nb18, zz_na19, zz_nb19, zz_na20, zz_nb20, zz_na36, zz_nb36, zz_na54, zz_nb54, zz_na72, zz_nb72, zz_na100, zz_nb100, zz_na126, zz_nb126, zz_na144, zz_nb144, zz_na146, zz_nb146, zz_na151, zz_nb151, zz_na162, zz_nb162, zz_na171, zz_nb171, zz_na176, zz_nb176, zz_nm2, zz_nn2, zz_nm3, zz_nn3, zz_nm4, zz_nn4, zz_nm5, zz_nn5, zz_nm6, zz_nn6, zz_nm100, zz_nn100, zz_ary_1, zz_ary_2, zz_ary_3, zz_ary_4, zz_ary_6, zz_ary_7, zz_ary_8, zz_ary_10, zz_ary_11, zz_ary_12, zz_ary_13, zz_ary_14, zz_ary_15, zz_ary_17, zz_ary_18, zz_ary_19, zz_ary_20, zz_ary_21, zz_ary_22, zz_ary_24, zz_ary_25, zz_ary_26, zz_ary_27, zz_ary_28, zz_ary_29, zz_ary_30, zz_ary_31, zz_ary_32, zz_ary_33, zz_ary_34, zz_ary_35, zz_ary_36, zz_ary_37, zz_ary_38, zz_ary_39, zz_ary_40, zz_ary_41, zz_ary_42, zz_ary_43, zz_yle, zz_nle, zz_ylt, zz_nlt, zz_yeq, zz_neq, ↓reduceIte, not_true_eq_false, not_false_eq_true, zz_leN, zz_ltN, zz_eqN, Int32.zero_add, hX, hne]
      · rw [hs]
        intro k hk
        by_cases z : k = cN Q e
        · subst z
          simp only [up_eq, if_true]
          exact ⟨trivial, by omega⟩
        · simp only [z, if_false]
          rw [up_nf z]
          have := g2 k (by omega)
          exact ⟨this.1, by omega⟩
      · rw [hs]
        intro i j hij hj
        have zi : ¬ i = cN Q e := by omega
        by_cases zj : j = cN Q e
        · simp only [zi, zj, if_true, if_false]
          exact (g2 i (by omega)).2
        · simp only [zi, zj, if_false]
          exact g3 i j hij (by omega)
      · rw [hs]
        intro k hk
        by_cases z : k = cN Q e
        · simp only [z, if_true, hq]
        · simp only [z, if_false]
          exact g4 k (by omega)
      · rw [hs]
        intro x hx hxq
        rcases Nat.lt_or_ge x e with z | z
        · obtain ⟨k, k1, k2⟩ := g5 x z hxq
          refine ⟨k, by omega, ?_⟩
          have : ¬ k = cN Q e := by omega
          simp only [this, if_false, k2]
        · have : x = e := by omega
          subst this
          exact ⟨cN Q x, by omega, by simp⟩) 72 0 (by omega) (4, [some (.ref 23), some (.int (nI p)), some (.int 0), some (.int 0), none, none], [], true, zz_hp n I J ex) ⟨I, fun _ => 0, true, rfl, Sm.rfl', fun k hk => absurd hk (by rw [cN_0]; omega), fun i j _ hj => absurd hj (by rw [cN_0]; omega), fun k hk => absurd hk (by rw [cN_0]; omega), fun x hx => by omega⟩
  refine ⟨X, own, f, h1, g1, g2, ?_, ?_⟩
  · intro i j hi hj hij
    rcases Nat.lt_trichotomy i j with z | z | z
    · have := g3 i j z hj
      omega
    · exact z
    · have := g3 j i z hi
      omega
  · intro e he
    rw [← hQe]
    constructor
    · exact g5 e he
    · rintro ⟨k, k1, k2⟩
      rw [← k2]
      exact g4 k k1
theorem c113 (hT : Tm I) (p : Nat) (hp : p < 4) (hr : cnt I 24 72 (nI (p + 1)) ≤ 15) : ∃ X f, zz_Call zz_prog (d + 5) 113 [.ref 23, .int (nI p)] (zz_hp n I J ex) = some (.inl (some (.int (nI (chm I p)))), f, zz_hp n X J ex) ∧ Sm I X := by
  obtain ⟨X0, own, f0, h1, g1, g2, g3, g4⟩ := c113o (d := d) (n := n) (J := J) (ex := ex) hT p hp hr
  generalize hR : cnt I 24 72 (nI (p + 1)) = r at *
  have key : ∀ c, c < 54 → ∀ X, Sm I X → (∀ j, X 39 j = X0 39 j) → ∃ X' f', zz_Call zz_prog (d + 4) 114 [.ref 23, .int (nI c), .int (nI p), .int (nI r)] (zz_hp n X J ex) = some (.inl (some (.int (nI (wk (Fm I p) 15 true c (fun e => decide (I 24 e = nI (p + 1))))))), f', zz_hp n X' J ex) ∧ Sm I X' ∧ (∀ j, X' 39 j = X0 39 j) := by
    intro c hc X hX h39
    obtain ⟨X', k1, k2⟩ := c114 (d := d + 1) (n := n) (J := J) (ex := ex) (I := X) (hX.tm hT) hp hr (own := own) (fun k hk => (h39 k).trans (g2 k hk).1) (fun k hk => (g2 k hk).2) c hc
    have eF : Fm X p = Fm I p := by
      funext x
      unfold Fm isMi
      rw [hX 24 (by omega)]
    have ew : wm (Fm I p) own r 15 true c (fun _ => false) = wk (Fm I p) 15 true c (fun e => decide (I 24 e = nI (p + 1))) := wm_wk (fun k hk => (g2 k hk).2) g3 15 true c _ _ (fun e he => by
      rw [g4 e he]
      constructor
      · rintro ⟨k, a1, a2⟩
        exact ⟨k, a1, a2, rfl⟩
      · rintro ⟨k, a1, a2, -⟩
        exact ⟨k, a1, a2⟩)
    rw [eF, ew] at k1
    exact ⟨X', false, k1, hX.trans k2.sm, fun j => (k2 39 (by decide) (by decide) (by decide) j).trans (h39 j)⟩
  obtain ⟨s', h2, X, f, l5, rfl, a1, a2, a3⟩ := zz_forR (F := fun c => zz_Run zz_prog (d + 4) 113 c) (N := 54) (P := fun c s => ∃ (X : Nat → Nat → Int32) (f : Bool) (l5 : Option Value), s = (45, [some (.ref 23), some (.int (nI p)), some (.int (nI r)), some (.int (nI (zz_fold (fun c a => if a < chC I p c then chC I p c else a) c 0 0))), some (.int (nI c)), l5], [], f, zz_hp n X J ex) ∧ Sm I X ∧ (∀ j, X 39 j = X0 39 j) ∧ zz_fold (fun c a => if a < chC I p c then chC I p c else a) c 0 0 ≤ 15) (fun c s hc hP => by
    obtain ⟨X, f, l5, rfl, a1, a2, a3⟩ := hP
    have hfs := zz_fold_succ (f := fun c a => if a < chC I p c then chC I p c else a) c 0 0
    rw [Nat.zero_add] at hfs
    generalize hb : zz_fold (fun c a => if a < chC I p c then chC I p c else a) c 0 0 = b at *
    have hle := chC_le (I := I) (p := p) (c := c)
    have w : zz_Call zz_prog (d + 4) 104 [.ref 23, .int (nI c), .int (nI p)] (zz_hp n X J ex) = some (.inl (some (.int (bI (hRm I c p)))), true, zz_hp n X J ex) := by
      rw [c104 (d := d + 3) (a1.tm hT) c p hc hp]
      unfold hRm
      rw [funext (a1 24 (by omega))]
    cases hh : hRm I c p with
    | false =>
      have e0 : chC I p c = 0 := by
        unfold chC
        rw [hh]
        rfl
      refine ⟨_, ?_, X, f, some (.int 0), rfl, a1, a2, ?_⟩
      · rw [hfs, e0, s113_45]
        rw [hh] at w
        simp (disch := first | omega | decide | assumption | (refine hcN_lt ?_; omega) | (refine ecN_lt ?_; omega) | (refine hcN_lt2 ?_; omega) | (refine ecN_lt2 ?_; omega)) only [s113_0, s113_1, s113_2, s113_3, s113_5, s113_7, s113_10, s113_11, s113_14, s113_15, s113_16, s113_17, s113_18, s113_19, s113_20, s113_21, s113_24, s113_25, s113_28, s113_29, s113_30, s113_31, s113_34, s113_37, s113_40, s113_41, s113_42, s113_43, s113_47, s113_49, s113_52, s113_53, s113_55, s113_56, s113_59, s113_62, s113_63, s113_65, s113_66, s113_67, s113_70, s113_73, s113_74, s113_76, s113_78, s113_79, s113_82, s113_84, s113_87, s113_88, s113_89, s113_92, s113_95, s113_96, zz_ck_t, zz_sl_n, zz_sl_i, zz_sl_r, zz_ret_l, zz_ret_r, zz_ret_if, zz_sw_cons, zz_sw_nil, ↓zz_ck_b, ↓zz_ck_0, ↓zz_ck_1, Option.toList, List.cons_append, List.nil_append, List.append_nil, Bool.and_true, Bool.true_and, Bool.and_false, Bool.false_and, Bool.and_self, ite_not, zz_ofN, zz_lc0, zz_cl0, zz_tc0, zz_ct0, zz_ec0, zz_lc1, zz_cl1, zz_tc1, zz_ct1, zz_ec1, zz_lc2, zz_cl2, zz_tc2, zz_ct2, zz_ec2, zz_lc3, zz_cl3, zz_tc3, zz_ct3, zz_ec3, zz_lc4, zz_cl4, zz_tc4, zz_ct4, zz_ec4, zz_lc5, zz_cl5, zz_tc5, zz_ct5, zz_ec5, zz_lc6, zz_cl6, zz_tc6, zz_ct6, zz_ec6, zz_lc7, zz_cl7, zz_tc7, zz_ct7, zz_ec7, zz_lc8, zz_cl8, zz_tc8, zz_ct8, zz_ec8, zz_lc9, zz_cl9, zz_tc9, zz_ct9, zz_ec9, zz_lc15, zz_cl15, zz_tc15, zz_ct15, zz_ec15, zz_lc16, zz_cl16, zz_tc16, zz_ct16, zz_ec16, zz_lc18, zz_cl18, zz_tc18, zz_ct18, zz_ec18, zz_lc19, zz_cl19, zz_tc19, zz_ct19, zz_ec19, zz_lc20, zz_cl20, zz_tc20, zz_ct20, zz_ec20, zz_lc36, zz_cl36, zz_tc36, zz_ct36, zz_ec36, zz_lc54, zz_cl54, zz_tc54, zz_ct54, zz_ec54, zz_lc72, zz_cl72, zz_tc72, zz_ct72, zz_ec72, zz_lc100, zz_cl100, zz_tc100, zz_ct100, zz_ec100, zz_lc126, zz_cl126, zz_tc126, zz_ct126, zz_ec126, zz_lc144, zz_cl144, zz_tc144, zz_ct144, zz_ec144, zz_lc146, zz_cl146, zz_tc146, zz_ct146, zz_ec146, zz_lc151, zz_cl151, zz_tc151, zz_ct151, zz_ec151, zz_lc162, zz_cl162, zz_tc162, zz_ct162, zz_ec162, zz_lc171, zz_cl171, zz_tc171, zz_ct171, zz_ec171, zz_lc176, zz_cl176, zz_tc176, zz_ct176, zz_ec176, zz_nI_add, zz_nI_mul, zz_nI_ix, zz_nI_in, zz_na1, zz_nb1, zz_na2, zz_nb2, zz_na3, zz_nb3, zz_na4, zz_nb4, zz_na5, zz_nb5, zz_na6, zz_nb6, zz_na7, zz_nb7, zz_na8, zz_nb8, zz_na9, zz_nb9, zz_na15, zz_nb15, zz_na16, zz_nb16, zz_na18, zz_nb18, zz_na19, zz_nb19, zz_na20, zz_nb20, zz_na36, zz_nb36, zz_na54, zz_nb54, zz_na72, zz_nb72, zz_na100, zz_nb100, zz_na126, zz_nb126, zz_na144, zz_nb144, zz_na146, zz_nb146, zz_na151, zz_nb151, zz_na162, zz_nb162, zz_na171, zz_nb171, zz_na176, zz_nb176, zz_nm2, zz_nn2, zz_nm3, zz_nn3, zz_nm4, zz_nn4, zz_nm5, zz_nn5, zz_nm6, zz_nn6, zz_nm100, zz_nn100, zz_ary_1, zz_ary_2, zz_ary_3, zz_ary_4, zz_ary_6, zz_ary_7, zz_ary_8, zz_ary_10, zz_ary_11, zz_ary_12, zz_ary_13, zz_ary_14, zz_ary_15, zz_ary_17, zz_ary_18, zz_ary_19, zz_ary_20, zz_ary_21, zz_ary_22, zz_ary_24, zz_ary_25, zz_ary_26, zz_ary_27, zz_ary_28, zz_ary_29, zz_ary_30, zz_ary_31, zz_ary_32, zz_ary_33, zz_ary_34, zz_ary_35, zz_ary_36, zz_ary_37, zz_ary_38, zz_ary_39, zz_ary_40, zz_ary_41, zz_ary_42, zz_ary_43, zz_yle, zz_nle, zz_ylt, zz_nlt, zz_yeq, zz_neq, ↓reduceIte, not_true_eq_false, not_false_eq_true, zz_leN, zz_ltN, zz_eqN, w, bI_0]
      · rw [hfs, e0]
        split <;> omega
    | true =>
      have e0 : chC I p c = wk (Fm I p) 15 true c (fun e => decide (I 24 e = nI (p + 1))) := by
        unfold chC
        rw [hh]
        rfl
      obtain ⟨X', f', k1, k2, k3⟩ := key c hc X a1 a2
      rw [← e0] at k1
      refine ⟨_, ?_, X', f && f', some (.int (nI (chC I p c))), rfl, k2, k3, ?_⟩
      · rw [hfs, s113_45]
        rw [hh] at w
        by_cases z : b < chC I p c
        · simp (disch := first | omega | decide | assumption | (refine hcN_lt ?_; omega) | (refine ecN_lt ?_; omega) | (refine hcN_lt2 ?_; omega) | (refine ecN_lt2 ?_; omega)) only [s113_0, s113_1, s113_2, s113_3, s113_5, s113_7, s113_10, s113_11, s113_14, s113_15, s113_16, s113_17, s113_18, s113_19, s113_20, s113_21, s113_24, s113_25, s113_28, s113_29, s113_30, s113_31, s113_34, s113_37, s113_40, s113_41, s113_42, s113_43, s113_47, s113_49, s113_52, s113_53, s113_55, s113_56, s113_59, s113_62, s113_63, s113_65, s113_66, s113_67, s113_70, s113_73, s113_74, s113_76, s113_78, s113_79, s113_82, s113_84, s113_87, s113_88, s113_89, s113_92, s113_95, s113_96, zz_ck_t, zz_sl_n, zz_sl_i, zz_sl_r, zz_ret_l, zz_ret_r, zz_ret_if, zz_sw_cons, zz_sw_nil, ↓zz_ck_b, ↓zz_ck_0, ↓zz_ck_1, Option.toList, List.cons_append, List.nil_append, List.append_nil, Bool.and_true, Bool.true_and, Bool.and_false, Bool.false_and, Bool.and_self, ite_not, zz_ofN, zz_lc0, zz_cl0, zz_tc0, zz_ct0, zz_ec0, zz_lc1, zz_cl1, zz_tc1, zz_ct1, zz_ec1, zz_lc2, zz_cl2, zz_tc2, zz_ct2, zz_ec2, zz_lc3, zz_cl3, zz_tc3, zz_ct3, zz_ec3, zz_lc4, zz_cl4, zz_tc4, zz_ct4, zz_ec4, zz_lc5, zz_cl5, zz_tc5, zz_ct5, zz_ec5, zz_lc6, zz_cl6, zz_tc6, zz_ct6, zz_ec6, zz_lc7, zz_cl7, zz_tc7, zz_ct7, zz_ec7, zz_lc8, zz_cl8, zz_tc8, zz_ct8, zz_ec8, zz_lc9, zz_cl9, zz_tc9, zz_ct9, zz_ec9, zz_lc15, zz_cl15, zz_tc15, zz_ct15, zz_ec15, zz_lc16, zz_cl16, zz_tc16, zz_ct16, zz_ec16, zz_lc18, zz_cl18, zz_tc18, zz_ct18, zz_ec18, zz_lc19, zz_cl19, zz_tc19, zz_ct19, zz_ec19, zz_lc20, zz_cl20, zz_tc20, zz_ct20, zz_ec20, zz_lc36, zz_cl36, zz_tc36, zz_ct36, zz_ec36, zz_lc54, zz_cl54, zz_tc54, zz_ct54, zz_ec54, zz_lc72, zz_cl72, zz_tc72, zz_ct72, zz_ec72, zz_lc100, zz_cl100, zz_tc100, zz_ct100, zz_ec100, zz_lc126, zz_cl126, zz_tc126, zz_ct126, zz_ec126, zz_lc144, zz_cl144, zz_tc144, zz_ct144, zz_ec144, zz_lc146, zz_cl146, zz_tc146, zz_ct146, zz_ec146, zz_lc151, zz_cl151, zz_tc151, zz_ct151, zz_ec151, zz_lc162, zz_cl162, zz_tc162, zz_ct162, zz_ec162, zz_lc171, zz_cl171, zz_tc171, zz_ct171, zz_ec171, zz_lc176, zz_cl176, zz_tc176, zz_ct176, zz_ec176, zz_nI_add, zz_nI_mul, zz_nI_ix, zz_nI_in, zz_na1, zz_nb1, zz_na2, zz_nb2, zz_na3, zz_nb3, zz_na4, zz_nb4, zz_na5, zz_nb5, zz_na6, zz_nb6, zz_na7, zz_nb7, zz_na8, zz_nb8, zz_na9, zz_nb9, zz_na15, zz_nb15, zz_na16, zz_nb16, zz_na18, zz_nb18, zz_na19, zz_nb19, zz_na20, zz_nb20, zz_na36, zz_nb36, zz_na54, zz_nb54, zz_na72, zz_nb72, zz_na100, zz_nb100, zz_na126, zz_nb126, zz_na144, zz_nb144, zz_na146, zz_nb146, zz_na151, zz_nb151, zz_na162, zz_nb162, zz_na171, zz_nb171, zz_na176, zz_nb176, zz_nm2, zz_nn2, zz_nm3, zz_nn3, zz_nm4, zz_nn4, zz_nm5, zz_nn5, zz_nm6, zz_nn6, zz_nm100, zz_nn100, zz_ary_1, zz_ary_2, zz_ary_3, zz_ary_4, zz_ary_6, zz_ary_7, zz_ary_8, zz_ary_10, zz_ary_11, zz_ary_12, zz_ary_13, zz_ary_14, zz_ary_15, zz_ary_17, zz_ary_18, zz_ary_19, zz_ary_20, zz_ary_21, zz_ary_22, zz_ary_24, zz_ary_25, zz_ary_26, zz_ary_27, zz_ary_28, zz_ary_29, zz_ary_30, zz_ary_31, zz_ary_32, zz_ary_33, zz_ary_34, zz_ary_35, zz_ary_36, zz_ary_37, zz_ary_38, zz_ary_39, zz_ary_40, zz_ary_41, zz_ary_42, zz_ary_43, zz_yle, zz_nle, zz_ylt, zz_nlt, zz_yeq, zz_neq, ↓reduceIte, not_true_eq_false, not_false_eq_true, zz_leN, zz_ltN, zz_eqN, w, bI_0, k1, z, Bool.true_eq_false]
        · simp (disch := first | omega | decide | assumption | (refine hcN_lt ?_; omega) | (refine ecN_lt ?_; omega) | (refine hcN_lt2 ?_; omega) | (refine ecN_lt2 ?_; omega)) only [s113_0, s113_1, s113_2, s113_3, s113_5, s113_7, s113_10, s113_11, s113_14, s113_15, s113_16, s113_17, s113_18, s113_19, s113_20, s113_21, s113_24, s113_25, s113_28, s113_29, s113_30, s113_31, s113_34, s113_37, s113_40, s113_41, s113_42, s113_43, s113_47, s113_49, s113_52, s113_53, s113_55, s113_56, s113_59, s113_62, s113_63, s113_65, s113_66, s113_67, s113_70, s113_73, s113_74, s113_76, s113_78, s113_79, s113_82, s113_84, s113_87, s113_88, s113_89, s113_92, s113_95, s113_96, zz_ck_t, zz_sl_n, zz_sl_i, zz_sl_r, zz_ret_l, zz_ret_r, zz_ret_if, zz_sw_cons, zz_sw_nil, ↓zz_ck_b, ↓zz_ck_0, ↓zz_ck_1, Option.toList, List.cons_append, List.nil_append, List.append_nil, Bool.and_true, Bool.true_and, Bool.and_false, Bool.false_and, Bool.and_self, ite_not, zz_ofN, zz_lc0, zz_cl0, zz_tc0, zz_ct0, zz_ec0, zz_lc1, zz_cl1, zz_tc1, zz_ct1, zz_ec1, zz_lc2, zz_cl2, zz_tc2, zz_ct2, zz_ec2, zz_lc3, zz_cl3, zz_tc3, zz_ct3, zz_ec3, zz_lc4, zz_cl4, zz_tc4, zz_ct4, zz_ec4, zz_lc5, zz_cl5, zz_tc5, zz_ct5, zz_ec5, zz_lc6, zz_cl6, zz_tc6, zz_ct6, zz_ec6, zz_lc7, zz_cl7, zz_tc7, zz_ct7, zz_ec7, zz_lc8, zz_cl8, zz_tc8, zz_ct8, zz_ec8, zz_lc9, zz_cl9, zz_tc9, zz_ct9, zz_ec9, zz_lc15, zz_cl15, zz_tc15, zz_ct15, zz_ec15, zz_lc16, zz_cl16, zz_tc16, zz_ct16, zz_ec16, zz_lc18, zz_cl18, zz_tc18, zz_ct18, zz_ec18, zz_lc19, zz_cl19, zz_tc19, zz_ct19, zz_ec19, zz_lc20, zz_cl20, zz_tc20, zz_ct20, zz_ec20, zz_lc36, zz_cl36, zz_tc36, zz_ct36, zz_ec36, zz_lc54, zz_cl54, zz_tc54, zz_ct54, zz_ec54, zz_lc72, zz_cl72, zz_tc72, zz_ct72, zz_ec72, zz_lc100, zz_cl100, zz_tc100, zz_ct100, zz_ec100, zz_lc126, zz_cl126, zz_tc126, zz_ct126, zz_ec126, zz_lc144, zz_cl144, zz_tc144, zz_ct144, zz_ec144, zz_lc146, zz_cl146, zz_tc146, zz_ct146, zz_ec146, zz_lc151, zz_cl151, zz_tc151, zz_ct151, zz_ec151, zz_lc162, zz_cl162, zz_tc162, zz_ct162, zz_ec162, zz_lc171, zz_cl171, zz_tc171, zz_ct171, zz_ec171, zz_lc176, zz_cl176, zz_tc176, zz_ct176, zz_ec176, zz_nI_add, zz_nI_mul, zz_nI_ix, zz_nI_in, zz_na1, zz_nb1, zz_na2, zz_nb2, zz_na3, zz_nb3, zz_na4, zz_nb4, zz_na5, zz_nb5, zz_na6, zz_nb6, zz_na7, zz_nb7, zz_na8, zz_nb8, zz_na9, zz_nb9, zz_na15, zz_nb15, zz_na16, zz_nb16, zz_na18, zz_nb18, zz_na19, zz_nb19, zz_na20, zz_nb20, zz_na36, zz_nb36, zz_na54, zz_nb54, zz_na72, zz_nb72, zz_na100, zz_nb100, zz_na126, zz_nb126, zz_na144, zz_nb144, zz_na146, zz_nb146, zz_na151, zz_nb151, zz_na162, zz_nb162, zz_na171, zz_nb171, zz_na176, zz_nb176, zz_nm2, zz_nn2, zz_nm3, zz_nn3, zz_nm4, zz_nn4, zz_nm5, zz_nn5, zz_nm6, zz_nn6, zz_nm100, zz_nn100, zz_ary_1, zz_ary_2, zz_ary_3, zz_ary_4, zz_ary_6, zz_ary_7, zz_ary_8, zz_ary_10, zz_ary_11, zz_ary_12, zz_ary_13, zz_ary_14, zz_ary_15, zz_ary_17, zz_ary_18, zz_ary_19, zz_ary_20, zz_ary_21, zz_ary_22, zz_ary_24, zz_ary_25, zz_ary_26, zz_ary_27, zz_ary_28, zz_ary_29, zz_ary_30, zz_ary_31, zz_ary_32, zz_ary_33, zz_ary_34, zz_ary_35, zz_ary_36, zz_ary_37, zz_ary_38, zz_ary_39, zz_ary_40, zz_ary_41, zz_ary_42, zz_ary_43, zz_yle, zz_nle, zz_ylt, zz_nlt, zz_yeq, zz_neq, ↓reduceIte, not_true_eq_false, not_false_eq_true, zz_leN, zz_ltN, zz_eqN, w, bI_0, k1, z, Bool.true_eq_false]
      · rw [hfs]
        split <;> omega) 54 0 (by omega) (45, [some (.ref 23), some (.int (nI p)), some (.int (nI r)), some (.int 0), some (.int 0), none], [], f0, zz_hp n X0 J ex) ⟨X0, f0, none, rfl, g1, fun _ => rfl, by show 0 ≤ 15; omega⟩
  refine ⟨X, f, ?_, a1⟩
  simp (disch := first | omega | decide | assumption | (refine hcN_lt ?_; omega) | (refine ecN_lt ?_; omega) | (refine hcN_lt2 ?_; omega) | (refine ecN_lt2 ?_; omega)) only [e113, s113_0, s113_1, s113_2, s113_3, s113_5, s113_7, s113_10, s113_11, s113_14, s113_15, s113_16, s113_17, s113_18, s113_19, s113_20, s113_21, s113_24, s113_25, s113_28, s113_29, s113_30, s113_31, s113_34, s113_37, s113_40, s113_41, s113_42, s113_43, s113_47, s113_49, s113_52, s113_53, s113_55, s113_56, s113_59, s113_62, s113_63, s113_65, s113_66, s113_67, s113_70, s113_73, s113_74, s113_76, s113_78, s113_79, s113_82, s113_84, s113_87, s113_88, s113_89, s113_92, s113_95, s113_96, zz_ck_t, zz_sl_n, zz_sl_i, zz_sl_r, zz_ret_l, zz_ret_r, zz_ret_if, zz_sw_cons, zz_sw_nil, ↓zz_ck_b, ↓zz_ck_0, ↓zz_ck_1, Option.toList, List.cons_append, List.nil_append, List.append_nil, Bool.and_true, Bool.true_and, Bool.and_false, Bool.false_and, Bool.and_self, ite_not, zz_ofN, zz_lc0, zz_cl0, zz_tc0, zz_ct0, zz_ec0, zz_lc1, zz_cl1, zz_tc1, zz_ct1, zz_ec1, zz_lc2, zz_cl2, zz_tc2, zz_ct2, zz_ec2, zz_lc3, zz_cl3, zz_tc3, zz_ct3, zz_ec3, zz_lc4, zz_cl4, zz_tc4, zz_ct4, zz_ec4, zz_lc5, zz_cl5, zz_tc5, zz_ct5, zz_ec5, zz_lc6, zz_cl6, zz_tc6, zz_ct6, zz_ec6, zz_lc7, zz_cl7, zz_tc7, zz_ct7, zz_ec7, zz_lc8, zz_cl8, zz_tc8, zz_ct8, zz_ec8, zz_lc9, zz_cl9, zz_tc9, zz_ct9, zz_ec9, zz_lc15, zz_cl15, zz_tc15, zz_ct15, zz_ec15, zz_lc16, zz_cl16, zz_tc16, zz_ct16, zz_ec16, zz_lc18, zz_cl18, zz_tc18, zz_ct18, zz_ec18, zz_lc19, zz_cl19, zz_tc19, zz_ct19, zz_ec19, zz_lc20, zz_cl20, zz_tc20, zz_ct20, zz_ec20, zz_lc36, zz_cl36, zz_tc36, zz_ct36, zz_ec36, zz_lc54, zz_cl54, zz_tc54, zz_ct54, zz_ec54, zz_lc72, zz_cl72, zz_tc72, zz_ct72, zz_ec72, zz_lc100, zz_cl100, zz_tc100, zz_ct100, zz_ec100, zz_lc126, zz_cl126, zz_tc126, zz_ct126, zz_ec126, zz_lc144, zz_cl144, zz_tc144, zz_ct144, zz_ec144, zz_lc146, zz_cl146, zz_tc146, zz_ct146, zz_ec146, zz_lc151, zz_cl151, zz_tc151, zz_ct151, zz_ec151, zz_lc162, zz_cl162, zz_tc162, zz_ct162, zz_ec162, zz_lc171, zz_cl171, zz_tc171, zz_ct171, zz_ec171, zz_lc176, zz_cl176, zz_tc176, zz_ct176, zz_ec176, zz_nI_add, zz_nI_mul, zz_nI_ix, zz_nI_in, zz_na1, zz_nb1, zz_na2, zz_nb2, zz_na3, zz_nb3, zz_na4, zz_nb4, zz_na5, zz_nb5, zz_na6, zz_nb6, zz_na7, zz_nb7, zz_na8, zz_nb8, zz_na9, zz_nb9, zz_na15, zz_nb15, zz_na16, zz_nb16, zz_na18, zz_nb18, zz_na19, zz_nb19, zz_na20, zz_nb20, zz_na36, zz_nb36, zz_na54, zz_nb54, zz_na72, zz_nb72, zz_na100, zz_nb100, zz_na126, zz_nb126, zz_na144, zz_nb144, zz_na146, zz_nb146, zz_na151, zz_nb151, zz_na162, zz_nb162, zz_na171, zz_nb171, zz_na176, zz_nb176, zz_nm2, zz_nn2, zz_nm3, zz_nn3, zz_nm4, zz_nn4, zz_nm5, zz_nn5, zz_nm6, zz_nn6, zz_nm100, zz_nn100, zz_ary_1, zz_ary_2, zz_ary_3, zz_ary_4, zz_ary_6, zz_ary_7, zz_ary_8, zz_ary_10, zz_ary_11, zz_ary_12, zz_ary_13, zz_ary_14, zz_ary_15, zz_ary_17, zz_ary_18, zz_ary_19, zz_ary_20, zz_ary_21, zz_ary_22, zz_ary_24, zz_ary_25, zz_ary_26, zz_ary_27, zz_ary_28, zz_ary_29, zz_ary_30, zz_ary_31, zz_ary_32, zz_ary_33, zz_ary_34, zz_ary_35, zz_ary_36, zz_ary_37, zz_ary_38, zz_ary_39, zz_ary_40, zz_ary_41, zz_ary_42, zz_ary_43, zz_yle, zz_nle, zz_ylt, zz_nlt, zz_yeq, zz_neq, ↓reduceIte, not_true_eq_false, not_false_eq_true, zz_leN, zz_ltN, zz_eqN]
  refine h1.trans ?_
  rw [s113_4]
  simp (disch := first | omega | decide | assumption | (refine hcN_lt ?_; omega) | (refine ecN_lt ?_; omega) | (refine hcN_lt2 ?_; omega) | (refine ecN_lt2 ?_; omega)) only [s113_0, s113_1, s113_2, s113_3, s113_5, s113_7, s113_10, s113_11, s113_14, s113_15, s113_16, s113_17, s113_18, s113_19, s113_20, s113_21, s113_24, s113_25, s113_28, s113_29, s113_30, s113_31, s113_34, s113_37, s113_40, s113_41, s113_42, s113_43, s113_47, s113_49, s113_52, s113_53, s113_55, s113_56, s113_59, s113_62, s113_63, s113_65, s113_66, s113_67, s113_70, s113_73, s113_74, s113_76, s113_78, s113_79, s113_82, s113_84, s113_87, s113_88, s113_89, s113_92, s113_95, s113_96, zz_ck_t, zz_sl_n, zz_sl_i, zz_sl_r, zz_ret_l, zz_ret_r, zz_ret_if, zz_sw_cons, zz_sw_nil, ↓zz_ck_b, ↓zz_ck_0, ↓zz_ck_1, Option.toList, List.cons_append, List.nil_append, List.append_nil, Bool.and_true, Bool.true_and, Bool.and_false, Bool.false_and, Bool.and_self, ite_not, zz_ofN, zz_lc0, zz_cl0, zz_tc0, zz_ct0, zz_ec0, zz_lc1, zz_cl1, zz_tc1, zz_ct1, zz_ec1, zz_lc2, zz_cl2, zz_tc2, zz_ct2, zz_ec2, zz_lc3, zz_cl3, zz_tc3, zz_ct3, zz_ec3, zz_lc4, zz_cl4, zz_tc4, zz_ct4, zz_ec4, zz_lc5, zz_cl5, zz_tc5, zz_ct5, zz_ec5, zz_lc6, zz_cl6, zz_tc6, zz_ct6, zz_ec6, zz_lc7, zz_cl7, zz_tc7, zz_ct7, zz_ec7, zz_lc8, zz_cl8, zz_tc8, zz_ct8, zz_ec8, zz_lc9, zz_cl9, zz_tc9, zz_ct9, zz_ec9, zz_lc15, zz_cl15, zz_tc15, zz_ct15, zz_ec15, zz_lc16, zz_cl16, zz_tc16, zz_ct16, zz_ec16, zz_lc18, zz_cl18, zz_tc18, zz_ct18, zz_ec18, zz_lc19, zz_cl19, zz_tc19, zz_ct19, zz_ec19, zz_lc20, zz_cl20, zz_tc20, zz_ct20, zz_ec20, zz_lc36, zz_cl36, zz_tc36, zz_ct36, zz_ec36, zz_lc54, zz_cl54, zz_tc54, zz_ct54, zz_ec54, zz_lc72, zz_cl72, zz_tc72, zz_ct72, zz_ec72, zz_lc100, zz_cl100, zz_tc100, zz_ct100, zz_ec100, zz_lc126, zz_cl126, zz_tc126, zz_ct126, zz_ec126, zz_lc144, zz_cl144, zz_tc144, zz_ct144, zz_ec144, zz_lc146, zz_cl146, zz_tc146, zz_ct146, zz_ec146, zz_lc151, zz_cl151, zz_tc151, zz_ct151, zz_ec151, zz_lc162, zz_cl162, zz_tc162, zz_ct162, zz_ec162, zz_lc171, zz_cl171, zz_tc171, zz_ct171, zz_ec171, zz_lc176, zz_cl176, zz_tc176, zz_ct176, zz_ec176, zz_nI_add, zz_nI_mul, zz_nI_ix, zz_nI_in, zz_na1, zz_nb1, zz_na2, zz_nb2, zz_na3, zz_nb3, zz_na4, zz_nb4, zz_na5, zz_nb5, zz_na6, zz_nb6, zz_na7, zz_nb7, zz_na8, zz_nb8, zz_na9, zz_nb9, zz_na15, zz_nb15, zz_na16, zz_nb16, zz_na18, zz_nb18, zz_na19, zz_nb19, zz_na20, zz_nb20, zz_na36, zz_nb36, zz_na54, zz_nb54, zz_na72, zz_nb72, zz_na100, zz_nb100, zz_na126, zz_nb126, zz_na144, zz_nb144, zz_na146, zz_nb146, zz_na151, zz_nb151, zz_na162, zz_nb162, zz_na171, zz_nb171, zz_na176, zz_nb176, zz_nm2, zz_nn2, zz_nm3, zz_nn3, zz_nm4, zz_nn4, zz_nm5, zz_nn5, zz_nm6, zz_nn6, zz_nm100, zz_nn100, zz_ary_1, zz_ary_2, zz_ary_3, zz_ary_4, zz_ary_6, zz_ary_7, zz_ary_8, zz_ary_10, zz_ary_11, zz_ary_12, zz_ary_13, zz_ary_14, zz_ary_15, zz_ary_17, zz_ary_18, zz_ary_19, zz_ary_20, zz_ary_21, zz_ary_22, zz_ary_24, zz_ary_25, zz_ary_26, zz_ary_27, zz_ary_28, zz_ary_29, zz_ary_30, zz_ary_31, zz_ary_32, zz_ary_33, zz_ary_34, zz_ary_35, zz_ary_36, zz_ary_37, zz_ary_38, zz_ary_39, zz_ary_40, zz_ary_41, zz_ary_42, zz_ary_43, zz_yle, zz_nle, zz_ylt, zz_nlt, zz_yeq, zz_neq, ↓reduceIte, not_true_eq_false, not_false_eq_true, zz_leN, zz_ltN, zz_eqN]
  refine h2.trans ?_
  rw [s113_45]
  simp (disch := first | omega | decide | assumption | (refine hcN_lt ?_; omega) | (refine ecN_lt ?_; omega) | (refine hcN_lt2 ?_; omega) | (refine ecN_lt2 ?_; omega)) only [s113_0, s113_1, s113_2, s113_3, s113_5, s113_7, s113_10, s113_11, s113_14, s113_15, s113_16, s113_17, s113_18, s113_19, s113_20, s113_21, s113_24, s113_25, s113_28, s113_29, s113_30, s113_31, s113_34, s113_37, s113_40, s113_41, s113_42, s113_43, s113_47, s113_49, s113_52, s113_53, s113_55, s113_56, s113_59, s113_62, s113_63, s113_65, s113_66, s113_67, s113_70, s113_73, s113_74, s113_76, s113_78, s113_79, s113_82, s113_84, s113_87, s113_88, s113_89, s113_92, s113_95, s113_96, zz_ck_t, zz_sl_n, zz_sl_i, zz_sl_r, zz_ret_l, zz_ret_r, zz_ret_if, zz_sw_cons, zz_sw_nil, ↓zz_ck_b, ↓zz_ck_0, ↓zz_ck_1, Option.toList, List.cons_append, List.nil_append, List.append_nil, Bool.and_true, Bool.true_and, Bool.and_false, Bool.false_and, Bool.and_self, ite_not, zz_ofN, zz_lc0, zz_cl0, zz_tc0, zz_ct0, zz_ec0, zz_lc1, zz_cl1, zz_tc1, zz_ct1, zz_ec1, zz_lc2, zz_cl2, zz_tc2, zz_ct2, zz_ec2, zz_lc3, zz_cl3, zz_tc3, zz_ct3, zz_ec3, zz_lc4, zz_cl4, zz_tc4, zz_ct4, zz_ec4, zz_lc5, zz_cl5, zz_tc5, zz_ct5, zz_ec5, zz_lc6, zz_cl6, zz_tc6, zz_ct6, zz_ec6, zz_lc7, zz_cl7, zz_tc7, zz_ct7, zz_ec7, zz_lc8, zz_cl8, zz_tc8, zz_ct8, zz_ec8, zz_lc9, zz_cl9, zz_tc9, zz_ct9, zz_ec9, zz_lc15, zz_cl15, zz_tc15, zz_ct15, zz_ec15, zz_lc16, zz_cl16, zz_tc16, zz_ct16, zz_ec16, zz_lc18, zz_cl18, zz_tc18, zz_ct18, zz_ec18, zz_lc19, zz_cl19, zz_tc19, zz_ct19, zz_ec19, zz_lc20, zz_cl20, zz_tc20, zz_ct20, zz_ec20, zz_lc36, zz_cl36, zz_tc36, zz_ct36, zz_ec36, zz_lc54, zz_cl54, zz_tc54, zz_ct54, zz_ec54, zz_lc72, zz_cl72, zz_tc72, zz_ct72, zz_ec72, zz_lc100, zz_cl100, zz_tc100, zz_ct100, zz_ec100, zz_lc126, zz_cl126, zz_tc126, zz_ct126, zz_ec126, zz_lc144, zz_cl144, zz_tc144, zz_ct144, zz_ec144, zz_lc146, zz_cl146, zz_tc146, zz_ct146, zz_ec146, zz_lc151, zz_cl151, zz_tc151, zz_ct151, zz_ec151, zz_lc162, zz_cl162, zz_tc162, zz_ct162, zz_ec162, zz_lc171, zz_cl171, zz_tc171, zz_ct171, zz_ec171, zz_lc176, zz_cl176, zz_tc176, zz_ct176, zz_ec176, zz_nI_add, zz_nI_mul, zz_nI_ix, zz_nI_in, zz_na1, zz_nb1, zz_na2, zz_nb2, zz_na3, zz_nb3, zz_na4, zz_nb4, zz_na5, zz_nb5, zz_na6, zz_nb6, zz_na7, zz_nb7, zz_na8, zz_nb8, zz_na9, zz_nb9, zz_na15, zz_nb15, zz_na16, zz_nb16, zz_na18, zz_nb18, zz_na19, zz_nb19, zz_na20, zz_nb20, zz_na36, zz_nb36, zz_na54, zz_nb54, zz_na72, zz_nb72, zz_na100, zz_nb100, zz_na126, zz_nb126, zz_na144, zz_nb144, zz_na146, zz_nb146, zz_na151, zz_nb151, zz_na162, zz_nb162, zz_na171, zz_nb171, zz_na176, zz_nb176, zz_nm2, zz_nn2, zz_nm3, zz_nn3, zz_nm4, zz_nn4, zz_nm5, zz_nn5, zz_nm6, zz_nn6, zz_nm100, zz_nn100, zz_ary_1, zz_ary_2, zz_ary_3, zz_ary_4, zz_ary_6, zz_ary_7, zz_ary_8, zz_ary_10, zz_ary_11, zz_ary_12, zz_ary_13, zz_ary_14, zz_ary_15, zz_ary_17, zz_ary_18, zz_ary_19, zz_ary_20, zz_ary_21, zz_ary_22, zz_ary_24, zz_ary_25, zz_ary_26, zz_ary_27, zz_ary_28, zz_ary_29, zz_ary_30, zz_ary_31, zz_ary_32, zz_ary_33, zz_ary_34, zz_ary_35, zz_ary_36, zz_ary_37, zz_ary_38, zz_ary_39, zz_ary_40, zz_ary_41, zz_ary_42, zz_ary_43, zz_yle, zz_nle, zz_ylt, zz_nlt, zz_yeq, zz_neq, ↓reduceIte, not_true_eq_false, not_false_eq_true, zz_leN, zz_ltN, zz_eqN]
  rfl
end CH4
