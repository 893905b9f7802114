noncomputable def zz_L114 (d n : Nat) (J : Nat → Nat → Int64) (ex : List (Nat × Nat)) (l1 : Option Value) (p r : Nat) (b : Nat) (dp u : Int32) (l7 l8 l9 l10 l11 : Option Value) (X : Nat → Nat → Int32) : Option zz_R := zz_Run zz_prog (d + 2) 114 (23, [some (.ref 23), l1, some (.int (nI p)), some (.int (nI r)), some (.int (nI b)), some (.int dp), some (.int u), l7, l8, l9, l10, l11], [], false, zz_hp n X J ex)
def zz_P114 (d n : Nat) (J : Nat → Nat → Int64) (ex : List (Nat × Nat)) (l1 : Option Value) (I : Nat → Nat → Int32) (p r : Nat) (own : Nat → Nat) (m : Nat) : Prop := ∀ (i D j : Nat), D + m = 15 → j + i = r → ∀ (X : Nat → Nat → Int32), S3 I X → ∀ c, c < 54 → X 40 D = nI c → X 41 D = nI j → ∀ (u : Int32) (U : Nat → Bool), (∀ k, k < 15 → bit u k = U k) → cN U r = D → ∀ b, D ≤ b → b ≤ 15 → ∀ tk, (D = 0 ∨ (X 42 D = nI tk ∧ tk < 15)) → ∀ l7 l8 l9 l10 l11, ∃ X' u' m7 m8 m9 m10 m11, zz_L114 d n J ex l1 p r b (nI D) u l7 l8 l9 l10 l11 X = zz_L114 d n J ex l1 p r (max b (D + wmP (Fm I p) own r m (decide (D = 0)) c U j)) (nI D + -1) u' m7 m8 m9 m10 m11 X' ∧ S3 I X' ∧ (∀ a x, x < D → X' a x = X a x) ∧ (∀ k, k < 15 → bit u' k = (U k && (decide (D = 0) || !decide (k = tk))))
section CH3
variable {d n t pc s : Nat} {I : Nat → Nat → Int32} {J : Nat → Nat → Int64} {ex : List (Nat × Nat)} {h : zz_H}
theorem c114l (hT : Tm I) {p r : Nat} (hp : p < 4) (hr : r ≤ 15) {own : Nat → Nat} (ho : ∀ k, k < r → I 39 k = nI (own k)) (h1 : ∀ k, k < r → own k < 72) (l1 : Option Value) (m : Nat) (ihm : ∀ m', m = m' + 1 → zz_P114 d n J ex l1 I p r own m') : zz_P114 d n J ex l1 I p r own m := by
  intro i
  induction i with
  | zero =>
    intro D j hDm hji X hX c hc h40 h41 u U hu hcn b hb hb2 tk htk l7 l8 l9 l10 l11
    have hjr : j = r := by omega
    subst hjr
    refine ⟨X, if D = 0 then u else u &&& ((1 <<< (nI tk &&& 31)) ^^^ (-1)), l7, l8, l9, l10, l11, ?_, hX, fun _ _ _ => rfl, ?_⟩
    · rw [wmP_r, show max b (D + 0) = b by omega]
      exact c114p hr (by omega) h41 htk l1 l7 l8 l9 l10 l11
    · intro k hk
      by_cases hD0 : D = 0
      · rw [if_pos hD0, hu k hk]
        simp [hD0]
      · obtain ⟨g1, g2⟩ := htk.resolve_left hD0
        rw [if_neg hD0, bit_clr g2 hk, hu k hk]
        simp [hD0]
  | succ i ihi =>
    intro D j hDm hji X hX c hc h40 h41 u U hu hcn b hb hb2 tk htk l7 l8 l9 l10 l11
    have hT2 := hX.sm.tm hT
    have ho2 : X 39 j = nI (own j) := (hX 39 (by decide) (by decide) (by decide) j).trans (ho j (by omega))
    cases hcond : (!(!decide (D = 0) && Fm I p c) && (!U j && inc (own j) c)) with
    | false =>
      obtain ⟨m7, m8, m9, m10, m11, hs⟩ := c114s (d := d) (n := n) (J := J) (ex := ex) hT2 hp hr (by omega) (by omega) hc ho2 (h1 j (by omega)) h40 h41 hu (b := b) l1 l7 l8 l9 l10 l11 (by rw [hX.fm]; exact hcond)
      obtain ⟨X', u', k7, k8, k9, k10, k11, hq, hq2, hq3, hq4⟩ := ihi D (j + 1) hDm (by omega) (zz_up X 41 D (nI (j + 1))) (hX.up (by omega)) c hc (by rw [up_ne (by decide), h40]) up_eq u U hu hcn b hb hb2 tk (by rw [up_ne (by decide)]; exact htk) m7 m8 m9 m10 m11
      refine ⟨X', u', k7, k8, k9, k10, k11, ?_, hq2, ?_, hq4⟩
      · rw [wmP_no (by omega) hcond]
        exact hs.trans hq
      · intro a x hx
        rw [hq3 a x hx, up_nf (by omega)]
    | true =>
      simp only [Bool.and_eq_true, Bool.not_eq_true'] at hcond
      obtain ⟨hF, hU, hi⟩ := hcond
      have hlt := cN_lt r j (by omega) hU
      obtain ⟨m', hm'⟩ : ∃ m', m = m' + 1 := ⟨m - 1, by omega⟩
      subst hm'
      have hch := ihm m' rfl
      obtain ⟨m7, m8, m9, m10, m11, hs⟩ := c114y (d := d) (n := n) (J := J) (ex := ex) hT2 hp hr (by omega) (by omega) hc ho2 (h1 j (by omega)) h40 h41 hu (b := b) hb2 l1 l7 l8 l9 l10 l11 (by rw [hX.fm]; exact hF) hU hi
      have hw := wm_le (F := Fm I p) (own := own) (r := r) m' false (oE (own j) c) (fun x => U x || decide (x = j))
      obtain ⟨X2, u2, k7, k8, k9, k10, k11, hq, hq2, hq3, hq4⟩ := hch r (D + 1) 0 (by omega) (by omega) _ ((((hX.up (a := 41) (j := D) (v := nI (j + 1)) (by omega)).up (a := 40) (j := D + 1) (v := nI (oE (own j) c)) (by omega)).up (a := 41) (j := D + 1) (v := 0) (by omega)).up (a := 42) (j := D + 1) (v := nI j) (by omega)) (oE (own j) c) (oE_lt (h1 j (by omega))) (by rw [up_ne (by decide), up_ne (by decide), up_eq]) (by rw [up_ne (by decide), up_eq]; rfl) (u ||| (1 <<< (nI j &&& 31))) (fun x => U x || decide (x = j)) (fun k hk => by rw [bit_or (by omega) hk, hu k hk]) (by
        rw [← hcn]
        exact cN_up r j (by omega) hU (by simp) (fun x hx => by simp [hx])) (max b (D + 1)) (by omega) (by omega) j (Or.inr ⟨up_eq, by omega⟩) m7 m8 m9 m10 m11
      have hq3' : ∀ a x, x < D + 1 → X2 a x = zz_up X 41 D (nI (j + 1)) a x := fun a x hx => by
        rw [hq3 a x hx, up_nf (by omega), up_nf (by omega), up_nf (by omega)]
      have hu2 : ∀ k, k < 15 → bit u2 k = U k := fun k hk => by
        rw [hq4 k hk]
        by_cases z : k = j
        · subst z
          simp [hU]
        · simp [z]
      obtain ⟨X', u', n7, n8, n9, n10, n11, hz, hz2, hz3, hz4⟩ := ihi D (j + 1) hDm (by omega) X2 hq2 c hc (by rw [hq3' 40 D (by omega), up_ne (by decide), h40]) (by rw [hq3' 41 D (by omega), up_eq]) u2 U hu2 hcn (max (max b (D + 1)) (D + 1 + wm (Fm I p) own r m' false (oE (own j) c) (fun x => U x || decide (x = j)))) (by omega) (by omega) tk (by rw [hq3' 42 D (by omega), up_ne (by decide)]; exact htk) k7 k8 k9 k10 k11
      refine ⟨X', u', n7, n8, n9, n10, n11, ?_, hz2, ?_, hz4⟩
      · rw [wmP_0, show decide (D + 1 = 0) = false from decide_eq_false (by omega), nI_prd] at hq
        rw [wmP_yes (by omega) hF (by rw [hU, hi]; rfl)]
        refine (hs.trans hq).trans (hz.trans ?_)
        congr 1
        omega
      · intro a x hx
        rw [hz3 a x hx, hq3' a x (by omega), up_nf (by omega)]
theorem c114m (hT : Tm I) {p r : Nat} (hp : p < 4) (hr : r ≤ 15) {own : Nat → Nat} (ho : ∀ k, k < r → I 39 k = nI (own k)) (h1 : ∀ k, k < r → own k < 72) (l1 : Option Value) : ∀ m, zz_P114 d n J ex l1 I p r own m
  | 0 => c114l hT hp hr ho h1 l1 0 (fun m' hm => by omega)
  | m + 1 => c114l hT hp hr ho h1 l1 (m + 1) (fun m' hm => by
    have : m' = m := by omega
    subst this
    exact c114m hT hp hr ho h1 l1 m')
theorem bit_z {k : Nat} (h : k < 15) : bit 0 k = false := by
  unfold bit
  simp
theorem c114 (hT : Tm I) {p r : Nat} (hp : p < 4) (hr : r ≤ 15) {own : Nat → Nat} (ho : ∀ k, k < r → I 39 k = nI (own k)) (h1 : ∀ k, k < r → own k < 72) (c : Nat) (hc : c < 54) : ∃ X', zz_Call zz_prog (d + 3) 114 [.ref 23, .int (nI c), .int (nI p), .int (nI r)] (zz_hp n I J ex) = some (.inl (some (.int (nI (wm (Fm I p) own r 15 true c (fun _ => false))))), false, zz_hp n X' J ex) ∧ S3 I X' := by
  have hc0 : cN (fun _ => false) r = 0 := by
    have : ∀ q, cN (fun _ => false) q = 0 := fun q => by
      induction q with
      | zero => rfl
      | succ q ih => rw [cN_s, ih]; rfl
    exact this r
  obtain ⟨X', u', k7, k8, k9, k10, k11, hq, hq2, hq3, hq4⟩ := c114m (d := d) (n := n) (J := J) (ex := ex) hT hp hr ho h1 (some (.int (nI c))) 15 r 0 0 (by omega) (by omega) (zz_up (zz_up I 40 0 (nI c)) 41 0 0) ((S3.rfl'.up (by omega)).up (by omega)) c hc (by rw [up_ne (by decide), up_eq]) (by rw [up_eq]; rfl) 0 (fun _ => false) (fun k hk => bit_z hk) hc0 0 (by omega) (by omega) 0 (Or.inl rfl) none none none none none
  refine ⟨X', ?_, hq2⟩
  rw [wmP_0, Nat.zero_max, Nat.zero_add] at hq
  unfold zz_L114 at hq
  have e1 : ((nI 0 + -1 : Int32) < 0) = True := eq_true (by decide)
  have e2 : decide (0 = 0) = true := rfl
  rw [e2] at hq
  simp (disch := first | omega | decide | assumption | (refine hcN_lt ?_; omega) | (refine ecN_lt ?_; omega) | (refine hcN_lt2 ?_; omega) | (refine ecN_lt2 ?_; omega)) only [e114, s114_0, s114_1, s114_3, s114_4, s114_6, s114_7, s114_9, s114_10, s114_13, s114_14, s114_15, s114_16, s114_17, s114_20, s114_21, s114_22, s114_25, s114_28, s114_29, s114_32, s114_34, s114_35, s114_36, s114_39, s114_41, s114_44, s114_46, s114_47, s114_48, s114_51, s114_53, s114_54, s114_55, s114_56, s114_57, s114_58, s114_61, s114_63, s114_65, s114_68, s114_71, s114_72, s114_75, s114_77, s114_78, s114_80, s114_81, s114_84, s114_86, s114_87, s114_88, s114_89, s114_90, s114_91, s114_92, s114_95, s114_96, s114_99, s114_101, s114_102, s114_103, s114_105, s114_106, s114_109, s114_110, s114_113, s114_115, s114_116, s114_117, s114_119, s114_120, s114_123, s114_125, s114_126, s114_128, s114_130, s114_133, s114_134, s114_136, s114_137, s114_140, s114_143, s114_144, s114_147, s114_148, s114_150, s114_152, s114_155, s114_157, s114_159, s114_160, s114_161, s114_162, s114_165, s114_167, s114_169, s114_172, s114_174, s114_176, s114_179, s114_181, s114_182, s114_184, s114_185, s114_186, s114_188, s114_191, s114_192, s114_195, s114_197, s114_199, s114_201, s114_204, s114_206, s114_209, s114_211, s114_212, s114_213, s114_216, s114_218, s114_219, s114_220, s114_221, s114_224, s114_226, s114_228, s114_229, s114_231, s114_233, s114_236, s114_238, s114_241, s114_243, s114_245, s114_248, s114_250, zz_ck_t, zz_sl_n, zz_sl_i, zz_sl_r, zz_ret_l, zz_ret_r, zz_ret_if, zz_sw_cons, zz_sw_nil, ↓zz_ck_b, ↓zz_ck_0, ↓zz_ck_1, Option.toList, List.cons_append, List.nil_append, List.append_nil, Bool.and_true, Bool.true_and, Bool.and_false, Bool.false_and, Bool.and_self, ite_not, zz_ofN, zz_lc0, zz_cl0, zz_tc0, zz_ct0, zz_ec0, zz_lc1, zz_cl1, zz_tc1, zz_ct1, zz_ec1, zz_lc2, zz_cl2, zz_tc2, zz_ct2, zz_ec2, zz_lc3, zz_cl3, zz_tc3, zz_ct3, zz_ec3, zz_lc4, zz_cl4, zz_tc4, zz_ct4, zz_ec4, zz_lc5, zz_cl5, zz_tc5, zz_ct5, zz_ec5, zz_lc6, zz_cl6, zz_tc6, zz_ct6, zz_ec6, zz_lc7, zz_cl7, zz_tc7, zz_ct7, zz_ec7, zz_lc8, zz_cl8, zz_tc8, zz_ct8, zz_ec8, zz_lc9, zz_cl9, zz_tc9, zz_ct9, zz_ec9, zz_lc15, zz_cl15, zz_tc15, zz_ct15, zz_ec15, zz_lc16, zz_cl16, zz_tc16, zz_ct16, zz_ec16, zz_lc18, zz_cl18, zz_tc18, zz_ct18, zz_ec18, zz_lc19, zz_cl19, zz_tc19, zz_ct19, zz_ec19, zz_lc20, zz_cl20, zz_tc20, zz_ct20, zz_ec20, zz_lc36, zz_cl36, zz_tc36, zz_ct36, zz_ec36, zz_lc54, zz_cl54, zz_tc54, zz_ct54, zz_ec54, zz_lc72, zz_cl72, zz_tc72, zz_ct72, zz_ec72, zz_lc100, zz_cl100, zz_tc100, zz_ct100, zz_ec100, zz_lc126, zz_cl126, zz_tc126, zz_ct126, zz_ec126, zz_lc144, zz_cl144, zz_tc144, zz_ct144, zz_ec144, zz_lc146, zz_cl146, zz_tc146, zz_ct146, zz_ec146, zz_lc151, zz_cl151, zz_tc151, zz_ct151, zz_ec151, zz_lc162, zz_cl162, zz_tc162, zz_ct162, zz_ec162, zz_lc171, zz_cl171, zz_tc171, zz_ct171, zz_ec171, zz_lc176, zz_cl176, zz_tc176, zz_ct176, zz_ec176, zz_nI_add, zz_nI_mul, zz_nI_ix, zz_nI_in, zz_na1, zz_nb1, zz_na2, zz_nb2, zz_na3, zz_nb3, zz_na4, zz_nb4, zz_na5, zz_nb5, zz_na6, zz_nb6, zz_na7, zz_nb7, zz_na8, zz_nb8, zz_na9, zz_nb9, zz_na15, zz_nb15, zz_na16, zz_nb16, zz_na18, zz_nb18, zz_na19, zz_nb19, zz_na20, zz_nb20, zz_na36, zz_nb36, zz_na54, zz_nb54, zz_na72, zz_nb72, zz_na100, zz_nb100, zz_na126, zz_nb126, zz_na144, zz_nb144, zz_na146, zz_nb146, zz_na151, zz_nb151, zz_na162, zz_nb162, zz_na171, zz_nb171, zz_na176, zz_nb176, zz_nm2, zz_nn2, zz_nm3, zz_nn3, zz_nm4, zz_nn4, zz_nm5, zz_nn5, zz_nm6, zz_nn6, zz_nm100, zz_nn100, zz_ary_1, zz_ary_2, zz_ary_3, zz_ary_4, zz_ary_6, zz_ary_7, zz_ary_8, zz_ary_10, zz_ary_11, zz_ary_12, zz_ary_13, zz_ary_14, zz_ary_15, zz_ary_17, zz_ary_18, zz_ary_19, zz_ary_20, zz_ary_21, zz_ary_22, zz_ary_24, zz_ary_25, zz_ary_26, zz_ary_27, zz_ary_28, zz_ary_29, zz_ary_30, zz_ary_31, zz_ary_32, zz_ary_33, zz_ary_34, zz_ary_35, zz_ary_36, zz_ary_37, zz_ary_38, zz_ary_39, zz_ary_40, zz_ary_41, zz_ary_42, zz_ary_43, zz_yle, zz_nle, zz_ylt, zz_nlt, zz_yeq, zz_neq, ↓reduceIte, not_true_eq_false, not_false_eq_true, zz_leN, zz_ltN, zz_eqN]
  refine hq.trans ?_
  rw [s114_23]
  simp (disch := first | omega | decide | assumption | (refine hcN_lt ?_; omega) | (refine ecN_lt ?_; omega) | (refine hcN_lt2 ?_; omega) | (refine ecN_lt2 ?_; omega)) only [s114_0, s114_1, s114_3, s114_4, s114_6, s114_7, s114_9, s114_10, s114_13, s114_14, s114_15, s114_16, s114_17, s114_20, s114_21, s114_22, s114_25, s114_28, s114_29, s114_32, s114_34, s114_35, s114_36, s114_39, s114_41, s114_44, s114_46, s114_47, s114_48, s114_51, s114_53, s114_54, s114_55, s114_56, s114_57, s114_58, s114_61, s114_63, s114_65, s114_68, s114_71, s114_72, s114_75, s114_77, s114_78, s114_80, s114_81, s114_84, s114_86, s114_87, s114_88, s114_89, s114_90, s114_91, s114_92, s114_95, s114_96, s114_99, s114_101, s114_102, s114_103, s114_105, s114_106, s114_109, s114_110, s114_113, s114_115, s114_116, s114_117, s114_119, s114_120, s114_123, s114_125, s114_126, s114_128, s114_130, s114_133, s114_134, s114_136, s114_137, s114_140, s114_143, s114_144, s114_147, s114_148, s114_150, s114_152, s114_155, s114_157, s114_159, s114_160, s114_161, s114_162, s114_165, s114_167, s114_169, s114_172, s114_174, s114_176, s114_179, s114_181, s114_182, s114_184, s114_185, s114_186, s114_188, s114_191, s114_192, s114_195, s114_197, s114_199, s114_201, s114_204, s114_206, s114_209, s114_211, s114_212, s114_213, s114_216, s114_218, s114_219, s114_220, s114_221, s114_224, s114_226, s114_228, s114_229, s114_231, s114_233, s114_236, s114_238, s114_241, s114_243, s114_245, s114_248, s114_250, zz_ck_t, zz_sl_n, zz_sl_i, zz_sl_r, zz_ret_l, zz_ret_r, zz_ret_if, zz_sw_cons, zz_sw_nil, ↓zz_ck_b, ↓zz_ck_0, ↓zz_ck_1, Option.toList, List.cons_append, List.nil_append, List.append_nil, Bool.and_true, Bool.true_and, Bool.and_false, Bool.false_and, Bool.and_self, ite_not, e1, ↓reduceIte]
end CH3
