theorem zz_I0_5 (xs : Nat → Int32) (b j : Nat) (hb : 5 ≤ b) : zz_I0 xs b j = 0 := by
  match b, hb with
  | b + 5, _ => rfl
theorem dk_0 : ∀ k, k < 16 → nI (dkN 0 k) = 0 := by decide +kernel
theorem sz_ex : ∀ (ex : List (Nat × Nat)), (∀ x ∈ ex, x.1 = 4) → (ex.map zz_sz).sum = 6 * ex.length
  | [], _ => rfl
  | x :: r, h => by
    have h1 : zz_sz x = 6 := by
      unfold zz_sz
      rw [h x (List.mem_cons_self ..)]
      rfl
    rw [List.map_cons, List.sum_cons, h1, sz_ex r (fun y hy => h y (List.mem_cons_of_mem _ hy)), List.length_cons]
    omega
section Z1
variable {n : Nat} {X : Nat → Nat → Int32}
theorem Rel_start (t1 : Tb X) (t2 : Tm X) (h6 : ∀ q, q < 19 → X 6 q = 5) (h7 : ∀ q, X 7 q = 0) (h8 : ∀ q, q < 54 → X 8 q = -1) (h5 : ∀ f, X 5 f = 0) (h23 : ∀ f, X 23 f = 0) (h9 : St0 X 9) (h31 : ∀ q, q < 19 → X 31 q = 5) (hL : L0 (X 24)) (hz : ∀ b j, b = 25 ∨ b = 32 ∨ b = 33 ∨ b = 34 ∨ b = 35 → X b j = 0) : Rel X 0 := by
  obtain ⟨g1, g2, g3, g4, g5⟩ := h9
  have hL' := hL
  obtain ⟨l1, l180, l181, l182, l183, l184, l185, l186, l187, l188, l189, l190, l191, l192⟩ := hL
  refine ⟨t1, t2, ⟨fun _ => 5, fun _ => 0, fun q hq => ⟨h6 q hq, Nat.le_refl 5, h31 q hq, by rw [h7, hz 32 q (by omega)], h7 q, Or.inl ⟨rfl, rfl⟩⟩⟩, ⟨0, fun _ => 0, fun _ => 0, h5 3, h23 11, by omega, fun k hk => by omega, fun k c hk => by omega, fun c hc _ => h8 c hc⟩, fun k hk => by rw [dk_0 k hk]; exact hz 35 k (by omega), Or.inl (h5 9), by rw [h23, h5], by rw [h23, h5], 0, h5 5, h23 15, by omega, ?_, Or.inl ⟨⟨rfl, g1 2 (by omega)⟩, h5 9, hL'⟩⟩
  refine ⟨fun e he => ?_, fun c hc => ?_, fun j hj => ?_, fun j hj => ?_, fun j hj => ?_, fun j hj => ?_, ?_, ?_, ?_, ?_, ?_, ?_, ?_, ?_, ?_, fun z => ?_, fun z => ?_, fun z => ?_, fun z => ?_⟩
  · rw [g2 e he, l1 e (by omega), if_neg (by omega)]
    rfl
  · rw [g3 c hc, l1 _ (by omega), if_neg (by omega)]
    rfl
  · rw [g4 j, l1 _ (by omega)]
    by_cases z : 20 ≤ j
    · rw [if_pos (by omega), if_pos (by omega)]
      rfl
    · rw [if_neg (by omega), if_neg (by omega)]
      rfl
  · rw [g5 _ _ (by omega) (by omega), l1 _ (by omega), if_neg (by omega)]
    rfl
  · rw [g5 _ _ (by omega) (by omega), l1 _ (by omega), if_neg (by omega)]
    rfl
  · rw [g5 _ _ (by omega) (by omega), l1 _ (by omega), if_neg (by omega)]
    rfl
  · rw [g1 0 (by omega), l180]
    rfl
  · rw [g1 1 (by omega), l181]
    rfl
  · rw [g1 4 (by omega), l182]
    rfl
  · rw [g1 5 (by omega), l183]
    rfl
  · rw [g1 7 (by omega), l186]
    rfl
  · rw [g1 8 (by omega), l187]
    rfl
  · rw [g1 9 (by omega), l188]
    rfl
  · rw [g1 10 (by omega), l189]
    rfl
  · rw [g1 11 (by omega), l184]
    rfl
  · rw [l180] at z
    exact absurd z (by decide)
  · rw [l180] at z
    exact absurd z (by decide)
  · rw [l180] at z
    exact absurd z (by decide)
  · rw [l180] at z
    exact absurd z (by decide)
theorem law_start (xs : Nat → Int32) : ∃ X, zz_Run zz_prog 21 179 (0, [some (.ref 0), none, none, none, none, none, none], [], true, zz_h0 n xs) = zz_Run zz_prog 21 179 (23, [some (.ref 0), some (.ref 5), some (.ref 23), some (.ref 44), some (.int 0), none, none], [], false, zz_hp n X (fun _ _ => 0) []) ∧ Rel X 0 := by
  have hJ : ∀ q, zz_all (fun _ _ => (0 : Int64)) q 0 = fun _ _ => 0 := fun q => zz_all_id (fun _ => rfl)
  have hA : zz_all (zz_I0 xs) 5 0 = zz_I0 xs := zz_all_id (fun j => zz_I0_5 xs 5 j (by omega))
  have hAP : ∀ q, zz_all (fun _ _ => Value.null) q .null = fun _ _ => Value.null := fun q => zz_all_id (fun _ => rfl)
  obtain ⟨X1, f1, h1, p6, p7, p8, p5, p9, p16, q1⟩ := c0 (d := 16) (n := n) (I := zz_I0 xs) (J := fun _ _ => 0) (P := fun _ _ => .null) (zz_I0_5 xs) (fun _ _ => rfl) (fun _ _ => rfl)
  have a23 : zz_all X1 23 0 = X1 := zz_all_id (fun j => by rw [q1 _ _ (by omega), zz_I0_5 _ _ _ (by omega)])
  obtain ⟨X2, h2, t2, r31, rL, rB, rZ⟩ := c88m (d := 18) (n := n) (I := X1) (J := fun _ _ => 0) (P := mkQ (fun _ _ => .null)) (fun b j hb => by rw [q1 _ _ (by omega), zz_I0_5 _ _ _ (by omega)]) mkP_at
  have h1' : zz_Call zz_prog 21 0 [.ref 5] (zz_hm n 6 (zz_I0 xs) (fun _ _ => 0) (fun _ _ => .null)) = some (.inl none, f1, zz_hm n 23 X1 (fun _ _ => 0) (mkQ (fun _ _ => .null))) := h1
  have h2' : zz_Call zz_prog 21 88 [.ref 23] (zz_hm n 24 X1 (fun _ _ => 0) (mkQ (fun _ _ => .null))) = some (.inl none, false, zz_hm n 44 X2 (fun _ _ => 0) zz_P0) := h2
  have aQ : zz_all (mkQ (fun _ _ => .null)) 23 .null = mkQ (fun _ _ => .null) := by
    unfold mkQ
    simp (disch := first | omega | decide) only [zz_all_up, hAP]
  have s0 : zz_Run zz_prog 21 179 (0, [some (.ref 0), none, none, none, none, none, none], [], true, zz_h0 n xs) = zz_Run zz_prog 21 179 (0, [some (.ref 0), none, none, none, none, none, none], [], true, zz_hm n 5 (zz_I0 xs) (fun _ _ => 0) (fun _ _ => .null)) := rfl
  have s1 : zz_Run zz_prog 21 179 (0, [some (.ref 0), none, none, none, none, none, none], [], true, zz_hm n 5 (zz_I0 xs) (fun _ _ => 0) (fun _ _ => .null)) = zz_Run zz_prog 21 179 (23, [some (.ref 0), some (.ref 5), some (.ref 23), some (.ref 44), some (.int 0), none, none], [], false, zz_hm n 45 X2 (fun _ _ => 0) zz_P0) := by
    simp (disch := first | omega | decide) only [g179_0, s179_3, g179_4, s179_7, g179_8, s179_11, g179_12, s179_15, s179_16, g179_17, s179_19, s179_20, s179_21, zz_ck_t, zz_sl_n, zz_sl_i, zz_sl_r, zz_ret_l, zz_ret_r, zz_ret_if, zz_sw_cons, zz_sw_nil, ↓zz_ck_b, ↓zz_ck_0, ↓zz_ck_1, Option.toList, List.cons_append, List.nil_append, List.append_nil, Bool.and_true, Bool.true_and, Bool.and_false, Bool.false_and, Bool.and_self, ite_not, hJ, hA, hAP, a23, aQ, h1', h2']
  refine ⟨X2, s0.trans (s1.trans rfl), Rel_start ?_ t2 (fun q hq => ?_) (fun q => ?_) (fun q hq => ?_) (fun f => ?_) (fun f => ?_) ?_ r31 rL rZ⟩
  · exact ⟨fun j => by rw [rB _ _ (by omega), q1 _ _ (by omega)]; rfl, fun j => by rw [rB _ _ (by omega), q1 _ _ (by omega)]; rfl, fun j => by rw [rB _ _ (by omega), q1 _ _ (by omega)]; rfl, fun j => by rw [rB _ _ (by omega), q1 _ _ (by omega)]; rfl⟩
  · rw [rB _ _ (by omega), p6 q hq]
  · rw [rB _ _ (by omega), p7 q]
  · rw [rB _ _ (by omega), p8 q hq]
  · rw [rB _ _ (by omega), p5 f]
  · rw [rB _ _ (by omega), q1 _ _ (by omega), zz_I0_5 _ _ _ (by omega)]
  · obtain ⟨g1, g2, g3, g4, g5⟩ := p9
    exact ⟨fun f hf => by rw [rB _ _ (by omega)]; exact g1 f hf, fun e he => by rw [rB _ _ (by omega)]; exact g2 e he, fun c hc => by rw [rB _ _ (by omega)]; exact g3 c hc, fun j => by rw [rB _ _ (by omega)]; exact g4 j, fun b j hb hb2 => by rw [rB _ _ (by omega)]; exact g5 b j hb hb2⟩
end Z1
theorem zz_goal_holds : zz_goal := fun L xs hL => by
  obtain ⟨X, h1, hR⟩ := law_start (n := L) xs
  obtain ⟨I', J', ex, f, h2, h3, h4⟩ := law_loop (d := 0) (n := L) (I := X) (J := fun _ _ => 0) (f := false) (l5 := none) (l6 := none) hR hL
  refine ⟨21, _, by omega, h1.trans h2, rfl, ?_, ?_⟩
  · show (zz_S0 L ++ ex).length ≤ 601000
    rw [List.length_append, show (zz_S0 L).length = 45 from rfl]
    omega
  · show ((zz_S0 L ++ ex).map zz_sz).sum ≤ 7293000
    rw [List.map_append, List.sum_append, sz_ex ex h4]
    have : ((zz_S0 L).map zz_sz).sum = ((zz_S0 0).map zz_sz).sum := rfl
    rw [this]
    have h5 : ((zz_S0 0).map zz_sz).sum ≤ 10000 := by decide +kernel
    omega
