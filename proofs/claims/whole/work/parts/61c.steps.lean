section S70
variable {d n j : Nat} {l0 l1 l2 : Option Value} {st : List Value} {k : Bool} {h : zz_H} {v w v1 v2 : Int32} {y y1 : Int64} {a a1 a2 : Nat} {b0 b1 b2 b3 b4 b5 b6 b7 b8 : Value} {I : Nat → Nat → Int32} {J : Nat → Nat → Int64} {ex : List (Nat × Nat)}
theorem p70 : zz_prog 70 = some zz_m70 := rfl
theorem e70 (g0 : Nat) : zz_Call zz_prog (d + 1) 70 [.ref g0] h = zz_Run zz_prog d 70 (0, [some (.ref g0), none, none], [], true, h) := rfl
theorem t70 (pc : Nat) (L : List (Option Value)) : zz_th d 70 pc a L k h = some (.inr a, k, h) := zz_th_out p70 rfl
theorem f70_0 : zz_fetch zz_prog 70 0 = some (.iconst 0, 1, [], []) := zz_fetch_of p70 rfl rfl
theorem s70_0 : zz_Run zz_prog d 70 (0, [l0, l1, l2], st, k, h) = zz_Run zz_prog d 70 (1, [l0, l1, l2], .int 0 :: st, k, h) := zz_k_num f70_0 rfl
theorem f70_1 : zz_fetch zz_prog 70 1 = some (.istore_n 1, 1, [], []) := zz_fetch_of p70 rfl rfl
theorem s70_1 : zz_Run zz_prog d 70 (1, [l0, l1, l2], .int v :: st, k, h) = zz_sl l0 (zz_Run zz_prog d 70 (2, [l0, some (.int v), l2], st, k, h)) := zz_k_st (j := 1) (u := .int v) f70_1 rfl (fun q hq => by cases hq) rfl (show 1 < 3 by decide) (by cases l0 <;> rfl) rfl
theorem f70_2 : zz_fetch zz_prog 70 2 = some (.iload_n 1, 1, [], []) := zz_fetch_of p70 rfl rfl
theorem s70_2 : zz_Run zz_prog d 70 (2, [l0, some (.int v), l2], st, k, h) = zz_Run zz_prog d 70 (3, [l0, some (.int v), l2], .int v :: st, k, h) := zz_k_num f70_2 rfl
theorem f70_3 : zz_fetch zz_prog 70 3 = some (.aload_n 0, 1, [], []) := zz_fetch_of p70 rfl rfl
theorem s70_3 : zz_Run zz_prog d 70 (3, [some (.ref a), l1, l2], st, k, h) = zz_Run zz_prog d 70 (4, [some (.ref a), l1, l2], .ref a :: st, k, h) := zz_k_num f70_3 rfl
theorem f70_4 : zz_fetch zz_prog 70 4 = some (.getfield 73, 3, [1, 5, 0], []) := zz_fetch_of p70 rfl rfl
theorem s70_4 : zz_Run zz_prog d 70 (4, [l0, l1, l2], .ref 5 :: st, k, (zz_hp n I J ex)) = zz_Run zz_prog d 70 (7, [l0, l1, l2], .int (I 5 5) :: st, k, (zz_hp n I J ex)) := zz_k_go f70_4 rfl rfl rfl
theorem f70_7 : zz_fetch zz_prog 70 7 = some (.if_icmp .ge 37, 3, [44], []) := zz_fetch_of p70 rfl rfl
theorem s70_7 : zz_Run zz_prog d 70 (7, [l0, l1, l2], .int w :: .int v :: st, k, h) = if w ≤ v then zz_Run zz_prog d 70 (44, [l0, l1, l2], st, k, h) else zz_Run zz_prog d 70 (10, [l0, l1, l2], st, k, h) := zz_k_br (w ≤ v) rfl (zz_k_num f70_7 rfl)
theorem f70_10 : zz_fetch zz_prog 70 10 = some (.aload_n 0, 1, [], []) := zz_fetch_of p70 rfl rfl
theorem s70_10 : zz_Run zz_prog d 70 (10, [some (.ref a), l1, l2], st, k, h) = zz_Run zz_prog d 70 (11, [some (.ref a), l1, l2], .ref a :: st, k, h) := zz_k_num f70_10 rfl
theorem f70_11 : zz_fetch zz_prog 70 11 = some (.iload_n 1, 1, [], []) := zz_fetch_of p70 rfl rfl
theorem s70_11 : zz_Run zz_prog d 70 (11, [l0, some (.int v), l2], st, k, h) = zz_Run zz_prog d 70 (12, [l0, some (.int v), l2], .int v :: st, k, h) := zz_k_num f70_11 rfl
theorem f70_12 : zz_fetch zz_prog 70 12 = some (.invokevirtual 323, 3, [0, 43, 2, 1], []) := zz_fetch_of p70 rfl rfl
theorem s70_12 : zz_Run zz_prog d 70 (12, [l0, l1, l2], [b0, .ref 5], k, (zz_hp n I J ex)) = zz_ret (zz_Call zz_prog d 43 [.ref 5, b0] (zz_hp n I J ex)) (fun v k' h' => zz_Run zz_prog d 70 (15, [l0, l1, l2], v.toList ++ [], k && k', h')) (fun a k' h' => zz_th d 70 12 a [l0, l1, l2] (k && k') h') := zz_k_call f70_12 rfl rfl rfl
theorem f70_15 : zz_fetch zz_prog 70 15 = some (.istore_n 2, 1, [], []) := zz_fetch_of p70 rfl rfl
theorem s70_15 : zz_Run zz_prog d 70 (15, [l0, l1, l2], .int v :: st, k, h) = zz_sl l1 (zz_Run zz_prog d 70 (16, [l0, l1, some (.int v)], st, k, h)) := zz_k_st (j := 2) (u := .int v) f70_15 rfl (fun q hq => by cases hq) rfl (show 2 < 3 by decide) (by cases l1 <;> rfl) rfl
theorem f70_16 : zz_fetch zz_prog 70 16 = some (.aload_n 0, 1, [], []) := zz_fetch_of p70 rfl rfl
theorem s70_16 : zz_Run zz_prog d 70 (16, [some (.ref a), l1, l2], st, k, h) = zz_Run zz_prog d 70 (17, [some (.ref a), l1, l2], .ref a :: st, k, h) := zz_k_num f70_16 rfl
theorem f70_17 : zz_fetch zz_prog 70 17 = some (.getfield 28, 3, [1, 7, 3], []) := zz_fetch_of p70 rfl rfl
theorem s70_17 : zz_Run zz_prog d 70 (17, [l0, l1, l2], .ref 5 :: st, k, (zz_hp n I J ex)) = zz_Run zz_prog d 70 (20, [l0, l1, l2], .ref 9 :: st, k, (zz_hp n I J ex)) := zz_k_go f70_17 rfl rfl rfl
theorem f70_20 : zz_fetch zz_prog 70 20 = some (.getfield 132, 3, [0, 17, 3], []) := zz_fetch_of p70 rfl rfl
theorem s70_20 : zz_Run zz_prog d 70 (20, [l0, l1, l2], .ref 9 :: st, k, (zz_hp n I J ex)) = zz_Run zz_prog d 70 (23, [l0, l1, l2], .ref 15 :: st, k, (zz_hp n I J ex)) := zz_k_go f70_20 rfl rfl rfl
theorem s70_20b : zz_Run zz_prog d 70 (20, [l0, l1, l2], .ref 16 :: st, k, (zz_hp n I J ex)) = zz_Run zz_prog d 70 (23, [l0, l1, l2], .ref 22 :: st, k, (zz_hp n I J ex)) := zz_k_go f70_20 rfl rfl rfl
theorem f70_23 : zz_fetch zz_prog 70 23 = some (.iload_n 1, 1, [], []) := zz_fetch_of p70 rfl rfl
theorem s70_23 : zz_Run zz_prog d 70 (23, [l0, some (.int v), l2], st, k, h) = zz_Run zz_prog d 70 (24, [l0, some (.int v), l2], .int v :: st, k, h) := zz_k_num f70_23 rfl
theorem f70_24 : zz_fetch zz_prog 70 24 = some (.iload_n 2, 1, [], []) := zz_fetch_of p70 rfl rfl
theorem s70_24 : zz_Run zz_prog d 70 (24, [l0, l1, some (.int v)], st, k, h) = zz_Run zz_prog d 70 (25, [l0, l1, some (.int v)], .int v :: st, k, h) := zz_k_num f70_24 rfl
theorem f70_25 : zz_fetch zz_prog 70 25 = some (.bipush 7, 2, [], []) := zz_fetch_of p70 rfl rfl
theorem s70_25 : zz_Run zz_prog d 70 (25, [l0, l1, l2], st, k, h) = zz_Run zz_prog d 70 (27, [l0, l1, l2], .int 7 :: st, k, h) := zz_k_num f70_25 (congrArg (fun u => some (27, [l0, l1, l2], Value.int u :: st)) (by decide : (Int8.ofInt 7).toInt32 = 7))
theorem f70_27 : zz_fetch zz_prog 70 27 = some (.if_icmp .le 9, 3, [36], []) := zz_fetch_of p70 rfl rfl
theorem s70_27 : zz_Run zz_prog d 70 (27, [l0, l1, l2], .int w :: .int v :: st, k, h) = if v ≤ w then zz_Run zz_prog d 70 (36, [l0, l1, l2], st, k, h) else zz_Run zz_prog d 70 (30, [l0, l1, l2], st, k, h) := zz_k_br (v ≤ w) rfl (zz_k_num f70_27 rfl)
theorem f70_30 : zz_fetch zz_prog 70 30 = some (.iload_n 2, 1, [], []) := zz_fetch_of p70 rfl rfl
theorem s70_30 : zz_Run zz_prog d 70 (30, [l0, l1, some (.int v)], st, k, h) = zz_Run zz_prog d 70 (31, [l0, l1, some (.int v)], .int v :: st, k, h) := zz_k_num f70_30 rfl
theorem f70_31 : zz_fetch zz_prog 70 31 = some (.iconst 2, 1, [], []) := zz_fetch_of p70 rfl rfl
theorem s70_31 : zz_Run zz_prog d 70 (31, [l0, l1, l2], st, k, h) = zz_Run zz_prog d 70 (32, [l0, l1, l2], .int 2 :: st, k, h) := zz_k_num f70_31 rfl
theorem f70_32 : zz_fetch zz_prog 70 32 = some (.idiv, 1, [], []) := zz_fetch_of p70 rfl rfl
theorem s70_32 (hw : ¬ w = 0) : zz_Run zz_prog d 70 (32, [l0, l1, l2], .int w :: .int v :: st, k, h) = zz_Run zz_prog d 70 (33, [l0, l1, l2], .int (v / w) :: st, k, h) := zz_k_idiv f70_32 hw
theorem f70_33 : zz_fetch zz_prog 70 33 = some (.goto 4, 3, [37], []) := zz_fetch_of p70 rfl rfl
theorem s70_33 : zz_Run zz_prog d 70 (33, [l0, l1, l2], st, k, h) = zz_Run zz_prog d 70 (37, [l0, l1, l2], st, k, h) := zz_k_num f70_33 rfl
theorem f70_36 : zz_fetch zz_prog 70 36 = some (.iconst 0, 1, [], []) := zz_fetch_of p70 rfl rfl
theorem s70_36 : zz_Run zz_prog d 70 (36, [l0, l1, l2], st, k, h) = zz_Run zz_prog d 70 (37, [l0, l1, l2], .int 0 :: st, k, h) := zz_k_num f70_36 rfl
theorem f70_37 : zz_fetch zz_prog 70 37 = some (.iastore, 1, [], []) := zz_fetch_of p70 rfl rfl
theorem s70_37 (ha : zz_isar a = true) : zz_Run zz_prog d 70 (37, [l0, l1, l2], .int w :: .int v :: .ref a :: st, k, (zz_hp n I J ex)) = zz_ck (zz_in v (zz_ary n a)) (zz_Run zz_prog d 70 (38, [l0, l1, l2], st, false, (zz_hp n (zz_up I a v.toNatClampNeg w) J ex))) := zz_k_iast f70_37 ha
theorem f70_38 : zz_fetch zz_prog 70 38 = some (.iinc 1 1, 3, [], []) := zz_fetch_of p70 rfl rfl
theorem s70_38 : zz_Run zz_prog d 70 (38, [l0, some (.int v), l2], st, k, h) = zz_sl l0 (zz_Run zz_prog d 70 (41, [l0, some (.int (v + 1)), l2], st, k, h)) := zz_k_st (j := 1) (u := .int (v + 1)) f70_38 rfl (fun q hq => by cases hq) rfl (show 1 < 3 by decide) (by cases l0 <;> rfl) rfl
theorem f70_41 : zz_fetch zz_prog 70 41 = some (.goto (-39), 3, [2], []) := zz_fetch_of p70 rfl rfl
theorem s70_41 : zz_Run zz_prog d 70 (41, [l0, l1, l2], st, k, h) = zz_Run zz_prog d 70 (2, [l0, l1, l2], st, k, h) := zz_k_num f70_41 rfl
theorem f70_44 : zz_fetch zz_prog 70 44 = some (.aload_n 0, 1, [], []) := zz_fetch_of p70 rfl rfl
theorem s70_44 : zz_Run zz_prog d 70 (44, [some (.ref a), l1, l2], st, k, h) = zz_Run zz_prog d 70 (45, [some (.ref a), l1, l2], .ref a :: st, k, h) := zz_k_num f70_44 rfl
theorem f70_45 : zz_fetch zz_prog 70 45 = some (.invokevirtual 142, 3, [0, 71, 1, 1], []) := zz_fetch_of p70 rfl rfl
theorem s70_45 : zz_Run zz_prog d 70 (45, [l0, l1, l2], [.ref 5], k, (zz_hp n I J ex)) = zz_ret (zz_Call zz_prog d 71 [.ref 5] (zz_hp n I J ex)) (fun v k' h' => zz_Run zz_prog d 70 (48, [l0, l1, l2], v.toList ++ [], k && k', h')) (fun a k' h' => zz_th d 70 45 a [l0, l1, l2] (k && k') h') := zz_k_call f70_45 rfl rfl rfl
theorem f70_48 : zz_fetch zz_prog 70 48 = some (.ireturn, 1, [1], []) := zz_fetch_of p70 rfl rfl
theorem s70_48 : zz_Run zz_prog d 70 (48, [l0, l1, l2], [.int v], k, h) = zz_ck (decide (v = 0 ∨ v = 1)) (some (.inl (some (.int v)), k, h)) := zz_k_retz f70_48
end S70
section S71
variable {d n j : Nat} {l0 l1 : Option Value} {st : List Value} {k : Bool} {h : zz_H} {v w v1 v2 : Int32} {y y1 : Int64} {a a1 a2 : Nat} {b0 b1 b2 b3 b4 b5 b6 b7 b8 : Value} {I : Nat → Nat → Int32} {J : Nat → Nat → Int64} {ex : List (Nat × Nat)}
theorem p71 : zz_prog 71 = some zz_m71 := rfl
theorem e71 (g0 : Nat) : zz_Call zz_prog (d + 1) 71 [.ref g0] h = zz_Run zz_prog d 71 (0, [some (.ref g0), none], [], true, h) := rfl
theorem t71 (pc : Nat) (L : List (Option Value)) : zz_th d 71 pc a L k h = some (.inr a, k, h) := zz_th_out p71 rfl
theorem f71_0 : zz_fetch zz_prog 71 0 = some (.iconst 0, 1, [], []) := zz_fetch_of p71 rfl rfl
theorem s71_0 : zz_Run zz_prog d 71 (0, [l0, l1], st, k, h) = zz_Run zz_prog d 71 (1, [l0, l1], .int 0 :: st, k, h) := zz_k_num f71_0 rfl
theorem f71_1 : zz_fetch zz_prog 71 1 = some (.istore_n 1, 1, [], []) := zz_fetch_of p71 rfl rfl
theorem s71_1 : zz_Run zz_prog d 71 (1, [l0, l1], .int v :: st, k, h) = zz_sl l0 (zz_Run zz_prog d 71 (2, [l0, some (.int v)], st, k, h)) := zz_k_st (j := 1) (u := .int v) f71_1 rfl (fun q hq => by cases hq) rfl (show 1 < 2 by decide) (by cases l0 <;> rfl) rfl
theorem f71_2 : zz_fetch zz_prog 71 2 = some (.iload_n 1, 1, [], []) := zz_fetch_of p71 rfl rfl
theorem s71_2 : zz_Run zz_prog d 71 (2, [l0, some (.int v)], st, k, h) = zz_Run zz_prog d 71 (3, [l0, some (.int v)], .int v :: st, k, h) := zz_k_num f71_2 rfl
theorem f71_3 : zz_fetch zz_prog 71 3 = some (.aload_n 0, 1, [], []) := zz_fetch_of p71 rfl rfl
theorem s71_3 : zz_Run zz_prog d 71 (3, [some (.ref a), l1], st, k, h) = zz_Run zz_prog d 71 (4, [some (.ref a), l1], .ref a :: st, k, h) := zz_k_num f71_3 rfl
theorem f71_4 : zz_fetch zz_prog 71 4 = some (.getfield 73, 3, [1, 5, 0], []) := zz_fetch_of p71 rfl rfl
theorem s71_4 : zz_Run zz_prog d 71 (4, [l0, l1], .ref 5 :: st, k, (zz_hp n I J ex)) = zz_Run zz_prog d 71 (7, [l0, l1], .int (I 5 5) :: st, k, (zz_hp n I J ex)) := zz_k_go f71_4 rfl rfl rfl
theorem f71_7 : zz_fetch zz_prog 71 7 = some (.if_icmp .ge 23, 3, [30], []) := zz_fetch_of p71 rfl rfl
theorem s71_7 : zz_Run zz_prog d 71 (7, [l0, l1], .int w :: .int v :: st, k, h) = if w ≤ v then zz_Run zz_prog d 71 (30, [l0, l1], st, k, h) else zz_Run zz_prog d 71 (10, [l0, l1], st, k, h) := zz_k_br (w ≤ v) rfl (zz_k_num f71_7 rfl)
theorem f71_10 : zz_fetch zz_prog 71 10 = some (.aload_n 0, 1, [], []) := zz_fetch_of p71 rfl rfl
theorem s71_10 : zz_Run zz_prog d 71 (10, [some (.ref a), l1], st, k, h) = zz_Run zz_prog d 71 (11, [some (.ref a), l1], .ref a :: st, k, h) := zz_k_num f71_10 rfl
theorem f71_11 : zz_fetch zz_prog 71 11 = some (.getfield 28, 3, [1, 7, 3], []) := zz_fetch_of p71 rfl rfl
theorem s71_11 : zz_Run zz_prog d 71 (11, [l0, l1], .ref 5 :: st, k, (zz_hp n I J ex)) = zz_Run zz_prog d 71 (14, [l0, l1], .ref 9 :: st, k, (zz_hp n I J ex)) := zz_k_go f71_11 rfl rfl rfl
theorem f71_14 : zz_fetch zz_prog 71 14 = some (.getfield 132, 3, [0, 17, 3], []) := zz_fetch_of p71 rfl rfl
theorem s71_14 : zz_Run zz_prog d 71 (14, [l0, l1], .ref 9 :: st, k, (zz_hp n I J ex)) = zz_Run zz_prog d 71 (17, [l0, l1], .ref 15 :: st, k, (zz_hp n I J ex)) := zz_k_go f71_14 rfl rfl rfl
theorem s71_14b : zz_Run zz_prog d 71 (14, [l0, l1], .ref 16 :: st, k, (zz_hp n I J ex)) = zz_Run zz_prog d 71 (17, [l0, l1], .ref 22 :: st, k, (zz_hp n I J ex)) := zz_k_go f71_14 rfl rfl rfl
theorem f71_17 : zz_fetch zz_prog 71 17 = some (.iload_n 1, 1, [], []) := zz_fetch_of p71 rfl rfl
theorem s71_17 : zz_Run zz_prog d 71 (17, [l0, some (.int v)], st, k, h) = zz_Run zz_prog d 71 (18, [l0, some (.int v)], .int v :: st, k, h) := zz_k_num f71_17 rfl
theorem f71_18 : zz_fetch zz_prog 71 18 = some (.iaload, 1, [], []) := zz_fetch_of p71 rfl rfl
theorem s71_18 (ha : zz_isrd a = true) : zz_Run zz_prog d 71 (18, [l0, l1], .int v :: .ref a :: st, k, (zz_hp n I J ex)) = zz_ck (zz_in v (zz_ary n a)) (zz_Run zz_prog d 71 (19, [l0, l1], .int (I a v.toNatClampNeg) :: st, k, (zz_hp n I J ex))) := zz_k_iald f71_18 ha
theorem f71_19 : zz_fetch zz_prog 71 19 = some (.ifCond .le 5, 3, [24], []) := zz_fetch_of p71 rfl rfl
theorem s71_19 : zz_Run zz_prog d 71 (19, [l0, l1], .int v :: st, k, h) = if v ≤ 0 then zz_Run zz_prog d 71 (24, [l0, l1], st, k, h) else zz_Run zz_prog d 71 (22, [l0, l1], st, k, h) := zz_k_br (v ≤ 0) rfl (zz_k_num f71_19 rfl)
theorem f71_22 : zz_fetch zz_prog 71 22 = some (.iconst 1, 1, [], []) := zz_fetch_of p71 rfl rfl
theorem s71_22 : zz_Run zz_prog d 71 (22, [l0, l1], st, k, h) = zz_Run zz_prog d 71 (23, [l0, l1], .int 1 :: st, k, h) := zz_k_num f71_22 rfl
theorem f71_23 : zz_fetch zz_prog 71 23 = some (.ireturn, 1, [1], []) := zz_fetch_of p71 rfl rfl
theorem s71_23 : zz_Run zz_prog d 71 (23, [l0, l1], [.int v], k, h) = zz_ck (decide (v = 0 ∨ v = 1)) (some (.inl (some (.int v)), k, h)) := zz_k_retz f71_23
theorem f71_24 : zz_fetch zz_prog 71 24 = some (.iinc 1 1, 3, [], []) := zz_fetch_of p71 rfl rfl
theorem s71_24 : zz_Run zz_prog d 71 (24, [l0, some (.int v)], st, k, h) = zz_sl l0 (zz_Run zz_prog d 71 (27, [l0, some (.int (v + 1))], st, k, h)) := zz_k_st (j := 1) (u := .int (v + 1)) f71_24 rfl (fun q hq => by cases hq) rfl (show 1 < 2 by decide) (by cases l0 <;> rfl) rfl
theorem f71_27 : zz_fetch zz_prog 71 27 = some (.goto (-25), 3, [2], []) := zz_fetch_of p71 rfl rfl
theorem s71_27 : zz_Run zz_prog d 71 (27, [l0, l1], st, k, h) = zz_Run zz_prog d 71 (2, [l0, l1], st, k, h) := zz_k_num f71_27 rfl
theorem f71_30 : zz_fetch zz_prog 71 30 = some (.iconst 0, 1, [], []) := zz_fetch_of p71 rfl rfl
theorem s71_30 : zz_Run zz_prog d 71 (30, [l0, l1], st, k, h) = zz_Run zz_prog d 71 (31, [l0, l1], .int 0 :: st, k, h) := zz_k_num f71_30 rfl
theorem f71_31 : zz_fetch zz_prog 71 31 = some (.ireturn, 1, [1], []) := zz_fetch_of p71 rfl rfl
theorem s71_31 : zz_Run zz_prog d 71 (31, [l0, l1], [.int v], k, h) = zz_ck (decide (v = 0 ∨ v = 1)) (some (.inl (some (.int v)), k, h)) := zz_k_retz f71_31
end S71
section S72
variable {d n j : Nat} {l0 : Option Value} {st : List Value} {k : Bool} {h : zz_H} {v w v1 v2 : Int32} {y y1 : Int64} {a a1 a2 : Nat} {b0 b1 b2 b3 b4 b5 b6 b7 b8 : Value} {I : Nat → Nat → Int32} {J : Nat → Nat → Int64} {ex : List (Nat × Nat)}
theorem p72 : zz_prog 72 = some zz_m72 := rfl
theorem e72 (g0 : Int32) : zz_Call zz_prog (d + 1) 72 [.int g0] h = zz_Run zz_prog d 72 (0, [some (.int g0)], [], true, h) := rfl
theorem t72 (pc : Nat) (L : List (Option Value)) : zz_th d 72 pc a L k h = some (.inr a, k, h) := zz_th_out p72 rfl
theorem f72_0 : zz_fetch zz_prog 72 0 = some (.bipush 6, 2, [], []) := zz_fetch_of p72 rfl rfl
theorem s72_0 : zz_Run zz_prog d 72 (0, [l0], st, k, h) = zz_Run zz_prog d 72 (2, [l0], .int 6 :: st, k, h) := zz_k_num f72_0 (congrArg (fun u => some (2, [l0], Value.int u :: st)) (by decide : (Int8.ofInt 6).toInt32 = 6))
theorem f72_2 : zz_fetch zz_prog 72 2 = some (.bipush 7, 2, [], []) := zz_fetch_of p72 rfl rfl
theorem s72_2 : zz_Run zz_prog d 72 (2, [l0], st, k, h) = zz_Run zz_prog d 72 (4, [l0], .int 7 :: st, k, h) := zz_k_num f72_2 (congrArg (fun u => some (4, [l0], Value.int u :: st)) (by decide : (Int8.ofInt 7).toInt32 = 7))
theorem f72_4 : zz_fetch zz_prog 72 4 = some (.iload_n 0, 1, [], []) := zz_fetch_of p72 rfl rfl
theorem s72_4 : zz_Run zz_prog d 72 (4, [some (.int v)], st, k, h) = zz_Run zz_prog d 72 (5, [some (.int v)], .int v :: st, k, h) := zz_k_num f72_4 rfl
theorem f72_5 : zz_fetch zz_prog 72 5 = some (.isub, 1, [], []) := zz_fetch_of p72 rfl rfl
theorem s72_5 : zz_Run zz_prog d 72 (5, [l0], .int w :: .int v :: st, k, h) = zz_Run zz_prog d 72 (6, [l0], .int (v - w) :: st, k, h) := zz_k_num f72_5 rfl
theorem f72_6 : zz_fetch zz_prog 72 6 = some (.invokestatic 326, 3, [5], []) := zz_fetch_of p72 rfl rfl
theorem s72_6 : zz_Run zz_prog d 72 (6, [l0], [.int v, b1], k, h) = zz_Run zz_prog d 72 (9, [l0], [.int (if 0 ≤ v then v else 0 - v), b1], k, h) := zz_k_bi f72_6 rfl rfl rfl
theorem f72_9 : zz_fetch zz_prog 72 9 = some (.isub, 1, [], []) := zz_fetch_of p72 rfl rfl
theorem s72_9 : zz_Run zz_prog d 72 (9, [l0], .int w :: .int v :: st, k, h) = zz_Run zz_prog d 72 (10, [l0], .int (v - w) :: st, k, h) := zz_k_num f72_9 rfl
theorem f72_10 : zz_fetch zz_prog 72 10 = some (.ireturn, 1, [0], []) := zz_fetch_of p72 rfl rfl
theorem s72_10 : zz_Run zz_prog d 72 (10, [l0], [.int v], k, h) = some (.inl (some (.int v)), k, h) := zz_k_stop f72_10 rfl rfl rfl
end S72
section S73
variable {d n j : Nat} {l0 l1 l2 : Option Value} {st : List Value} {k : Bool} {h : zz_H} {v w v1 v2 : Int32} {y y1 : Int64} {a a1 a2 : Nat} {b0 b1 b2 b3 b4 b5 b6 b7 b8 : Value} {I : Nat → Nat → Int32} {J : Nat → Nat → Int64} {ex : List (Nat × Nat)}
theorem p73 : zz_prog 73 = some zz_m73 := rfl
theorem e73 (g0 : Nat) (g1 : Int32) (g2 : Int32) : zz_Call zz_prog (d + 1) 73 [.ref g0, .int g1, .int g2] h = zz_Run zz_prog d 73 (0, [some (.ref g0), some (.int g1), some (.int g2)], [], true, h) := rfl
theorem t73 (pc : Nat) (L : List (Option Value)) : zz_th d 73 pc a L k h = some (.inr a, k, h) := zz_th_out p73 rfl
theorem f73_0 : zz_fetch zz_prog 73 0 = some (.aload_n 0, 1, [], []) := zz_fetch_of p73 rfl rfl
theorem s73_0 : zz_Run zz_prog d 73 (0, [some (.ref a), l1, l2], st, k, h) = zz_Run zz_prog d 73 (1, [some (.ref a), l1, l2], .ref a :: st, k, h) := zz_k_num f73_0 rfl
theorem f73_1 : zz_fetch zz_prog 73 1 = some (.iload_n 1, 1, [], []) := zz_fetch_of p73 rfl rfl
theorem s73_1 : zz_Run zz_prog d 73 (1, [l0, some (.int v), l2], st, k, h) = zz_Run zz_prog d 73 (2, [l0, some (.int v), l2], .int v :: st, k, h) := zz_k_num f73_1 rfl
theorem f73_2 : zz_fetch zz_prog 73 2 = some (.invokevirtual 126, 3, [0, 29, 2, 1], []) := zz_fetch_of p73 rfl rfl
theorem s73_2 : zz_Run zz_prog d 73 (2, [l0, l1, l2], [b0, .ref 5], k, (zz_hp n I J ex)) = zz_ret (zz_Call zz_prog d 29 [.ref 5, b0] (zz_hp n I J ex)) (fun v k' h' => zz_Run zz_prog d 73 (5, [l0, l1, l2], v.toList ++ [], k && k', h')) (fun a k' h' => zz_th d 73 2 a [l0, l1, l2] (k && k') h') := zz_k_call f73_2 rfl rfl rfl
theorem f73_5 : zz_fetch zz_prog 73 5 = some (.ifCond .eq 35, 3, [40], []) := zz_fetch_of p73 rfl rfl
theorem s73_5 : zz_Run zz_prog d 73 (5, [l0, l1, l2], .int v :: st, k, h) = if v = 0 then zz_Run zz_prog d 73 (40, [l0, l1, l2], st, k, h) else zz_Run zz_prog d 73 (8, [l0, l1, l2], st, k, h) := zz_k_br (v = 0) rfl (zz_k_num f73_5 rfl)
theorem f73_8 : zz_fetch zz_prog 73 8 = some (.iload_n 1, 1, [], []) := zz_fetch_of p73 rfl rfl
theorem s73_8 : zz_Run zz_prog d 73 (8, [l0, some (.int v), l2], st, k, h) = zz_Run zz_prog d 73 (9, [l0, some (.int v), l2], .int v :: st, k, h) := zz_k_num f73_8 rfl
theorem f73_9 : zz_fetch zz_prog 73 9 = some (.aload_n 0, 1, [], []) := zz_fetch_of p73 rfl rfl
theorem s73_9 : zz_Run zz_prog d 73 (9, [some (.ref a), l1, l2], st, k, h) = zz_Run zz_prog d 73 (10, [some (.ref a), l1, l2], .ref a :: st, k, h) := zz_k_num f73_9 rfl
theorem f73_10 : zz_fetch zz_prog 73 10 = some (.getfield 28, 3, [1, 7, 3], []) := zz_fetch_of p73 rfl rfl
theorem s73_10 : zz_Run zz_prog d 73 (10, [l0, l1, l2], .ref 5 :: st, k, (zz_hp n I J ex)) = zz_Run zz_prog d 73 (13, [l0, l1, l2], .ref 9 :: st, k, (zz_hp n I J ex)) := zz_k_go f73_10 rfl rfl rfl
theorem f73_13 : zz_fetch zz_prog 73 13 = some (.getfield 86, 3, [0, 1, 0], []) := zz_fetch_of p73 rfl rfl
theorem s73_13 : zz_Run zz_prog d 73 (13, [l0, l1, l2], .ref 9 :: st, k, (zz_hp n I J ex)) = zz_Run zz_prog d 73 (16, [l0, l1, l2], .int (I 9 1) :: st, k, (zz_hp n I J ex)) := zz_k_go f73_13 rfl rfl rfl
theorem s73_13b : zz_Run zz_prog d 73 (13, [l0, l1, l2], .ref 16 :: st, k, (zz_hp n I J ex)) = zz_Run zz_prog d 73 (16, [l0, l1, l2], .int (I 16 1) :: st, k, (zz_hp n I J ex)) := zz_k_go f73_13 rfl rfl rfl
theorem f73_16 : zz_fetch zz_prog 73 16 = some (.if_icmp .eq 24, 3, [40], []) := zz_fetch_of p73 rfl rfl
theorem s73_16 : zz_Run zz_prog d 73 (16, [l0, l1, l2], .int w :: .int v :: st, k, h) = if v = w then zz_Run zz_prog d 73 (40, [l0, l1, l2], st, k, h) else zz_Run zz_prog d 73 (19, [l0, l1, l2], st, k, h) := zz_k_br (v = w) rfl (zz_k_num f73_16 rfl)
theorem f73_19 : zz_fetch zz_prog 73 19 = some (.aload_n 0, 1, [], []) := zz_fetch_of p73 rfl rfl
theorem s73_19 : zz_Run zz_prog d 73 (19, [some (.ref a), l1, l2], st, k, h) = zz_Run zz_prog d 73 (20, [some (.ref a), l1, l2], .ref a :: st, k, h) := zz_k_num f73_19 rfl
theorem f73_20 : zz_fetch zz_prog 73 20 = some (.iload_n 1, 1, [], []) := zz_fetch_of p73 rfl rfl
theorem s73_20 : zz_Run zz_prog d 73 (20, [l0, some (.int v), l2], st, k, h) = zz_Run zz_prog d 73 (21, [l0, some (.int v), l2], .int v :: st, k, h) := zz_k_num f73_20 rfl
theorem f73_21 : zz_fetch zz_prog 73 21 = some (.invokevirtual 323, 3, [0, 43, 2, 1], []) := zz_fetch_of p73 rfl rfl
theorem s73_21 : zz_Run zz_prog d 73 (21, [l0, l1, l2], [b0, .ref 5], k, (zz_hp n I J ex)) = zz_ret (zz_Call zz_prog d 43 [.ref 5, b0] (zz_hp n I J ex)) (fun v k' h' => zz_Run zz_prog d 73 (24, [l0, l1, l2], v.toList ++ [], k && k', h')) (fun a k' h' => zz_th d 73 21 a [l0, l1, l2] (k && k') h') := zz_k_call f73_21 rfl rfl rfl
theorem f73_24 : zz_fetch zz_prog 73 24 = some (.ifCond .le 16, 3, [40], []) := zz_fetch_of p73 rfl rfl
theorem s73_24 : zz_Run zz_prog d 73 (24, [l0, l1, l2], .int v :: st, k, h) = if v ≤ 0 then zz_Run zz_prog d 73 (40, [l0, l1, l2], st, k, h) else zz_Run zz_prog d 73 (27, [l0, l1, l2], st, k, h) := zz_k_br (v ≤ 0) rfl (zz_k_num f73_24 rfl)
theorem f73_27 : zz_fetch zz_prog 73 27 = some (.aload_n 0, 1, [], []) := zz_fetch_of p73 rfl rfl
theorem s73_27 : zz_Run zz_prog d 73 (27, [some (.ref a), l1, l2], st, k, h) = zz_Run zz_prog d 73 (28, [some (.ref a), l1, l2], .ref a :: st, k, h) := zz_k_num f73_27 rfl
theorem f73_28 : zz_fetch zz_prog 73 28 = some (.iload_n 1, 1, [], []) := zz_fetch_of p73 rfl rfl
theorem s73_28 : zz_Run zz_prog d 73 (28, [l0, some (.int v), l2], st, k, h) = zz_Run zz_prog d 73 (29, [l0, some (.int v), l2], .int v :: st, k, h) := zz_k_num f73_28 rfl
theorem f73_29 : zz_fetch zz_prog 73 29 = some (.iload_n 2, 1, [], []) := zz_fetch_of p73 rfl rfl
theorem s73_29 : zz_Run zz_prog d 73 (29, [l0, l1, some (.int v)], st, k, h) = zz_Run zz_prog d 73 (30, [l0, l1, some (.int v)], .int v :: st, k, h) := zz_k_num f73_29 rfl
theorem f73_30 : zz_fetch zz_prog 73 30 = some (.invokevirtual 315, 3, [0, 67, 3, 1], []) := zz_fetch_of p73 rfl rfl
theorem s73_30 : zz_Run zz_prog d 73 (30, [l0, l1, l2], [b0, b1, .ref 5], k, (zz_hp n I J ex)) = zz_ret (zz_Call zz_prog d 67 [.ref 5, b1, b0] (zz_hp n I J ex)) (fun v k' h' => zz_Run zz_prog d 73 (33, [l0, l1, l2], v.toList ++ [], k && k', h')) (fun a k' h' => zz_th d 73 30 a [l0, l1, l2] (k && k') h') := zz_k_call f73_30 rfl rfl rfl
theorem f73_33 : zz_fetch zz_prog 73 33 = some (.ifCond .le 7, 3, [40], []) := zz_fetch_of p73 rfl rfl
theorem s73_33 : zz_Run zz_prog d 73 (33, [l0, l1, l2], .int v :: st, k, h) = if v ≤ 0 then zz_Run zz_prog d 73 (40, [l0, l1, l2], st, k, h) else zz_Run zz_prog d 73 (36, [l0, l1, l2], st, k, h) := zz_k_br (v ≤ 0) rfl (zz_k_num f73_33 rfl)
theorem f73_36 : zz_fetch zz_prog 73 36 = some (.iconst 1, 1, [], []) := zz_fetch_of p73 rfl rfl
theorem s73_36 : zz_Run zz_prog d 73 (36, [l0, l1, l2], st, k, h) = zz_Run zz_prog d 73 (37, [l0, l1, l2], .int 1 :: st, k, h) := zz_k_num f73_36 rfl
theorem f73_37 : zz_fetch zz_prog 73 37 = some (.goto 4, 3, [41], []) := zz_fetch_of p73 rfl rfl
theorem s73_37 : zz_Run zz_prog d 73 (37, [l0, l1, l2], st, k, h) = zz_Run zz_prog d 73 (41, [l0, l1, l2], st, k, h) := zz_k_num f73_37 rfl
theorem f73_40 : zz_fetch zz_prog 73 40 = some (.iconst 0, 1, [], []) := zz_fetch_of p73 rfl rfl
theorem s73_40 : zz_Run zz_prog d 73 (40, [l0, l1, l2], st, k, h) = zz_Run zz_prog d 73 (41, [l0, l1, l2], .int 0 :: st, k, h) := zz_k_num f73_40 rfl
theorem f73_41 : zz_fetch zz_prog 73 41 = some (.ireturn, 1, [1], []) := zz_fetch_of p73 rfl rfl
theorem s73_41 : zz_Run zz_prog d 73 (41, [l0, l1, l2], [.int v], k, h) = zz_ck (decide (v = 0 ∨ v = 1)) (some (.inl (some (.int v)), k, h)) := zz_k_retz f73_41
end S73
section S74
variable {d n j : Nat} {l0 l1 l2 : Option Value} {st : List Value} {k : Bool} {h : zz_H} {v w v1 v2 : Int32} {y y1 : Int64} {a a1 a2 : Nat} {b0 b1 b2 b3 b4 b5 b6 b7 b8 : Value} {I : Nat → Nat → Int32} {J : Nat → Nat → Int64} {ex : List (Nat × Nat)}
theorem p74 : zz_prog 74 = some zz_m74 := rfl
theorem e74 (g0 : Nat) (g1 : Int32) : zz_Call zz_prog (d + 1) 74 [.ref g0, .int g1] h = zz_Run zz_prog d 74 (0, [some (.ref g0), some (.int g1), none], [], true, h) := rfl
theorem t74 (pc : Nat) (L : List (Option Value)) : zz_th d 74 pc a L k h = some (.inr a, k, h) := zz_th_out p74 rfl
theorem f74_0 : zz_fetch zz_prog 74 0 = some (.iconst 0, 1, [], []) := zz_fetch_of p74 rfl rfl
theorem s74_0 : zz_Run zz_prog d 74 (0, [l0, l1, l2], st, k, h) = zz_Run zz_prog d 74 (1, [l0, l1, l2], .int 0 :: st, k, h) := zz_k_num f74_0 rfl
theorem f74_1 : zz_fetch zz_prog 74 1 = some (.istore_n 2, 1, [], []) := zz_fetch_of p74 rfl rfl
theorem s74_1 : zz_Run zz_prog d 74 (1, [l0, l1, l2], .int v :: st, k, h) = zz_sl l1 (zz_Run zz_prog d 74 (2, [l0, l1, some (.int v)], st, k, h)) := zz_k_st (j := 2) (u := .int v) f74_1 rfl (fun q hq => by cases hq) rfl (show 2 < 3 by decide) (by cases l1 <;> rfl) rfl
theorem f74_2 : zz_fetch zz_prog 74 2 = some (.iload_n 2, 1, [], []) := zz_fetch_of p74 rfl rfl
theorem s74_2 : zz_Run zz_prog d 74 (2, [l0, l1, some (.int v)], st, k, h) = zz_Run zz_prog d 74 (3, [l0, l1, some (.int v)], .int v :: st, k, h) := zz_k_num f74_2 rfl
theorem f74_3 : zz_fetch zz_prog 74 3 = some (.aload_n 0, 1, [], []) := zz_fetch_of p74 rfl rfl
theorem s74_3 : zz_Run zz_prog d 74 (3, [some (.ref a), l1, l2], st, k, h) = zz_Run zz_prog d 74 (4, [some (.ref a), l1, l2], .ref a :: st, k, h) := zz_k_num f74_3 rfl
theorem f74_4 : zz_fetch zz_prog 74 4 = some (.getfield 73, 3, [1, 5, 0], []) := zz_fetch_of p74 rfl rfl
theorem s74_4 : zz_Run zz_prog d 74 (4, [l0, l1, l2], .ref 5 :: st, k, (zz_hp n I J ex)) = zz_Run zz_prog d 74 (7, [l0, l1, l2], .int (I 5 5) :: st, k, (zz_hp n I J ex)) := zz_k_go f74_4 rfl rfl rfl
theorem f74_7 : zz_fetch zz_prog 74 7 = some (.if_icmp .ge 20, 3, [27], []) := zz_fetch_of p74 rfl rfl
theorem s74_7 : zz_Run zz_prog d 74 (7, [l0, l1, l2], .int w :: .int v :: st, k, h) = if w ≤ v then zz_Run zz_prog d 74 (27, [l0, l1, l2], st, k, h) else zz_Run zz_prog d 74 (10, [l0, l1, l2], st, k, h) := zz_k_br (w ≤ v) rfl (zz_k_num f74_7 rfl)
theorem f74_10 : zz_fetch zz_prog 74 10 = some (.aload_n 0, 1, [], []) := zz_fetch_of p74 rfl rfl
theorem s74_10 : zz_Run zz_prog d 74 (10, [some (.ref a), l1, l2], st, k, h) = zz_Run zz_prog d 74 (11, [some (.ref a), l1, l2], .ref a :: st, k, h) := zz_k_num f74_10 rfl
theorem f74_11 : zz_fetch zz_prog 74 11 = some (.iload_n 2, 1, [], []) := zz_fetch_of p74 rfl rfl
theorem s74_11 : zz_Run zz_prog d 74 (11, [l0, l1, some (.int v)], st, k, h) = zz_Run zz_prog d 74 (12, [l0, l1, some (.int v)], .int v :: st, k, h) := zz_k_num f74_11 rfl
theorem f74_12 : zz_fetch zz_prog 74 12 = some (.iload_n 1, 1, [], []) := zz_fetch_of p74 rfl rfl
theorem s74_12 : zz_Run zz_prog d 74 (12, [l0, some (.int v), l2], st, k, h) = zz_Run zz_prog d 74 (13, [l0, some (.int v), l2], .int v :: st, k, h) := zz_k_num f74_12 rfl
theorem f74_13 : zz_fetch zz_prog 74 13 = some (.invokevirtual 148, 3, [0, 73, 3, 1], []) := zz_fetch_of p74 rfl rfl
theorem s74_13 : zz_Run zz_prog d 74 (13, [l0, l1, l2], [b0, b1, .ref 5], k, (zz_hp n I J ex)) = zz_ret (zz_Call zz_prog d 73 [.ref 5, b1, b0] (zz_hp n I J ex)) (fun v k' h' => zz_Run zz_prog d 74 (16, [l0, l1, l2], v.toList ++ [], k && k', h')) (fun a k' h' => zz_th d 74 13 a [l0, l1, l2] (k && k') h') := zz_k_call f74_13 rfl rfl rfl
theorem f74_16 : zz_fetch zz_prog 74 16 = some (.ifCond .eq 5, 3, [21], []) := zz_fetch_of p74 rfl rfl
theorem s74_16 : zz_Run zz_prog d 74 (16, [l0, l1, l2], .int v :: st, k, h) = if v = 0 then zz_Run zz_prog d 74 (21, [l0, l1, l2], st, k, h) else zz_Run zz_prog d 74 (19, [l0, l1, l2], st, k, h) := zz_k_br (v = 0) rfl (zz_k_num f74_16 rfl)
theorem f74_19 : zz_fetch zz_prog 74 19 = some (.iconst 1, 1, [], []) := zz_fetch_of p74 rfl rfl
theorem s74_19 : zz_Run zz_prog d 74 (19, [l0, l1, l2], st, k, h) = zz_Run zz_prog d 74 (20, [l0, l1, l2], .int 1 :: st, k, h) := zz_k_num f74_19 rfl
theorem f74_20 : zz_fetch zz_prog 74 20 = some (.ireturn, 1, [1], []) := zz_fetch_of p74 rfl rfl
theorem s74_20 : zz_Run zz_prog d 74 (20, [l0, l1, l2], [.int v], k, h) = zz_ck (decide (v = 0 ∨ v = 1)) (some (.inl (some (.int v)), k, h)) := zz_k_retz f74_20
theorem f74_21 : zz_fetch zz_prog 74 21 = some (.iinc 2 1, 3, [], []) := zz_fetch_of p74 rfl rfl
theorem s74_21 : zz_Run zz_prog d 74 (21, [l0, l1, some (.int v)], st, k, h) = zz_sl l1 (zz_Run zz_prog d 74 (24, [l0, l1, some (.int (v + 1))], st, k, h)) := zz_k_st (j := 2) (u := .int (v + 1)) f74_21 rfl (fun q hq => by cases hq) rfl (show 2 < 3 by decide) (by cases l1 <;> rfl) rfl
theorem f74_24 : zz_fetch zz_prog 74 24 = some (.goto (-22), 3, [2], []) := zz_fetch_of p74 rfl rfl
theorem s74_24 : zz_Run zz_prog d 74 (24, [l0, l1, l2], st, k, h) = zz_Run zz_prog d 74 (2, [l0, l1, l2], st, k, h) := zz_k_num f74_24 rfl
theorem f74_27 : zz_fetch zz_prog 74 27 = some (.iconst 0, 1, [], []) := zz_fetch_of p74 rfl rfl
theorem s74_27 : zz_Run zz_prog d 74 (27, [l0, l1, l2], st, k, h) = zz_Run zz_prog d 74 (28, [l0, l1, l2], .int 0 :: st, k, h) := zz_k_num f74_27 rfl
theorem f74_28 : zz_fetch zz_prog 74 28 = some (.ireturn, 1, [1], []) := zz_fetch_of p74 rfl rfl
theorem s74_28 : zz_Run zz_prog d 74 (28, [l0, l1, l2], [.int v], k, h) = zz_ck (decide (v = 0 ∨ v = 1)) (some (.inl (some (.int v)), k, h)) := zz_k_retz f74_28
end S74
section S75
variable {d n j : Nat} {l0 l1 l2 l3 l4 l5 : Option Value} {st : List Value} {k : Bool} {h : zz_H} {v w v1 v2 : Int32} {y y1 : Int64} {a a1 a2 : Nat} {b0 b1 b2 b3 b4 b5 b6 b7 b8 : Value} {I : Nat → Nat → Int32} {J : Nat → Nat → Int64} {ex : List (Nat × Nat)}
theorem p75 : zz_prog 75 = some zz_m75 := rfl
theorem e75 (g0 : Nat) (g1 : Int32) (g2 : Int32) : zz_Call zz_prog (d + 1) 75 [.ref g0, .int g1, .int g2] h = zz_Run zz_prog d 75 (0, [some (.ref g0), some (.int g1), some (.int g2), none, none, none], [], true, h) := rfl
theorem t75 (pc : Nat) (L : List (Option Value)) : zz_th d 75 pc a L k h = some (.inr a, k, h) := zz_th_out p75 rfl
theorem f75_0 : zz_fetch zz_prog 75 0 = some (.aload_n 0, 1, [], []) := zz_fetch_of p75 rfl rfl
theorem s75_0 : zz_Run zz_prog d 75 (0, [some (.ref a), l1, l2, l3, l4, l5], st, k, h) = zz_Run zz_prog d 75 (1, [some (.ref a), l1, l2, l3, l4, l5], .ref a :: st, k, h) := zz_k_num f75_0 rfl
theorem f75_1 : zz_fetch zz_prog 75 1 = some (.iload_n 1, 1, [], []) := zz_fetch_of p75 rfl rfl
theorem s75_1 : zz_Run zz_prog d 75 (1, [l0, some (.int v), l2, l3, l4, l5], st, k, h) = zz_Run zz_prog d 75 (2, [l0, some (.int v), l2, l3, l4, l5], .int v :: st, k, h) := zz_k_num f75_1 rfl
theorem f75_2 : zz_fetch zz_prog 75 2 = some (.invokevirtual 323, 3, [0, 43, 2, 1], []) := zz_fetch_of p75 rfl rfl
theorem s75_2 : zz_Run zz_prog d 75 (2, [l0, l1, l2, l3, l4, l5], [b0, .ref 5], k, (zz_hp n I J ex)) = zz_ret (zz_Call zz_prog d 43 [.ref 5, b0] (zz_hp n I J ex)) (fun v k' h' => zz_Run zz_prog d 75 (5, [l0, l1, l2, l3, l4, l5], v.toList ++ [], k && k', h')) (fun a k' h' => zz_th d 75 2 a [l0, l1, l2, l3, l4, l5] (k && k') h') := zz_k_call f75_2 rfl rfl rfl
theorem f75_5 : zz_fetch zz_prog 75 5 = some (.istore_n 3, 1, [], []) := zz_fetch_of p75 rfl rfl
theorem s75_5 : zz_Run zz_prog d 75 (5, [l0, l1, l2, l3, l4, l5], .int v :: st, k, h) = zz_sl l2 (zz_Run zz_prog d 75 (6, [l0, l1, l2, some (.int v), l4, l5], st, k, h)) := zz_k_st (j := 3) (u := .int v) f75_5 rfl (fun q hq => by cases hq) rfl (show 3 < 6 by decide) (by cases l2 <;> rfl) rfl
theorem f75_6 : zz_fetch zz_prog 75 6 = some (.iload_n 3, 1, [], []) := zz_fetch_of p75 rfl rfl
theorem s75_6 : zz_Run zz_prog d 75 (6, [l0, l1, l2, some (.int v), l4, l5], st, k, h) = zz_Run zz_prog d 75 (7, [l0, l1, l2, some (.int v), l4, l5], .int v :: st, k, h) := zz_k_num f75_6 rfl
theorem f75_7 : zz_fetch zz_prog 75 7 = some (.ifCond .ne 5, 3, [12], []) := zz_fetch_of p75 rfl rfl
theorem s75_7 : zz_Run zz_prog d 75 (7, [l0, l1, l2, l3, l4, l5], .int v :: st, k, h) = if ¬ v = 0 then zz_Run zz_prog d 75 (12, [l0, l1, l2, l3, l4, l5], st, k, h) else zz_Run zz_prog d 75 (10, [l0, l1, l2, l3, l4, l5], st, k, h) := zz_k_br (¬ v = 0) rfl (zz_k_num f75_7 rfl)
theorem f75_10 : zz_fetch zz_prog 75 10 = some (.iconst (-1), 1, [], []) := zz_fetch_of p75 rfl rfl
theorem s75_10 : zz_Run zz_prog d 75 (10, [l0, l1, l2, l3, l4, l5], st, k, h) = zz_Run zz_prog d 75 (11, [l0, l1, l2, l3, l4, l5], .int (-1) :: st, k, h) := zz_k_num f75_10 rfl
theorem f75_11 : zz_fetch zz_prog 75 11 = some (.ireturn, 1, [0], []) := zz_fetch_of p75 rfl rfl
theorem s75_11 : zz_Run zz_prog d 75 (11, [l0, l1, l2, l3, l4, l5], [.int v], k, h) = some (.inl (some (.int v)), k, h) := zz_k_stop f75_11 rfl rfl rfl
theorem f75_12 : zz_fetch zz_prog 75 12 = some (.iload_n 2, 1, [], []) := zz_fetch_of p75 rfl rfl
theorem s75_12 : zz_Run zz_prog d 75 (12, [l0, l1, some (.int v), l3, l4, l5], st, k, h) = zz_Run zz_prog d 75 (13, [l0, l1, some (.int v), l3, l4, l5], .int v :: st, k, h) := zz_k_num f75_12 rfl
theorem f75_13 : zz_fetch zz_prog 75 13 = some (.iload_n 3, 1, [], []) := zz_fetch_of p75 rfl rfl
theorem s75_13 : zz_Run zz_prog d 75 (13, [l0, l1, l2, some (.int v), l4, l5], st, k, h) = zz_Run zz_prog d 75 (14, [l0, l1, l2, some (.int v), l4, l5], .int v :: st, k, h) := zz_k_num f75_13 rfl
theorem f75_14 : zz_fetch zz_prog 75 14 = some (.irem, 1, [], []) := zz_fetch_of p75 rfl rfl
theorem s75_14 (hw : ¬ w = 0) : zz_Run zz_prog d 75 (14, [l0, l1, l2, l3, l4, l5], .int w :: .int v :: st, k, h) = zz_Run zz_prog d 75 (15, [l0, l1, l2, l3, l4, l5], .int (v - v / w * w) :: st, k, h) := zz_k_irem f75_14 hw
theorem f75_15 : zz_fetch zz_prog 75 15 = some (.istore 4, 2, [], []) := zz_fetch_of p75 rfl rfl
theorem s75_15 : zz_Run zz_prog d 75 (15, [l0, l1, l2, l3, l4, l5], .int v :: st, k, h) = zz_sl l3 (zz_Run zz_prog d 75 (17, [l0, l1, l2, l3, some (.int v), l5], st, k, h)) := zz_k_st (j := 4) (u := .int v) f75_15 rfl (fun q hq => by cases hq) rfl (show 4 < 6 by decide) (by cases l3 <;> rfl) rfl
theorem f75_17 : zz_fetch zz_prog 75 17 = some (.iconst 0, 1, [], []) := zz_fetch_of p75 rfl rfl
theorem s75_17 : zz_Run zz_prog d 75 (17, [l0, l1, l2, l3, l4, l5], st, k, h) = zz_Run zz_prog d 75 (18, [l0, l1, l2, l3, l4, l5], .int 0 :: st, k, h) := zz_k_num f75_17 rfl
theorem f75_18 : zz_fetch zz_prog 75 18 = some (.istore 5, 2, [], []) := zz_fetch_of p75 rfl rfl
theorem s75_18 : zz_Run zz_prog d 75 (18, [l0, l1, l2, l3, l4, l5], .int v :: st, k, h) = zz_sl l4 (zz_Run zz_prog d 75 (20, [l0, l1, l2, l3, l4, some (.int v)], st, k, h)) := zz_k_st (j := 5) (u := .int v) f75_18 rfl (fun q hq => by cases hq) rfl (show 5 < 6 by decide) (by cases l4 <;> rfl) rfl
theorem f75_20 : zz_fetch zz_prog 75 20 = some (.iload 5, 2, [], []) := zz_fetch_of p75 rfl rfl
theorem s75_20 : zz_Run zz_prog d 75 (20, [l0, l1, l2, l3, l4, some (.int v)], st, k, h) = zz_Run zz_prog d 75 (22, [l0, l1, l2, l3, l4, some (.int v)], .int v :: st, k, h) := zz_k_num f75_20 rfl
theorem f75_22 : zz_fetch zz_prog 75 22 = some (.iconst 5, 1, [], []) := zz_fetch_of p75 rfl rfl
theorem s75_22 : zz_Run zz_prog d 75 (22, [l0, l1, l2, l3, l4, l5], st, k, h) = zz_Run zz_prog d 75 (23, [l0, l1, l2, l3, l4, l5], .int 5 :: st, k, h) := zz_k_num f75_22 rfl
theorem f75_23 : zz_fetch zz_prog 75 23 = some (.if_icmp .ge 36, 3, [59], []) := zz_fetch_of p75 rfl rfl
theorem s75_23 : zz_Run zz_prog d 75 (23, [l0, l1, l2, l3, l4, l5], .int w :: .int v :: st, k, h) = if w ≤ v then zz_Run zz_prog d 75 (59, [l0, l1, l2, l3, l4, l5], st, k, h) else zz_Run zz_prog d 75 (26, [l0, l1, l2, l3, l4, l5], st, k, h) := zz_k_br (w ≤ v) rfl (zz_k_num f75_23 rfl)
theorem f75_26 : zz_fetch zz_prog 75 26 = some (.iload 4, 2, [], []) := zz_fetch_of p75 rfl rfl
theorem s75_26 : zz_Run zz_prog d 75 (26, [l0, l1, l2, l3, some (.int v), l5], st, k, h) = zz_Run zz_prog d 75 (28, [l0, l1, l2, l3, some (.int v), l5], .int v :: st, k, h) := zz_k_num f75_26 rfl
theorem f75_28 : zz_fetch zz_prog 75 28 = some (.aload_n 0, 1, [], []) := zz_fetch_of p75 rfl rfl
theorem s75_28 : zz_Run zz_prog d 75 (28, [some (.ref a), l1, l2, l3, l4, l5], st, k, h) = zz_Run zz_prog d 75 (29, [some (.ref a), l1, l2, l3, l4, l5], .ref a :: st, k, h) := zz_k_num f75_28 rfl
theorem f75_29 : zz_fetch zz_prog 75 29 = some (.iload_n 1, 1, [], []) := zz_fetch_of p75 rfl rfl
theorem s75_29 : zz_Run zz_prog d 75 (29, [l0, some (.int v), l2, l3, l4, l5], st, k, h) = zz_Run zz_prog d 75 (30, [l0, some (.int v), l2, l3, l4, l5], .int v :: st, k, h) := zz_k_num f75_29 rfl
theorem f75_30 : zz_fetch zz_prog 75 30 = some (.iload 5, 2, [], []) := zz_fetch_of p75 rfl rfl
theorem s75_30 : zz_Run zz_prog d 75 (30, [l0, l1, l2, l3, l4, some (.int v)], st, k, h) = zz_Run zz_prog d 75 (32, [l0, l1, l2, l3, l4, some (.int v)], .int v :: st, k, h) := zz_k_num f75_30 rfl
theorem f75_32 : zz_fetch zz_prog 75 32 = some (.invokevirtual 135, 3, [0, 42, 3, 1], []) := zz_fetch_of p75 rfl rfl
theorem s75_32 : zz_Run zz_prog d 75 (32, [l0, l1, l2, l3, l4, l5], [b0, b1, .ref 5, b3], k, (zz_hp n I J ex)) = zz_ret (zz_Call zz_prog d 42 [.ref 5, b1, b0] (zz_hp n I J ex)) (fun v k' h' => zz_Run zz_prog d 75 (35, [l0, l1, l2, l3, l4, l5], v.toList ++ [b3], k && k', h')) (fun a k' h' => zz_th d 75 32 a [l0, l1, l2, l3, l4, l5] (k && k') h') := zz_k_call f75_32 rfl rfl rfl
theorem f75_35 : zz_fetch zz_prog 75 35 = some (.if_icmp .ge 6, 3, [41], []) := zz_fetch_of p75 rfl rfl
theorem s75_35 : zz_Run zz_prog d 75 (35, [l0, l1, l2, l3, l4, l5], .int w :: .int v :: st, k, h) = if w ≤ v then zz_Run zz_prog d 75 (41, [l0, l1, l2, l3, l4, l5], st, k, h) else zz_Run zz_prog d 75 (38, [l0, l1, l2, l3, l4, l5], st, k, h) := zz_k_br (w ≤ v) rfl (zz_k_num f75_35 rfl)
theorem f75_38 : zz_fetch zz_prog 75 38 = some (.iload 5, 2, [], []) := zz_fetch_of p75 rfl rfl
theorem s75_38 : zz_Run zz_prog d 75 (38, [l0, l1, l2, l3, l4, some (.int v)], st, k, h) = zz_Run zz_prog d 75 (40, [l0, l1, l2, l3, l4, some (.int v)], .int v :: st, k, h) := zz_k_num f75_38 rfl
theorem f75_40 : zz_fetch zz_prog 75 40 = some (.ireturn, 1, [0], []) := zz_fetch_of p75 rfl rfl
theorem s75_40 : zz_Run zz_prog d 75 (40, [l0, l1, l2, l3, l4, l5], [.int v], k, h) = some (.inl (some (.int v)), k, h) := zz_k_stop f75_40 rfl rfl rfl
theorem f75_41 : zz_fetch zz_prog 75 41 = some (.iload 4, 2, [], []) := zz_fetch_of p75 rfl rfl
theorem s75_41 : zz_Run zz_prog d 75 (41, [l0, l1, l2, l3, some (.int v), l5], st, k, h) = zz_Run zz_prog d 75 (43, [l0, l1, l2, l3, some (.int v), l5], .int v :: st, k, h) := zz_k_num f75_41 rfl
theorem f75_43 : zz_fetch zz_prog 75 43 = some (.aload_n 0, 1, [], []) := zz_fetch_of p75 rfl rfl
theorem s75_43 : zz_Run zz_prog d 75 (43, [some (.ref a), l1, l2, l3, l4, l5], st, k, h) = zz_Run zz_prog d 75 (44, [some (.ref a), l1, l2, l3, l4, l5], .ref a :: st, k, h) := zz_k_num f75_43 rfl
theorem f75_44 : zz_fetch zz_prog 75 44 = some (.iload_n 1, 1, [], []) := zz_fetch_of p75 rfl rfl
theorem s75_44 : zz_Run zz_prog d 75 (44, [l0, some (.int v), l2, l3, l4, l5], st, k, h) = zz_Run zz_prog d 75 (45, [l0, some (.int v), l2, l3, l4, l5], .int v :: st, k, h) := zz_k_num f75_44 rfl
theorem f75_45 : zz_fetch zz_prog 75 45 = some (.iload 5, 2, [], []) := zz_fetch_of p75 rfl rfl
theorem s75_45 : zz_Run zz_prog d 75 (45, [l0, l1, l2, l3, l4, some (.int v)], st, k, h) = zz_Run zz_prog d 75 (47, [l0, l1, l2, l3, l4, some (.int v)], .int v :: st, k, h) := zz_k_num f75_45 rfl
theorem f75_47 : zz_fetch zz_prog 75 47 = some (.invokevirtual 135, 3, [0, 42, 3, 1], []) := zz_fetch_of p75 rfl rfl
theorem s75_47 : zz_Run zz_prog d 75 (47, [l0, l1, l2, l3, l4, l5], [b0, b1, .ref 5, b3], k, (zz_hp n I J ex)) = zz_ret (zz_Call zz_prog d 42 [.ref 5, b1, b0] (zz_hp n I J ex)) (fun v k' h' => zz_Run zz_prog d 75 (50, [l0, l1, l2, l3, l4, l5], v.toList ++ [b3], k && k', h')) (fun a k' h' => zz_th d 75 47 a [l0, l1, l2, l3, l4, l5] (k && k') h') := zz_k_call f75_47 rfl rfl rfl
theorem f75_50 : zz_fetch zz_prog 75 50 = some (.isub, 1, [], []) := zz_fetch_of p75 rfl rfl
theorem s75_50 : zz_Run zz_prog d 75 (50, [l0, l1, l2, l3, l4, l5], .int w :: .int v :: st, k, h) = zz_Run zz_prog d 75 (51, [l0, l1, l2, l3, l4, l5], .int (v - w) :: st, k, h) := zz_k_num f75_50 rfl
theorem f75_51 : zz_fetch zz_prog 75 51 = some (.istore 4, 2, [], []) := zz_fetch_of p75 rfl rfl
theorem s75_51 : zz_Run zz_prog d 75 (51, [l0, l1, l2, l3, l4, l5], .int v :: st, k, h) = zz_sl l3 (zz_Run zz_prog d 75 (53, [l0, l1, l2, l3, some (.int v), l5], st, k, h)) := zz_k_st (j := 4) (u := .int v) f75_51 rfl (fun q hq => by cases hq) rfl (show 4 < 6 by decide) (by cases l3 <;> rfl) rfl
theorem f75_53 : zz_fetch zz_prog 75 53 = some (.iinc 5 1, 3, [], []) := zz_fetch_of p75 rfl rfl
theorem s75_53 : zz_Run zz_prog d 75 (53, [l0, l1, l2, l3, l4, some (.int v)], st, k, h) = zz_sl l4 (zz_Run zz_prog d 75 (56, [l0, l1, l2, l3, l4, some (.int (v + 1))], st, k, h)) := zz_k_st (j := 5) (u := .int (v + 1)) f75_53 rfl (fun q hq => by cases hq) rfl (show 5 < 6 by decide) (by cases l4 <;> rfl) rfl
theorem f75_56 : zz_fetch zz_prog 75 56 = some (.goto (-36), 3, [20], []) := zz_fetch_of p75 rfl rfl
theorem s75_56 : zz_Run zz_prog d 75 (56, [l0, l1, l2, l3, l4, l5], st, k, h) = zz_Run zz_prog d 75 (20, [l0, l1, l2, l3, l4, l5], st, k, h) := zz_k_num f75_56 rfl
theorem f75_59 : zz_fetch zz_prog 75 59 = some (.iconst (-1), 1, [], []) := zz_fetch_of p75 rfl rfl
theorem s75_59 : zz_Run zz_prog d 75 (59, [l0, l1, l2, l3, l4, l5], st, k, h) = zz_Run zz_prog d 75 (60, [l0, l1, l2, l3, l4, l5], .int (-1) :: st, k, h) := zz_k_num f75_59 rfl
theorem f75_60 : zz_fetch zz_prog 75 60 = some (.ireturn, 1, [0], []) := zz_fetch_of p75 rfl rfl
theorem s75_60 : zz_Run zz_prog d 75 (60, [l0, l1, l2, l3, l4, l5], [.int v], k, h) = some (.inl (some (.int v)), k, h) := zz_k_stop f75_60 rfl rfl rfl
end S75
section S76
variable {d n j : Nat} {l0 l1 : Option Value} {st : List Value} {k : Bool} {h : zz_H} {v w v1 v2 : Int32} {y y1 : Int64} {a a1 a2 : Nat} {b0 b1 b2 b3 b4 b5 b6 b7 b8 : Value} {I : Nat → Nat → Int32} {J : Nat → Nat → Int64} {ex : List (Nat × Nat)}
theorem p76 : zz_prog 76 = some zz_m76 := rfl
theorem e76 (g0 : Nat) (g1 : Int32) : zz_Call zz_prog (d + 1) 76 [.ref g0, .int g1] h = zz_Run zz_prog d 76 (0, [some (.ref g0), some (.int g1)], [], true, h) := rfl
theorem t76 (pc : Nat) (L : List (Option Value)) : zz_th d 76 pc a L k h = some (.inr a, k, h) := zz_th_out p76 rfl
theorem f76_0 : zz_fetch zz_prog 76 0 = some (.aload_n 0, 1, [], []) := zz_fetch_of p76 rfl rfl
theorem s76_0 : zz_Run zz_prog d 76 (0, [some (.ref a), l1], st, k, h) = zz_Run zz_prog d 76 (1, [some (.ref a), l1], .ref a :: st, k, h) := zz_k_num f76_0 rfl
theorem f76_1 : zz_fetch zz_prog 76 1 = some (.getfield 69, 3, [1, 4, 2], []) := zz_fetch_of p76 rfl rfl
theorem s76_1 : zz_Run zz_prog d 76 (1, [l0, l1], .ref 5 :: st, k, (zz_hp n I J ex)) = zz_Run zz_prog d 76 (4, [l0, l1], .long (J 5 4) :: st, k, (zz_hp n I J ex)) := zz_k_go f76_1 rfl rfl rfl
theorem f76_4 : zz_fetch zz_prog 76 4 = some (.iconst 3, 1, [], []) := zz_fetch_of p76 rfl rfl
theorem s76_4 : zz_Run zz_prog d 76 (4, [l0, l1], st, k, h) = zz_Run zz_prog d 76 (5, [l0, l1], .int 3 :: st, k, h) := zz_k_num f76_4 rfl
theorem f76_5 : zz_fetch zz_prog 76 5 = some (.iload_n 1, 1, [], []) := zz_fetch_of p76 rfl rfl
theorem s76_5 : zz_Run zz_prog d 76 (5, [l0, some (.int v)], st, k, h) = zz_Run zz_prog d 76 (6, [l0, some (.int v)], .int v :: st, k, h) := zz_k_num f76_5 rfl
theorem f76_6 : zz_fetch zz_prog 76 6 = some (.imul, 1, [], []) := zz_fetch_of p76 rfl rfl
theorem s76_6 : zz_Run zz_prog d 76 (6, [l0, l1], .int w :: .int v :: st, k, h) = zz_Run zz_prog d 76 (7, [l0, l1], .int (v * w) :: st, k, h) := zz_k_num f76_6 rfl
theorem f76_7 : zz_fetch zz_prog 76 7 = some (.lushr, 1, [], []) := zz_fetch_of p76 rfl rfl
theorem s76_7 : zz_Run zz_prog d 76 (7, [l0, l1], .int v :: .long y :: st, k, h) = zz_Run zz_prog d 76 (8, [l0, l1], .long ((y.toUInt64 >>> (v.toInt64.toUInt64 &&& Int64.toUInt64 63)).toInt64) :: st, k, h) := zz_k_num f76_7 rfl
theorem f76_8 : zz_fetch zz_prog 76 8 = some (.ldc2_w 329, 3, [7], []) := zz_fetch_of p76 rfl rfl
theorem s76_8 : zz_Run zz_prog d 76 (8, [l0, l1], st, k, h) = zz_Run zz_prog d 76 (11, [l0, l1], .long (Int64.ofNat 7) :: st, k, h) := zz_k_go f76_8 rfl rfl rfl
theorem f76_11 : zz_fetch zz_prog 76 11 = some (.land, 1, [], []) := zz_fetch_of p76 rfl rfl
theorem s76_11 : zz_Run zz_prog d 76 (11, [l0, l1], .long y1 :: .long y :: st, k, h) = zz_Run zz_prog d 76 (12, [l0, l1], .long (y &&& y1) :: st, k, h) := zz_k_num f76_11 rfl
theorem f76_12 : zz_fetch zz_prog 76 12 = some (.ldc2_w 331, 3, [4], []) := zz_fetch_of p76 rfl rfl
theorem s76_12 : zz_Run zz_prog d 76 (12, [l0, l1], st, k, h) = zz_Run zz_prog d 76 (15, [l0, l1], .long (Int64.ofNat 4) :: st, k, h) := zz_k_go f76_12 rfl rfl rfl
theorem f76_15 : zz_fetch zz_prog 76 15 = some (.invokestatic 333, 3, [6], []) := zz_fetch_of p76 rfl rfl
theorem s76_15 : zz_Run zz_prog d 76 (15, [l0, l1], [.long y1, .long y], k, h) = zz_Run zz_prog d 76 (18, [l0, l1], [.long (if y1 < y then y1 else y)], k, h) := zz_k_bi f76_15 rfl rfl rfl
theorem f76_18 : zz_fetch zz_prog 76 18 = some (.l2i, 1, [], []) := zz_fetch_of p76 rfl rfl
theorem s76_18 : zz_Run zz_prog d 76 (18, [l0, l1], .long y :: st, k, h) = zz_Run zz_prog d 76 (19, [l0, l1], .int y.toInt32 :: st, k, h) := zz_k_num f76_18 rfl
theorem f76_19 : zz_fetch zz_prog 76 19 = some (.ireturn, 1, [0], []) := zz_fetch_of p76 rfl rfl
theorem s76_19 : zz_Run zz_prog d 76 (19, [l0, l1], [.int v], k, h) = some (.inl (some (.int v)), k, h) := zz_k_stop f76_19 rfl rfl rfl
end S76
section S77
variable {d n j : Nat} {l0 l1 l2 l3 : Option Value} {st : List Value} {k : Bool} {h : zz_H} {v w v1 v2 : Int32} {y y1 : Int64} {a a1 a2 : Nat} {b0 b1 b2 b3 b4 b5 b6 b7 b8 : Value} {I : Nat → Nat → Int32} {J : Nat → Nat → Int64} {ex : List (Nat × Nat)}
theorem p77 : zz_prog 77 = some zz_m77 := rfl
theorem e77 (g0 : Nat) (g1 : Int32) (g2 : Int32) (g3 : Int32) : zz_Call zz_prog (d + 1) 77 [.ref g0, .int g1, .int g2, .int g3] h = zz_Run zz_prog d 77 (0, [some (.ref g0), some (.int g1), some (.int g2), some (.int g3)], [], true, h) := rfl
theorem t77 (pc : Nat) (L : List (Option Value)) : zz_th d 77 pc a L k h = some (.inr a, k, h) := zz_th_out p77 rfl
theorem f77_0 : zz_fetch zz_prog 77 0 = some (.aload_n 0, 1, [], []) := zz_fetch_of p77 rfl rfl
theorem s77_0 : zz_Run zz_prog d 77 (0, [some (.ref a), l1, l2, l3], st, k, h) = zz_Run zz_prog d 77 (1, [some (.ref a), l1, l2, l3], .ref a :: st, k, h) := zz_k_num f77_0 rfl
theorem f77_1 : zz_fetch zz_prog 77 1 = some (.getfield 28, 3, [1, 7, 3], []) := zz_fetch_of p77 rfl rfl
theorem s77_1 : zz_Run zz_prog d 77 (1, [l0, l1, l2, l3], .ref 5 :: st, k, (zz_hp n I J ex)) = zz_Run zz_prog d 77 (4, [l0, l1, l2, l3], .ref 9 :: st, k, (zz_hp n I J ex)) := zz_k_go f77_1 rfl rfl rfl
theorem f77_4 : zz_fetch zz_prog 77 4 = some (.getfield 201, 3, [0, 11, 1], []) := zz_fetch_of p77 rfl rfl
theorem s77_4 : zz_Run zz_prog d 77 (4, [l0, l1, l2, l3], .ref 9 :: st, k, (zz_hp n I J ex)) = zz_Run zz_prog d 77 (7, [l0, l1, l2, l3], .int (I 9 11) :: st, k, (zz_hp n I J ex)) := zz_k_go f77_4 rfl rfl rfl
theorem s77_4b : zz_Run zz_prog d 77 (4, [l0, l1, l2, l3], .ref 16 :: st, k, (zz_hp n I J ex)) = zz_Run zz_prog d 77 (7, [l0, l1, l2, l3], .int (I 16 11) :: st, k, (zz_hp n I J ex)) := zz_k_go f77_4 rfl rfl rfl
theorem f77_7 : zz_fetch zz_prog 77 7 = some (.ifCond .ne 34, 3, [41], []) := zz_fetch_of p77 rfl rfl
theorem s77_7 : zz_Run zz_prog d 77 (7, [l0, l1, l2, l3], .int v :: st, k, h) = if ¬ v = 0 then zz_Run zz_prog d 77 (41, [l0, l1, l2, l3], st, k, h) else zz_Run zz_prog d 77 (10, [l0, l1, l2, l3], st, k, h) := zz_k_br (¬ v = 0) rfl (zz_k_num f77_7 rfl)
theorem f77_10 : zz_fetch zz_prog 77 10 = some (.aload_n 0, 1, [], []) := zz_fetch_of p77 rfl rfl
theorem s77_10 : zz_Run zz_prog d 77 (10, [some (.ref a), l1, l2, l3], st, k, h) = zz_Run zz_prog d 77 (11, [some (.ref a), l1, l2, l3], .ref a :: st, k, h) := zz_k_num f77_10 rfl
theorem f77_11 : zz_fetch zz_prog 77 11 = some (.getfield 28, 3, [1, 7, 3], []) := zz_fetch_of p77 rfl rfl
theorem s77_11 : zz_Run zz_prog d 77 (11, [l0, l1, l2, l3], .ref 5 :: st, k, (zz_hp n I J ex)) = zz_Run zz_prog d 77 (14, [l0, l1, l2, l3], .ref 9 :: st, k, (zz_hp n I J ex)) := zz_k_go f77_11 rfl rfl rfl
theorem f77_14 : zz_fetch zz_prog 77 14 = some (.getfield 188, 3, [0, 15, 3], []) := zz_fetch_of p77 rfl rfl
theorem s77_14 : zz_Run zz_prog d 77 (14, [l0, l1, l2, l3], .ref 9 :: st, k, (zz_hp n I J ex)) = zz_Run zz_prog d 77 (17, [l0, l1, l2, l3], .ref 13 :: st, k, (zz_hp n I J ex)) := zz_k_go f77_14 rfl rfl rfl
theorem s77_14b : zz_Run zz_prog d 77 (14, [l0, l1, l2, l3], .ref 16 :: st, k, (zz_hp n I J ex)) = zz_Run zz_prog d 77 (17, [l0, l1, l2, l3], .ref 20 :: st, k, (zz_hp n I J ex)) := zz_k_go f77_14 rfl rfl rfl
theorem f77_17 : zz_fetch zz_prog 77 17 = some (.aload_n 0, 1, [], []) := zz_fetch_of p77 rfl rfl
theorem s77_17 : zz_Run zz_prog d 77 (17, [some (.ref a), l1, l2, l3], st, k, h) = zz_Run zz_prog d 77 (18, [some (.ref a), l1, l2, l3], .ref a :: st, k, h) := zz_k_num f77_17 rfl
theorem f77_18 : zz_fetch zz_prog 77 18 = some (.getfield 28, 3, [1, 7, 3], []) := zz_fetch_of p77 rfl rfl
theorem s77_18 : zz_Run zz_prog d 77 (18, [l0, l1, l2, l3], .ref 5 :: st, k, (zz_hp n I J ex)) = zz_Run zz_prog d 77 (21, [l0, l1, l2, l3], .ref 9 :: st, k, (zz_hp n I J ex)) := zz_k_go f77_18 rfl rfl rfl
theorem f77_21 : zz_fetch zz_prog 77 21 = some (.getfield 86, 3, [0, 1, 0], []) := zz_fetch_of p77 rfl rfl
theorem s77_21 : zz_Run zz_prog d 77 (21, [l0, l1, l2, l3], .ref 9 :: st, k, (zz_hp n I J ex)) = zz_Run zz_prog d 77 (24, [l0, l1, l2, l3], .int (I 9 1) :: st, k, (zz_hp n I J ex)) := zz_k_go f77_21 rfl rfl rfl
theorem s77_21b : zz_Run zz_prog d 77 (21, [l0, l1, l2, l3], .ref 16 :: st, k, (zz_hp n I J ex)) = zz_Run zz_prog d 77 (24, [l0, l1, l2, l3], .int (I 16 1) :: st, k, (zz_hp n I J ex)) := zz_k_go f77_21 rfl rfl rfl
theorem f77_24 : zz_fetch zz_prog 77 24 = some (.iconst 5, 1, [], []) := zz_fetch_of p77 rfl rfl
theorem s77_24 : zz_Run zz_prog d 77 (24, [l0, l1, l2, l3], st, k, h) = zz_Run zz_prog d 77 (25, [l0, l1, l2, l3], .int 5 :: st, k, h) := zz_k_num f77_24 rfl
theorem f77_25 : zz_fetch zz_prog 77 25 = some (.imul, 1, [], []) := zz_fetch_of p77 rfl rfl
theorem s77_25 : zz_Run zz_prog d 77 (25, [l0, l1, l2, l3], .int w :: .int v :: st, k, h) = zz_Run zz_prog d 77 (26, [l0, l1, l2, l3], .int (v * w) :: st, k, h) := zz_k_num f77_25 rfl
theorem f77_26 : zz_fetch zz_prog 77 26 = some (.iload_n 1, 1, [], []) := zz_fetch_of p77 rfl rfl
theorem s77_26 : zz_Run zz_prog d 77 (26, [l0, some (.int v), l2, l3], st, k, h) = zz_Run zz_prog d 77 (27, [l0, some (.int v), l2, l3], .int v :: st, k, h) := zz_k_num f77_26 rfl
theorem f77_27 : zz_fetch zz_prog 77 27 = some (.iadd, 1, [], []) := zz_fetch_of p77 rfl rfl
theorem s77_27 : zz_Run zz_prog d 77 (27, [l0, l1, l2, l3], .int w :: .int v :: st, k, h) = zz_Run zz_prog d 77 (28, [l0, l1, l2, l3], .int (v + w) :: st, k, h) := zz_k_num f77_27 rfl
theorem f77_28 : zz_fetch zz_prog 77 28 = some (.iaload, 1, [], []) := zz_fetch_of p77 rfl rfl
theorem s77_28 (ha : zz_isrd a = true) : zz_Run zz_prog d 77 (28, [l0, l1, l2, l3], .int v :: .ref a :: st, k, (zz_hp n I J ex)) = zz_ck (zz_in v (zz_ary n a)) (zz_Run zz_prog d 77 (29, [l0, l1, l2, l3], .int (I a v.toNatClampNeg) :: st, k, (zz_hp n I J ex))) := zz_k_iald f77_28 ha
theorem f77_29 : zz_fetch zz_prog 77 29 = some (.aload_n 0, 1, [], []) := zz_fetch_of p77 rfl rfl
theorem s77_29 : zz_Run zz_prog d 77 (29, [some (.ref a), l1, l2, l3], st, k, h) = zz_Run zz_prog d 77 (30, [some (.ref a), l1, l2, l3], .ref a :: st, k, h) := zz_k_num f77_29 rfl
theorem f77_30 : zz_fetch zz_prog 77 30 = some (.getfield 28, 3, [1, 7, 3], []) := zz_fetch_of p77 rfl rfl
theorem s77_30 : zz_Run zz_prog d 77 (30, [l0, l1, l2, l3], .ref 5 :: st, k, (zz_hp n I J ex)) = zz_Run zz_prog d 77 (33, [l0, l1, l2, l3], .ref 9 :: st, k, (zz_hp n I J ex)) := zz_k_go f77_30 rfl rfl rfl
theorem f77_33 : zz_fetch zz_prog 77 33 = some (.getfield 191, 3, [0, 16, 3], []) := zz_fetch_of p77 rfl rfl
theorem s77_33 : zz_Run zz_prog d 77 (33, [l0, l1, l2, l3], .ref 9 :: st, k, (zz_hp n I J ex)) = zz_Run zz_prog d 77 (36, [l0, l1, l2, l3], .ref 14 :: st, k, (zz_hp n I J ex)) := zz_k_go f77_33 rfl rfl rfl
theorem s77_33b : zz_Run zz_prog d 77 (33, [l0, l1, l2, l3], .ref 16 :: st, k, (zz_hp n I J ex)) = zz_Run zz_prog d 77 (36, [l0, l1, l2, l3], .ref 21 :: st, k, (zz_hp n I J ex)) := zz_k_go f77_33 rfl rfl rfl
theorem f77_36 : zz_fetch zz_prog 77 36 = some (.iload_n 1, 1, [], []) := zz_fetch_of p77 rfl rfl
theorem s77_36 : zz_Run zz_prog d 77 (36, [l0, some (.int v), l2, l3], st, k, h) = zz_Run zz_prog d 77 (37, [l0, some (.int v), l2, l3], .int v :: st, k, h) := zz_k_num f77_36 rfl
theorem f77_37 : zz_fetch zz_prog 77 37 = some (.iaload, 1, [], []) := zz_fetch_of p77 rfl rfl
theorem s77_37 (ha : zz_isrd a = true) : zz_Run zz_prog d 77 (37, [l0, l1, l2, l3], .int v :: .ref a :: st, k, (zz_hp n I J ex)) = zz_ck (zz_in v (zz_ary n a)) (zz_Run zz_prog d 77 (38, [l0, l1, l2, l3], .int (I a v.toNatClampNeg) :: st, k, (zz_hp n I J ex))) := zz_k_iald f77_37 ha
theorem f77_38 : zz_fetch zz_prog 77 38 = some (.if_icmp .gt 5, 3, [43], []) := zz_fetch_of p77 rfl rfl
theorem s77_38 : zz_Run zz_prog d 77 (38, [l0, l1, l2, l3], .int w :: .int v :: st, k, h) = if w < v then zz_Run zz_prog d 77 (43, [l0, l1, l2, l3], st, k, h) else zz_Run zz_prog d 77 (41, [l0, l1, l2, l3], st, k, h) := zz_k_br (w < v) rfl (zz_k_num f77_38 rfl)
theorem f77_41 : zz_fetch zz_prog 77 41 = some (.iconst 0, 1, [], []) := zz_fetch_of p77 rfl rfl
theorem s77_41 : zz_Run zz_prog d 77 (41, [l0, l1, l2, l3], st, k, h) = zz_Run zz_prog d 77 (42, [l0, l1, l2, l3], .int 0 :: st, k, h) := zz_k_num f77_41 rfl
theorem f77_42 : zz_fetch zz_prog 77 42 = some (.ireturn, 1, [1], []) := zz_fetch_of p77 rfl rfl
theorem s77_42 : zz_Run zz_prog d 77 (42, [l0, l1, l2, l3], [.int v], k, h) = zz_ck (decide (v = 0 ∨ v = 1)) (some (.inl (some (.int v)), k, h)) := zz_k_retz f77_42
theorem f77_43 : zz_fetch zz_prog 77 43 = some (.iload_n 1, 1, [], []) := zz_fetch_of p77 rfl rfl
theorem s77_43 : zz_Run zz_prog d 77 (43, [l0, some (.int v), l2, l3], st, k, h) = zz_Run zz_prog d 77 (44, [l0, some (.int v), l2, l3], .int v :: st, k, h) := zz_k_num f77_43 rfl
theorem f77_44 : zz_fetch zz_prog 77 44 = some (.lookupswitch 69 #[(1, 28), (2, 34)], 28, [113], [(1, 72), (2, 78)]) := zz_fetch_of p77 rfl rfl
theorem s77_44 : zz_Run zz_prog d 77 (44, [l0, l1, l2, l3], .int v :: st, k, h) = zz_Run zz_prog d 77 (zz_sw v 113 [(1, 72), (2, 78)], [l0, l1, l2, l3], st, k, h) := zz_k_num f77_44 rfl
theorem f77_72 : zz_fetch zz_prog 77 72 = some (.aload_n 0, 1, [], []) := zz_fetch_of p77 rfl rfl
theorem s77_72 : zz_Run zz_prog d 77 (72, [some (.ref a), l1, l2, l3], st, k, h) = zz_Run zz_prog d 77 (73, [some (.ref a), l1, l2, l3], .ref a :: st, k, h) := zz_k_num f77_72 rfl
theorem f77_73 : zz_fetch zz_prog 77 73 = some (.iconst 0, 1, [], []) := zz_fetch_of p77 rfl rfl
theorem s77_73 : zz_Run zz_prog d 77 (73, [l0, l1, l2, l3], st, k, h) = zz_Run zz_prog d 77 (74, [l0, l1, l2, l3], .int 0 :: st, k, h) := zz_k_num f77_73 rfl
theorem f77_74 : zz_fetch zz_prog 77 74 = some (.invokevirtual 263, 3, [0, 52, 2, 1], []) := zz_fetch_of p77 rfl rfl
theorem s77_74 : zz_Run zz_prog d 77 (74, [l0, l1, l2, l3], [b0, .ref 5], k, (zz_hp n I J ex)) = zz_ret (zz_Call zz_prog d 52 [.ref 5, b0] (zz_hp n I J ex)) (fun v k' h' => zz_Run zz_prog d 77 (77, [l0, l1, l2, l3], v.toList ++ [], k && k', h')) (fun a k' h' => zz_th d 77 74 a [l0, l1, l2, l3] (k && k') h') := zz_k_call f77_74 rfl rfl rfl
theorem f77_77 : zz_fetch zz_prog 77 77 = some (.ireturn, 1, [1], []) := zz_fetch_of p77 rfl rfl
theorem s77_77 : zz_Run zz_prog d 77 (77, [l0, l1, l2, l3], [.int v], k, h) = zz_ck (decide (v = 0 ∨ v = 1)) (some (.inl (some (.int v)), k, h)) := zz_k_retz f77_77
theorem f77_78 : zz_fetch zz_prog 77 78 = some (.aload_n 0, 1, [], []) := zz_fetch_of p77 rfl rfl
theorem s77_78 : zz_Run zz_prog d 77 (78, [some (.ref a), l1, l2, l3], st, k, h) = zz_Run zz_prog d 77 (79, [some (.ref a), l1, l2, l3], .ref a :: st, k, h) := zz_k_num f77_78 rfl
theorem f77_79 : zz_fetch zz_prog 77 79 = some (.iconst 4, 1, [], []) := zz_fetch_of p77 rfl rfl
theorem s77_79 : zz_Run zz_prog d 77 (79, [l0, l1, l2, l3], st, k, h) = zz_Run zz_prog d 77 (80, [l0, l1, l2, l3], .int 4 :: st, k, h) := zz_k_num f77_79 rfl
theorem f77_80 : zz_fetch zz_prog 77 80 = some (.iload_n 2, 1, [], []) := zz_fetch_of p77 rfl rfl
theorem s77_80 : zz_Run zz_prog d 77 (80, [l0, l1, some (.int v), l3], st, k, h) = zz_Run zz_prog d 77 (81, [l0, l1, some (.int v), l3], .int v :: st, k, h) := zz_k_num f77_80 rfl
theorem f77_81 : zz_fetch zz_prog 77 81 = some (.invokevirtual 135, 3, [0, 42, 3, 1], []) := zz_fetch_of p77 rfl rfl
theorem s77_81 : zz_Run zz_prog d 77 (81, [l0, l1, l2, l3], [b0, b1, .ref 5], k, (zz_hp n I J ex)) = zz_ret (zz_Call zz_prog d 42 [.ref 5, b1, b0] (zz_hp n I J ex)) (fun v k' h' => zz_Run zz_prog d 77 (84, [l0, l1, l2, l3], v.toList ++ [], k && k', h')) (fun a k' h' => zz_th d 77 81 a [l0, l1, l2, l3] (k && k') h') := zz_k_call f77_81 rfl rfl rfl
theorem f77_84 : zz_fetch zz_prog 77 84 = some (.iload_n 2, 1, [], []) := zz_fetch_of p77 rfl rfl
theorem s77_84 : zz_Run zz_prog d 77 (84, [l0, l1, some (.int v), l3], st, k, h) = zz_Run zz_prog d 77 (85, [l0, l1, some (.int v), l3], .int v :: st, k, h) := zz_k_num f77_84 rfl
theorem f77_85 : zz_fetch zz_prog 77 85 = some (.iload_n 3, 1, [], []) := zz_fetch_of p77 rfl rfl
theorem s77_85 : zz_Run zz_prog d 77 (85, [l0, l1, l2, some (.int v)], st, k, h) = zz_Run zz_prog d 77 (86, [l0, l1, l2, some (.int v)], .int v :: st, k, h) := zz_k_num f77_85 rfl
theorem f77_86 : zz_fetch zz_prog 77 86 = some (.if_icmp .ne 7, 3, [93], []) := zz_fetch_of p77 rfl rfl
theorem s77_86 : zz_Run zz_prog d 77 (86, [l0, l1, l2, l3], .int w :: .int v :: st, k, h) = if ¬ v = w then zz_Run zz_prog d 77 (93, [l0, l1, l2, l3], st, k, h) else zz_Run zz_prog d 77 (89, [l0, l1, l2, l3], st, k, h) := zz_k_br (¬ v = w) rfl (zz_k_num f77_86 rfl)
theorem f77_89 : zz_fetch zz_prog 77 89 = some (.iconst 2, 1, [], []) := zz_fetch_of p77 rfl rfl
theorem s77_89 : zz_Run zz_prog d 77 (89, [l0, l1, l2, l3], st, k, h) = zz_Run zz_prog d 77 (90, [l0, l1, l2, l3], .int 2 :: st, k, h) := zz_k_num f77_89 rfl
theorem f77_90 : zz_fetch zz_prog 77 90 = some (.goto 4, 3, [94], []) := zz_fetch_of p77 rfl rfl
theorem s77_90 : zz_Run zz_prog d 77 (90, [l0, l1, l2, l3], st, k, h) = zz_Run zz_prog d 77 (94, [l0, l1, l2, l3], st, k, h) := zz_k_num f77_90 rfl
theorem f77_93 : zz_fetch zz_prog 77 93 = some (.iconst 1, 1, [], []) := zz_fetch_of p77 rfl rfl
theorem s77_93 : zz_Run zz_prog d 77 (93, [l0, l1, l2, l3], st, k, h) = zz_Run zz_prog d 77 (94, [l0, l1, l2, l3], .int 1 :: st, k, h) := zz_k_num f77_93 rfl
theorem f77_94 : zz_fetch zz_prog 77 94 = some (.if_icmp .lt 17, 3, [111], []) := zz_fetch_of p77 rfl rfl
theorem s77_94 : zz_Run zz_prog d 77 (94, [l0, l1, l2, l3], .int w :: .int v :: st, k, h) = if v < w then zz_Run zz_prog d 77 (111, [l0, l1, l2, l3], st, k, h) else zz_Run zz_prog d 77 (97, [l0, l1, l2, l3], st, k, h) := zz_k_br (v < w) rfl (zz_k_num f77_94 rfl)
theorem f77_97 : zz_fetch zz_prog 77 97 = some (.aload_n 0, 1, [], []) := zz_fetch_of p77 rfl rfl
theorem s77_97 : zz_Run zz_prog d 77 (97, [some (.ref a), l1, l2, l3], st, k, h) = zz_Run zz_prog d 77 (98, [some (.ref a), l1, l2, l3], .ref a :: st, k, h) := zz_k_num f77_97 rfl
theorem f77_98 : zz_fetch zz_prog 77 98 = some (.iconst 4, 1, [], []) := zz_fetch_of p77 rfl rfl
theorem s77_98 : zz_Run zz_prog d 77 (98, [l0, l1, l2, l3], st, k, h) = zz_Run zz_prog d 77 (99, [l0, l1, l2, l3], .int 4 :: st, k, h) := zz_k_num f77_98 rfl
theorem f77_99 : zz_fetch zz_prog 77 99 = some (.iload_n 3, 1, [], []) := zz_fetch_of p77 rfl rfl
theorem s77_99 : zz_Run zz_prog d 77 (99, [l0, l1, l2, some (.int v)], st, k, h) = zz_Run zz_prog d 77 (100, [l0, l1, l2, some (.int v)], .int v :: st, k, h) := zz_k_num f77_99 rfl
theorem f77_100 : zz_fetch zz_prog 77 100 = some (.invokevirtual 135, 3, [0, 42, 3, 1], []) := zz_fetch_of p77 rfl rfl
theorem s77_100 : zz_Run zz_prog d 77 (100, [l0, l1, l2, l3], [b0, b1, .ref 5], k, (zz_hp n I J ex)) = zz_ret (zz_Call zz_prog d 42 [.ref 5, b1, b0] (zz_hp n I J ex)) (fun v k' h' => zz_Run zz_prog d 77 (103, [l0, l1, l2, l3], v.toList ++ [], k && k', h')) (fun a k' h' => zz_th d 77 100 a [l0, l1, l2, l3] (k && k') h') := zz_k_call f77_100 rfl rfl rfl
theorem f77_103 : zz_fetch zz_prog 77 103 = some (.iconst 1, 1, [], []) := zz_fetch_of p77 rfl rfl
theorem s77_103 : zz_Run zz_prog d 77 (103, [l0, l1, l2, l3], st, k, h) = zz_Run zz_prog d 77 (104, [l0, l1, l2, l3], .int 1 :: st, k, h) := zz_k_num f77_103 rfl
theorem f77_104 : zz_fetch zz_prog 77 104 = some (.if_icmp .lt 7, 3, [111], []) := zz_fetch_of p77 rfl rfl
theorem s77_104 : zz_Run zz_prog d 77 (104, [l0, l1, l2, l3], .int w :: .int v :: st, k, h) = if v < w then zz_Run zz_prog d 77 (111, [l0, l1, l2, l3], st, k, h) else zz_Run zz_prog d 77 (107, [l0, l1, l2, l3], st, k, h) := zz_k_br (v < w) rfl (zz_k_num f77_104 rfl)
theorem f77_107 : zz_fetch zz_prog 77 107 = some (.iconst 1, 1, [], []) := zz_fetch_of p77 rfl rfl
theorem s77_107 : zz_Run zz_prog d 77 (107, [l0, l1, l2, l3], st, k, h) = zz_Run zz_prog d 77 (108, [l0, l1, l2, l3], .int 1 :: st, k, h) := zz_k_num f77_107 rfl
theorem f77_108 : zz_fetch zz_prog 77 108 = some (.goto 4, 3, [112], []) := zz_fetch_of p77 rfl rfl
theorem s77_108 : zz_Run zz_prog d 77 (108, [l0, l1, l2, l3], st, k, h) = zz_Run zz_prog d 77 (112, [l0, l1, l2, l3], st, k, h) := zz_k_num f77_108 rfl
theorem f77_111 : zz_fetch zz_prog 77 111 = some (.iconst 0, 1, [], []) := zz_fetch_of p77 rfl rfl
theorem s77_111 : zz_Run zz_prog d 77 (111, [l0, l1, l2, l3], st, k, h) = zz_Run zz_prog d 77 (112, [l0, l1, l2, l3], .int 0 :: st, k, h) := zz_k_num f77_111 rfl
theorem f77_112 : zz_fetch zz_prog 77 112 = some (.ireturn, 1, [1], []) := zz_fetch_of p77 rfl rfl
theorem s77_112 : zz_Run zz_prog d 77 (112, [l0, l1, l2, l3], [.int v], k, h) = zz_ck (decide (v = 0 ∨ v = 1)) (some (.inl (some (.int v)), k, h)) := zz_k_retz f77_112
theorem f77_113 : zz_fetch zz_prog 77 113 = some (.iconst 1, 1, [], []) := zz_fetch_of p77 rfl rfl
theorem s77_113 : zz_Run zz_prog d 77 (113, [l0, l1, l2, l3], st, k, h) = zz_Run zz_prog d 77 (114, [l0, l1, l2, l3], .int 1 :: st, k, h) := zz_k_num f77_113 rfl
theorem f77_114 : zz_fetch zz_prog 77 114 = some (.ireturn, 1, [1], []) := zz_fetch_of p77 rfl rfl
theorem s77_114 : zz_Run zz_prog d 77 (114, [l0, l1, l2, l3], [.int v], k, h) = zz_ck (decide (v = 0 ∨ v = 1)) (some (.inl (some (.int v)), k, h)) := zz_k_retz f77_114
end S77
section S78
variable {d n j : Nat} {l0 l1 l2 l3 : Option Value} {st : List Value} {k : Bool} {h : zz_H} {v w v1 v2 : Int32} {y y1 : Int64} {a a1 a2 : Nat} {b0 b1 b2 b3 b4 b5 b6 b7 b8 : Value} {I : Nat → Nat → Int32} {J : Nat → Nat → Int64} {ex : List (Nat × Nat)}
theorem p78 : zz_prog 78 = some zz_m78 := rfl
theorem e78 (g0 : Nat) (g1 : Int32) (g2 : Int32) (g3 : Int32) : zz_Call zz_prog (d + 1) 78 [.ref g0, .int g1, .int g2, .int g3] h = zz_Run zz_prog d 78 (0, [some (.ref g0), some (.int g1), some (.int g2), some (.int g3)], [], true, h) := rfl
theorem t78 (pc : Nat) (L : List (Option Value)) : zz_th d 78 pc a L k h = some (.inr a, k, h) := zz_th_out p78 rfl
theorem f78_0 : zz_fetch zz_prog 78 0 = some (.iload_n 1, 1, [], []) := zz_fetch_of p78 rfl rfl
theorem s78_0 : zz_Run zz_prog d 78 (0, [l0, some (.int v), l2, l3], st, k, h) = zz_Run zz_prog d 78 (1, [l0, some (.int v), l2, l3], .int v :: st, k, h) := zz_k_num f78_0 rfl
theorem f78_1 : zz_fetch zz_prog 78 1 = some (.tableswitch 90 0 2 #[27, 37, 60], 27, [91], [(0, 28), (1, 38), (2, 61)]) := zz_fetch_of p78 rfl rfl
theorem s78_1 : zz_Run zz_prog d 78 (1, [l0, l1, l2, l3], .int v :: st, k, h) = zz_Run zz_prog d 78 (zz_sw v 91 [(0, 28), (1, 38), (2, 61)], [l0, l1, l2, l3], st, k, h) := zz_k_num f78_1 rfl
theorem f78_28 : zz_fetch zz_prog 78 28 = some (.aload_n 0, 1, [], []) := zz_fetch_of p78 rfl rfl
theorem s78_28 : zz_Run zz_prog d 78 (28, [some (.ref a), l1, l2, l3], st, k, h) = zz_Run zz_prog d 78 (29, [some (.ref a), l1, l2, l3], .ref a :: st, k, h) := zz_k_num f78_28 rfl
theorem f78_29 : zz_fetch zz_prog 78 29 = some (.getfield 28, 3, [1, 7, 3], []) := zz_fetch_of p78 rfl rfl
theorem s78_29 : zz_Run zz_prog d 78 (29, [l0, l1, l2, l3], .ref 5 :: st, k, (zz_hp n I J ex)) = zz_Run zz_prog d 78 (32, [l0, l1, l2, l3], .ref 9 :: st, k, (zz_hp n I J ex)) := zz_k_go f78_29 rfl rfl rfl
theorem f78_32 : zz_fetch zz_prog 78 32 = some (.iconst 5, 1, [], []) := zz_fetch_of p78 rfl rfl
theorem s78_32 : zz_Run zz_prog d 78 (32, [l0, l1, l2, l3], st, k, h) = zz_Run zz_prog d 78 (33, [l0, l1, l2, l3], .int 5 :: st, k, h) := zz_k_num f78_32 rfl
theorem f78_33 : zz_fetch zz_prog 78 33 = some (.putfield 89, 3, [0, 0, 0], []) := zz_fetch_of p78 rfl rfl
theorem s78_33 : zz_Run zz_prog d 78 (33, [l0, l1, l2, l3], .int v :: .ref 9 :: st, k, (zz_hp n I J ex)) = zz_Run zz_prog d 78 (36, [l0, l1, l2, l3], st, false, (zz_hp n (zz_up I 9 0 v) J ex)) := zz_k_go f78_33 rfl rfl rfl
theorem s78_33b : zz_Run zz_prog d 78 (33, [l0, l1, l2, l3], .int v :: .ref 16 :: st, k, (zz_hp n I J ex)) = zz_Run zz_prog d 78 (36, [l0, l1, l2, l3], st, false, (zz_hp n (zz_up I 16 0 v) J ex)) := zz_k_go f78_33 rfl rfl rfl
theorem f78_36 : zz_fetch zz_prog 78 36 = some (.iconst 0, 1, [], []) := zz_fetch_of p78 rfl rfl
theorem s78_36 : zz_Run zz_prog d 78 (36, [l0, l1, l2, l3], st, k, h) = zz_Run zz_prog d 78 (37, [l0, l1, l2, l3], .int 0 :: st, k, h) := zz_k_num f78_36 rfl
theorem f78_37 : zz_fetch zz_prog 78 37 = some (.ireturn, 1, [0], []) := zz_fetch_of p78 rfl rfl
theorem s78_37 : zz_Run zz_prog d 78 (37, [l0, l1, l2, l3], [.int v], k, h) = some (.inl (some (.int v)), k, h) := zz_k_stop f78_37 rfl rfl rfl
theorem f78_38 : zz_fetch zz_prog 78 38 = some (.aload_n 0, 1, [], []) := zz_fetch_of p78 rfl rfl
theorem s78_38 : zz_Run zz_prog d 78 (38, [some (.ref a), l1, l2, l3], st, k, h) = zz_Run zz_prog d 78 (39, [some (.ref a), l1, l2, l3], .ref a :: st, k, h) := zz_k_num f78_38 rfl
theorem f78_39 : zz_fetch zz_prog 78 39 = some (.getfield 28, 3, [1, 7, 3], []) := zz_fetch_of p78 rfl rfl
theorem s78_39 : zz_Run zz_prog d 78 (39, [l0, l1, l2, l3], .ref 5 :: st, k, (zz_hp n I J ex)) = zz_Run zz_prog d 78 (42, [l0, l1, l2, l3], .ref 9 :: st, k, (zz_hp n I J ex)) := zz_k_go f78_39 rfl rfl rfl
theorem f78_42 : zz_fetch zz_prog 78 42 = some (.bipush 7, 2, [], []) := zz_fetch_of p78 rfl rfl
theorem s78_42 : zz_Run zz_prog d 78 (42, [l0, l1, l2, l3], st, k, h) = zz_Run zz_prog d 78 (44, [l0, l1, l2, l3], .int 7 :: st, k, h) := zz_k_num f78_42 (congrArg (fun u => some (44, [l0, l1, l2, l3], Value.int u :: st)) (by decide : (Int8.ofInt 7).toInt32 = 7))
theorem f78_44 : zz_fetch zz_prog 78 44 = some (.putfield 89, 3, [0, 0, 0], []) := zz_fetch_of p78 rfl rfl
theorem s78_44 : zz_Run zz_prog d 78 (44, [l0, l1, l2, l3], .int v :: .ref 9 :: st, k, (zz_hp n I J ex)) = zz_Run zz_prog d 78 (47, [l0, l1, l2, l3], st, false, (zz_hp n (zz_up I 9 0 v) J ex)) := zz_k_go f78_44 rfl rfl rfl
theorem s78_44b : zz_Run zz_prog d 78 (44, [l0, l1, l2, l3], .int v :: .ref 16 :: st, k, (zz_hp n I J ex)) = zz_Run zz_prog d 78 (47, [l0, l1, l2, l3], st, false, (zz_hp n (zz_up I 16 0 v) J ex)) := zz_k_go f78_44 rfl rfl rfl
theorem f78_47 : zz_fetch zz_prog 78 47 = some (.aload_n 0, 1, [], []) := zz_fetch_of p78 rfl rfl
theorem s78_47 : zz_Run zz_prog d 78 (47, [some (.ref a), l1, l2, l3], st, k, h) = zz_Run zz_prog d 78 (48, [some (.ref a), l1, l2, l3], .ref a :: st, k, h) := zz_k_num f78_47 rfl
theorem f78_48 : zz_fetch zz_prog 78 48 = some (.getfield 28, 3, [1, 7, 3], []) := zz_fetch_of p78 rfl rfl
theorem s78_48 : zz_Run zz_prog d 78 (48, [l0, l1, l2, l3], .ref 5 :: st, k, (zz_hp n I J ex)) = zz_Run zz_prog d 78 (51, [l0, l1, l2, l3], .ref 9 :: st, k, (zz_hp n I J ex)) := zz_k_go f78_48 rfl rfl rfl
theorem f78_51 : zz_fetch zz_prog 78 51 = some (.iconst 2, 1, [], []) := zz_fetch_of p78 rfl rfl
theorem s78_51 : zz_Run zz_prog d 78 (51, [l0, l1, l2, l3], st, k, h) = zz_Run zz_prog d 78 (52, [l0, l1, l2, l3], .int 2 :: st, k, h) := zz_k_num f78_51 rfl
theorem f78_52 : zz_fetch zz_prog 78 52 = some (.putfield 306, 3, [0, 6, 0], []) := zz_fetch_of p78 rfl rfl
theorem s78_52 : zz_Run zz_prog d 78 (52, [l0, l1, l2, l3], .int v :: .ref 9 :: st, k, (zz_hp n I J ex)) = zz_Run zz_prog d 78 (55, [l0, l1, l2, l3], st, false, (zz_hp n (zz_up I 9 6 v) J ex)) := zz_k_go f78_52 rfl rfl rfl
theorem s78_52b : zz_Run zz_prog d 78 (52, [l0, l1, l2, l3], .int v :: .ref 16 :: st, k, (zz_hp n I J ex)) = zz_Run zz_prog d 78 (55, [l0, l1, l2, l3], st, false, (zz_hp n (zz_up I 16 6 v) J ex)) := zz_k_go f78_52 rfl rfl rfl
theorem f78_55 : zz_fetch zz_prog 78 55 = some (.aload_n 0, 1, [], []) := zz_fetch_of p78 rfl rfl
theorem s78_55 : zz_Run zz_prog d 78 (55, [some (.ref a), l1, l2, l3], st, k, h) = zz_Run zz_prog d 78 (56, [some (.ref a), l1, l2, l3], .ref a :: st, k, h) := zz_k_num f78_55 rfl
theorem f78_56 : zz_fetch zz_prog 78 56 = some (.invokevirtual 309, 3, [0, 64, 1, 1], []) := zz_fetch_of p78 rfl rfl
theorem s78_56 : zz_Run zz_prog d 78 (56, [l0, l1, l2, l3], [.ref 5], k, (zz_hp n I J ex)) = zz_ret (zz_Call zz_prog d 64 [.ref 5] (zz_hp n I J ex)) (fun v k' h' => zz_Run zz_prog d 78 (59, [l0, l1, l2, l3], v.toList ++ [], k && k', h')) (fun a k' h' => zz_th d 78 56 a [l0, l1, l2, l3] (k && k') h') := zz_k_call f78_56 rfl rfl rfl
theorem f78_59 : zz_fetch zz_prog 78 59 = some (.iconst 0, 1, [], []) := zz_fetch_of p78 rfl rfl
theorem s78_59 : zz_Run zz_prog d 78 (59, [l0, l1, l2, l3], st, k, h) = zz_Run zz_prog d 78 (60, [l0, l1, l2, l3], .int 0 :: st, k, h) := zz_k_num f78_59 rfl
theorem f78_60 : zz_fetch zz_prog 78 60 = some (.ireturn, 1, [0], []) := zz_fetch_of p78 rfl rfl
theorem s78_60 : zz_Run zz_prog d 78 (60, [l0, l1, l2, l3], [.int v], k, h) = some (.inl (some (.int v)), k, h) := zz_k_stop f78_60 rfl rfl rfl
theorem f78_61 : zz_fetch zz_prog 78 61 = some (.aload_n 0, 1, [], []) := zz_fetch_of p78 rfl rfl
theorem s78_61 : zz_Run zz_prog d 78 (61, [some (.ref a), l1, l2, l3], st, k, h) = zz_Run zz_prog d 78 (62, [some (.ref a), l1, l2, l3], .ref a :: st, k, h) := zz_k_num f78_61 rfl
theorem f78_62 : zz_fetch zz_prog 78 62 = some (.iconst 4, 1, [], []) := zz_fetch_of p78 rfl rfl
theorem s78_62 : zz_Run zz_prog d 78 (62, [l0, l1, l2, l3], st, k, h) = zz_Run zz_prog d 78 (63, [l0, l1, l2, l3], .int 4 :: st, k, h) := zz_k_num f78_62 rfl
theorem f78_63 : zz_fetch zz_prog 78 63 = some (.aload_n 0, 1, [], []) := zz_fetch_of p78 rfl rfl
theorem s78_63 : zz_Run zz_prog d 78 (63, [some (.ref a), l1, l2, l3], st, k, h) = zz_Run zz_prog d 78 (64, [some (.ref a), l1, l2, l3], .ref a :: st, k, h) := zz_k_num f78_63 rfl
theorem f78_64 : zz_fetch zz_prog 78 64 = some (.getfield 28, 3, [1, 7, 3], []) := zz_fetch_of p78 rfl rfl
theorem s78_64 : zz_Run zz_prog d 78 (64, [l0, l1, l2, l3], .ref 5 :: st, k, (zz_hp n I J ex)) = zz_Run zz_prog d 78 (67, [l0, l1, l2, l3], .ref 9 :: st, k, (zz_hp n I J ex)) := zz_k_go f78_64 rfl rfl rfl
theorem f78_67 : zz_fetch zz_prog 78 67 = some (.getfield 86, 3, [0, 1, 0], []) := zz_fetch_of p78 rfl rfl
theorem s78_67 : zz_Run zz_prog d 78 (67, [l0, l1, l2, l3], .ref 9 :: st, k, (zz_hp n I J ex)) = zz_Run zz_prog d 78 (70, [l0, l1, l2, l3], .int (I 9 1) :: st, k, (zz_hp n I J ex)) := zz_k_go f78_67 rfl rfl rfl
theorem s78_67b : zz_Run zz_prog d 78 (67, [l0, l1, l2, l3], .ref 16 :: st, k, (zz_hp n I J ex)) = zz_Run zz_prog d 78 (70, [l0, l1, l2, l3], .int (I 16 1) :: st, k, (zz_hp n I J ex)) := zz_k_go f78_67 rfl rfl rfl
theorem f78_70 : zz_fetch zz_prog 78 70 = some (.iload_n 2, 1, [], []) := zz_fetch_of p78 rfl rfl
theorem s78_70 : zz_Run zz_prog d 78 (70, [l0, l1, some (.int v), l3], st, k, h) = zz_Run zz_prog d 78 (71, [l0, l1, some (.int v), l3], .int v :: st, k, h) := zz_k_num f78_70 rfl
theorem f78_71 : zz_fetch zz_prog 78 71 = some (.iconst 1, 1, [], []) := zz_fetch_of p78 rfl rfl
theorem s78_71 : zz_Run zz_prog d 78 (71, [l0, l1, l2, l3], st, k, h) = zz_Run zz_prog d 78 (72, [l0, l1, l2, l3], .int 1 :: st, k, h) := zz_k_num f78_71 rfl
theorem f78_72 : zz_fetch zz_prog 78 72 = some (.invokevirtual 138, 3, [0, 44, 5, 1], []) := zz_fetch_of p78 rfl rfl
theorem s78_72 : zz_Run zz_prog d 78 (72, [l0, l1, l2, l3], [b0, b1, b2, b3, .ref 5], k, (zz_hp n I J ex)) = zz_ret (zz_Call zz_prog d 44 [.ref 5, b3, b2, b1, b0] (zz_hp n I J ex)) (fun v k' h' => zz_Run zz_prog d 78 (75, [l0, l1, l2, l3], v.toList ++ [], k && k', h')) (fun a k' h' => zz_th d 78 72 a [l0, l1, l2, l3] (k && k') h') := zz_k_call f78_72 rfl rfl rfl
theorem f78_75 : zz_fetch zz_prog 78 75 = some (.aload_n 0, 1, [], []) := zz_fetch_of p78 rfl rfl
theorem s78_75 : zz_Run zz_prog d 78 (75, [some (.ref a), l1, l2, l3], st, k, h) = zz_Run zz_prog d 78 (76, [some (.ref a), l1, l2, l3], .ref a :: st, k, h) := zz_k_num f78_75 rfl
theorem f78_76 : zz_fetch zz_prog 78 76 = some (.iconst 4, 1, [], []) := zz_fetch_of p78 rfl rfl
theorem s78_76 : zz_Run zz_prog d 78 (76, [l0, l1, l2, l3], st, k, h) = zz_Run zz_prog d 78 (77, [l0, l1, l2, l3], .int 4 :: st, k, h) := zz_k_num f78_76 rfl
theorem f78_77 : zz_fetch zz_prog 78 77 = some (.aload_n 0, 1, [], []) := zz_fetch_of p78 rfl rfl
theorem s78_77 : zz_Run zz_prog d 78 (77, [some (.ref a), l1, l2, l3], st, k, h) = zz_Run zz_prog d 78 (78, [some (.ref a), l1, l2, l3], .ref a :: st, k, h) := zz_k_num f78_77 rfl
theorem f78_78 : zz_fetch zz_prog 78 78 = some (.getfield 28, 3, [1, 7, 3], []) := zz_fetch_of p78 rfl rfl
theorem s78_78 : zz_Run zz_prog d 78 (78, [l0, l1, l2, l3], .ref 5 :: st, k, (zz_hp n I J ex)) = zz_Run zz_prog d 78 (81, [l0, l1, l2, l3], .ref 9 :: st, k, (zz_hp n I J ex)) := zz_k_go f78_78 rfl rfl rfl
theorem f78_81 : zz_fetch zz_prog 78 81 = some (.getfield 86, 3, [0, 1, 0], []) := zz_fetch_of p78 rfl rfl
theorem s78_81 : zz_Run zz_prog d 78 (81, [l0, l1, l2, l3], .ref 9 :: st, k, (zz_hp n I J ex)) = zz_Run zz_prog d 78 (84, [l0, l1, l2, l3], .int (I 9 1) :: st, k, (zz_hp n I J ex)) := zz_k_go f78_81 rfl rfl rfl
theorem s78_81b : zz_Run zz_prog d 78 (81, [l0, l1, l2, l3], .ref 16 :: st, k, (zz_hp n I J ex)) = zz_Run zz_prog d 78 (84, [l0, l1, l2, l3], .int (I 16 1) :: st, k, (zz_hp n I J ex)) := zz_k_go f78_81 rfl rfl rfl
theorem f78_84 : zz_fetch zz_prog 78 84 = some (.iload_n 3, 1, [], []) := zz_fetch_of p78 rfl rfl
theorem s78_84 : zz_Run zz_prog d 78 (84, [l0, l1, l2, some (.int v)], st, k, h) = zz_Run zz_prog d 78 (85, [l0, l1, l2, some (.int v)], .int v :: st, k, h) := zz_k_num f78_84 rfl
theorem f78_85 : zz_fetch zz_prog 78 85 = some (.iconst 1, 1, [], []) := zz_fetch_of p78 rfl rfl
theorem s78_85 : zz_Run zz_prog d 78 (85, [l0, l1, l2, l3], st, k, h) = zz_Run zz_prog d 78 (86, [l0, l1, l2, l3], .int 1 :: st, k, h) := zz_k_num f78_85 rfl
theorem f78_86 : zz_fetch zz_prog 78 86 = some (.invokevirtual 138, 3, [0, 44, 5, 1], []) := zz_fetch_of p78 rfl rfl
theorem s78_86 : zz_Run zz_prog d 78 (86, [l0, l1, l2, l3], [b0, b1, b2, b3, .ref 5], k, (zz_hp n I J ex)) = zz_ret (zz_Call zz_prog d 44 [.ref 5, b3, b2, b1, b0] (zz_hp n I J ex)) (fun v k' h' => zz_Run zz_prog d 78 (89, [l0, l1, l2, l3], v.toList ++ [], k && k', h')) (fun a k' h' => zz_th d 78 86 a [l0, l1, l2, l3] (k && k') h') := zz_k_call f78_86 rfl rfl rfl
theorem f78_89 : zz_fetch zz_prog 78 89 = some (.iconst 2, 1, [], []) := zz_fetch_of p78 rfl rfl
theorem s78_89 : zz_Run zz_prog d 78 (89, [l0, l1, l2, l3], st, k, h) = zz_Run zz_prog d 78 (90, [l0, l1, l2, l3], .int 2 :: st, k, h) := zz_k_num f78_89 rfl
theorem f78_90 : zz_fetch zz_prog 78 90 = some (.ireturn, 1, [0], []) := zz_fetch_of p78 rfl rfl
theorem s78_90 : zz_Run zz_prog d 78 (90, [l0, l1, l2, l3], [.int v], k, h) = some (.inl (some (.int v)), k, h) := zz_k_stop f78_90 rfl rfl rfl
theorem f78_91 : zz_fetch zz_prog 78 91 = some (.aload_n 0, 1, [], []) := zz_fetch_of p78 rfl rfl
theorem s78_91 : zz_Run zz_prog d 78 (91, [some (.ref a), l1, l2, l3], st, k, h) = zz_Run zz_prog d 78 (92, [some (.ref a), l1, l2, l3], .ref a :: st, k, h) := zz_k_num f78_91 rfl
theorem f78_92 : zz_fetch zz_prog 78 92 = some (.iload_n 2, 1, [], []) := zz_fetch_of p78 rfl rfl
theorem s78_92 : zz_Run zz_prog d 78 (92, [l0, l1, some (.int v), l3], st, k, h) = zz_Run zz_prog d 78 (93, [l0, l1, some (.int v), l3], .int v :: st, k, h) := zz_k_num f78_92 rfl
theorem f78_93 : zz_fetch zz_prog 78 93 = some (.invokevirtual 336, 3, [0, 79, 2, 1], []) := zz_fetch_of p78 rfl rfl
theorem s78_93 : zz_Run zz_prog d 78 (93, [l0, l1, l2, l3], [b0, .ref 5], k, (zz_hp n I J ex)) = zz_ret (zz_Call zz_prog d 79 [.ref 5, b0] (zz_hp n I J ex)) (fun v k' h' => zz_Run zz_prog d 78 (96, [l0, l1, l2, l3], v.toList ++ [], k && k', h')) (fun a k' h' => zz_th d 78 93 a [l0, l1, l2, l3] (k && k') h') := zz_k_call f78_93 rfl rfl rfl
theorem f78_96 : zz_fetch zz_prog 78 96 = some (.ireturn, 1, [0], []) := zz_fetch_of p78 rfl rfl
theorem s78_96 : zz_Run zz_prog d 78 (96, [l0, l1, l2, l3], [.int v], k, h) = some (.inl (some (.int v)), k, h) := zz_k_stop f78_96 rfl rfl rfl
end S78
section S79
variable {d n j : Nat} {l0 l1 l2 l3 l4 : Option Value} {st : List Value} {k : Bool} {h : zz_H} {v w v1 v2 : Int32} {y y1 : Int64} {a a1 a2 : Nat} {b0 b1 b2 b3 b4 b5 b6 b7 b8 : Value} {I : Nat → Nat → Int32} {J : Nat → Nat → Int64} {ex : List (Nat × Nat)}
theorem p79 : zz_prog 79 = some zz_m79 := rfl
theorem e79 (g0 : Nat) (g1 : Int32) : zz_Call zz_prog (d + 1) 79 [.ref g0, .int g1] h = zz_Run zz_prog d 79 (0, [some (.ref g0), some (.int g1), none, none, none], [], true, h) := rfl
theorem t79 (pc : Nat) (L : List (Option Value)) : zz_th d 79 pc a L k h = some (.inr a, k, h) := zz_th_out p79 rfl
theorem f79_0 : zz_fetch zz_prog 79 0 = some (.iconst 0, 1, [], []) := zz_fetch_of p79 rfl rfl
theorem s79_0 : zz_Run zz_prog d 79 (0, [l0, l1, l2, l3, l4], st, k, h) = zz_Run zz_prog d 79 (1, [l0, l1, l2, l3, l4], .int 0 :: st, k, h) := zz_k_num f79_0 rfl
theorem f79_1 : zz_fetch zz_prog 79 1 = some (.istore_n 2, 1, [], []) := zz_fetch_of p79 rfl rfl
theorem s79_1 : zz_Run zz_prog d 79 (1, [l0, l1, l2, l3, l4], .int v :: st, k, h) = zz_sl l1 (zz_Run zz_prog d 79 (2, [l0, l1, some (.int v), l3, l4], st, k, h)) := zz_k_st (j := 2) (u := .int v) f79_1 rfl (fun q hq => by cases hq) rfl (show 2 < 5 by decide) (by cases l1 <;> rfl) rfl
theorem f79_2 : zz_fetch zz_prog 79 2 = some (.iconst 0, 1, [], []) := zz_fetch_of p79 rfl rfl
theorem s79_2 : zz_Run zz_prog d 79 (2, [l0, l1, l2, l3, l4], st, k, h) = zz_Run zz_prog d 79 (3, [l0, l1, l2, l3, l4], .int 0 :: st, k, h) := zz_k_num f79_2 rfl
theorem f79_3 : zz_fetch zz_prog 79 3 = some (.istore_n 3, 1, [], []) := zz_fetch_of p79 rfl rfl
theorem s79_3 : zz_Run zz_prog d 79 (3, [l0, l1, l2, l3, l4], .int v :: st, k, h) = zz_sl l2 (zz_Run zz_prog d 79 (4, [l0, l1, l2, some (.int v), l4], st, k, h)) := zz_k_st (j := 3) (u := .int v) f79_3 rfl (fun q hq => by cases hq) rfl (show 3 < 5 by decide) (by cases l2 <;> rfl) rfl
theorem f79_4 : zz_fetch zz_prog 79 4 = some (.iload_n 3, 1, [], []) := zz_fetch_of p79 rfl rfl
theorem s79_4 : zz_Run zz_prog d 79 (4, [l0, l1, l2, some (.int v), l4], st, k, h) = zz_Run zz_prog d 79 (5, [l0, l1, l2, some (.int v), l4], .int v :: st, k, h) := zz_k_num f79_4 rfl
theorem f79_5 : zz_fetch zz_prog 79 5 = some (.aload_n 0, 1, [], []) := zz_fetch_of p79 rfl rfl
theorem s79_5 : zz_Run zz_prog d 79 (5, [some (.ref a), l1, l2, l3, l4], st, k, h) = zz_Run zz_prog d 79 (6, [some (.ref a), l1, l2, l3, l4], .ref a :: st, k, h) := zz_k_num f79_5 rfl
theorem f79_6 : zz_fetch zz_prog 79 6 = some (.getfield 73, 3, [1, 5, 0], []) := zz_fetch_of p79 rfl rfl
theorem s79_6 : zz_Run zz_prog d 79 (6, [l0, l1, l2, l3, l4], .ref 5 :: st, k, (zz_hp n I J ex)) = zz_Run zz_prog d 79 (9, [l0, l1, l2, l3, l4], .int (I 5 5) :: st, k, (zz_hp n I J ex)) := zz_k_go f79_6 rfl rfl rfl
theorem f79_9 : zz_fetch zz_prog 79 9 = some (.if_icmp .ge 48, 3, [57], []) := zz_fetch_of p79 rfl rfl
theorem s79_9 : zz_Run zz_prog d 79 (9, [l0, l1, l2, l3, l4], .int w :: .int v :: st, k, h) = if w ≤ v then zz_Run zz_prog d 79 (57, [l0, l1, l2, l3, l4], st, k, h) else zz_Run zz_prog d 79 (12, [l0, l1, l2, l3, l4], st, k, h) := zz_k_br (w ≤ v) rfl (zz_k_num f79_9 rfl)
theorem f79_12 : zz_fetch zz_prog 79 12 = some (.iload_n 3, 1, [], []) := zz_fetch_of p79 rfl rfl
theorem s79_12 : zz_Run zz_prog d 79 (12, [l0, l1, l2, some (.int v), l4], st, k, h) = zz_Run zz_prog d 79 (13, [l0, l1, l2, some (.int v), l4], .int v :: st, k, h) := zz_k_num f79_12 rfl
theorem f79_13 : zz_fetch zz_prog 79 13 = some (.aload_n 0, 1, [], []) := zz_fetch_of p79 rfl rfl
theorem s79_13 : zz_Run zz_prog d 79 (13, [some (.ref a), l1, l2, l3, l4], st, k, h) = zz_Run zz_prog d 79 (14, [some (.ref a), l1, l2, l3, l4], .ref a :: st, k, h) := zz_k_num f79_13 rfl
theorem f79_14 : zz_fetch zz_prog 79 14 = some (.getfield 28, 3, [1, 7, 3], []) := zz_fetch_of p79 rfl rfl
theorem s79_14 : zz_Run zz_prog d 79 (14, [l0, l1, l2, l3, l4], .ref 5 :: st, k, (zz_hp n I J ex)) = zz_Run zz_prog d 79 (17, [l0, l1, l2, l3, l4], .ref 9 :: st, k, (zz_hp n I J ex)) := zz_k_go f79_14 rfl rfl rfl
theorem f79_17 : zz_fetch zz_prog 79 17 = some (.getfield 86, 3, [0, 1, 0], []) := zz_fetch_of p79 rfl rfl
theorem s79_17 : zz_Run zz_prog d 79 (17, [l0, l1, l2, l3, l4], .ref 9 :: st, k, (zz_hp n I J ex)) = zz_Run zz_prog d 79 (20, [l0, l1, l2, l3, l4], .int (I 9 1) :: st, k, (zz_hp n I J ex)) := zz_k_go f79_17 rfl rfl rfl
theorem s79_17b : zz_Run zz_prog d 79 (17, [l0, l1, l2, l3, l4], .ref 16 :: st, k, (zz_hp n I J ex)) = zz_Run zz_prog d 79 (20, [l0, l1, l2, l3, l4], .int (I 16 1) :: st, k, (zz_hp n I J ex)) := zz_k_go f79_17 rfl rfl rfl
theorem f79_20 : zz_fetch zz_prog 79 20 = some (.if_icmp .eq 31, 3, [51], []) := zz_fetch_of p79 rfl rfl
theorem s79_20 : zz_Run zz_prog d 79 (20, [l0, l1, l2, l3, l4], .int w :: .int v :: st, k, h) = if v = w then zz_Run zz_prog d 79 (51, [l0, l1, l2, l3, l4], st, k, h) else zz_Run zz_prog d 79 (23, [l0, l1, l2, l3, l4], st, k, h) := zz_k_br (v = w) rfl (zz_k_num f79_20 rfl)
theorem f79_23 : zz_fetch zz_prog 79 23 = some (.aload_n 0, 1, [], []) := zz_fetch_of p79 rfl rfl
theorem s79_23 : zz_Run zz_prog d 79 (23, [some (.ref a), l1, l2, l3, l4], st, k, h) = zz_Run zz_prog d 79 (24, [some (.ref a), l1, l2, l3, l4], .ref a :: st, k, h) := zz_k_num f79_23 rfl
theorem f79_24 : zz_fetch zz_prog 79 24 = some (.iload_n 3, 1, [], []) := zz_fetch_of p79 rfl rfl
theorem s79_24 : zz_Run zz_prog d 79 (24, [l0, l1, l2, some (.int v), l4], st, k, h) = zz_Run zz_prog d 79 (25, [l0, l1, l2, some (.int v), l4], .int v :: st, k, h) := zz_k_num f79_24 rfl
theorem f79_25 : zz_fetch zz_prog 79 25 = some (.iload_n 1, 1, [], []) := zz_fetch_of p79 rfl rfl
theorem s79_25 : zz_Run zz_prog d 79 (25, [l0, some (.int v), l2, l3, l4], st, k, h) = zz_Run zz_prog d 79 (26, [l0, some (.int v), l2, l3, l4], .int v :: st, k, h) := zz_k_num f79_25 rfl
theorem f79_26 : zz_fetch zz_prog 79 26 = some (.invokevirtual 135, 3, [0, 42, 3, 1], []) := zz_fetch_of p79 rfl rfl
theorem s79_26 : zz_Run zz_prog d 79 (26, [l0, l1, l2, l3, l4], [b0, b1, .ref 5], k, (zz_hp n I J ex)) = zz_ret (zz_Call zz_prog d 42 [.ref 5, b1, b0] (zz_hp n I J ex)) (fun v k' h' => zz_Run zz_prog d 79 (29, [l0, l1, l2, l3, l4], v.toList ++ [], k && k', h')) (fun a k' h' => zz_th d 79 26 a [l0, l1, l2, l3, l4] (k && k') h') := zz_k_call f79_26 rfl rfl rfl
theorem f79_29 : zz_fetch zz_prog 79 29 = some (.istore 4, 2, [], []) := zz_fetch_of p79 rfl rfl
theorem s79_29 : zz_Run zz_prog d 79 (29, [l0, l1, l2, l3, l4], .int v :: st, k, h) = zz_sl l3 (zz_Run zz_prog d 79 (31, [l0, l1, l2, l3, some (.int v)], st, k, h)) := zz_k_st (j := 4) (u := .int v) f79_29 rfl (fun q hq => by cases hq) rfl (show 4 < 5 by decide) (by cases l3 <;> rfl) rfl
theorem f79_31 : zz_fetch zz_prog 79 31 = some (.aload_n 0, 1, [], []) := zz_fetch_of p79 rfl rfl
theorem s79_31 : zz_Run zz_prog d 79 (31, [some (.ref a), l1, l2, l3, l4], st, k, h) = zz_Run zz_prog d 79 (32, [some (.ref a), l1, l2, l3, l4], .ref a :: st, k, h) := zz_k_num f79_31 rfl
theorem f79_32 : zz_fetch zz_prog 79 32 = some (.iload_n 3, 1, [], []) := zz_fetch_of p79 rfl rfl
theorem s79_32 : zz_Run zz_prog d 79 (32, [l0, l1, l2, some (.int v), l4], st, k, h) = zz_Run zz_prog d 79 (33, [l0, l1, l2, some (.int v), l4], .int v :: st, k, h) := zz_k_num f79_32 rfl
theorem f79_33 : zz_fetch zz_prog 79 33 = some (.aload_n 0, 1, [], []) := zz_fetch_of p79 rfl rfl
theorem s79_33 : zz_Run zz_prog d 79 (33, [some (.ref a), l1, l2, l3, l4], st, k, h) = zz_Run zz_prog d 79 (34, [some (.ref a), l1, l2, l3, l4], .ref a :: st, k, h) := zz_k_num f79_33 rfl
theorem f79_34 : zz_fetch zz_prog 79 34 = some (.getfield 28, 3, [1, 7, 3], []) := zz_fetch_of p79 rfl rfl
theorem s79_34 : zz_Run zz_prog d 79 (34, [l0, l1, l2, l3, l4], .ref 5 :: st, k, (zz_hp n I J ex)) = zz_Run zz_prog d 79 (37, [l0, l1, l2, l3, l4], .ref 9 :: st, k, (zz_hp n I J ex)) := zz_k_go f79_34 rfl rfl rfl
theorem f79_37 : zz_fetch zz_prog 79 37 = some (.getfield 86, 3, [0, 1, 0], []) := zz_fetch_of p79 rfl rfl
theorem s79_37 : zz_Run zz_prog d 79 (37, [l0, l1, l2, l3, l4], .ref 9 :: st, k, (zz_hp n I J ex)) = zz_Run zz_prog d 79 (40, [l0, l1, l2, l3, l4], .int (I 9 1) :: st, k, (zz_hp n I J ex)) := zz_k_go f79_37 rfl rfl rfl
theorem s79_37b : zz_Run zz_prog d 79 (37, [l0, l1, l2, l3, l4], .ref 16 :: st, k, (zz_hp n I J ex)) = zz_Run zz_prog d 79 (40, [l0, l1, l2, l3, l4], .int (I 16 1) :: st, k, (zz_hp n I J ex)) := zz_k_go f79_37 rfl rfl rfl
theorem f79_40 : zz_fetch zz_prog 79 40 = some (.iload_n 1, 1, [], []) := zz_fetch_of p79 rfl rfl
theorem s79_40 : zz_Run zz_prog d 79 (40, [l0, some (.int v), l2, l3, l4], st, k, h) = zz_Run zz_prog d 79 (41, [l0, some (.int v), l2, l3, l4], .int v :: st, k, h) := zz_k_num f79_40 rfl
theorem f79_41 : zz_fetch zz_prog 79 41 = some (.iload 4, 2, [], []) := zz_fetch_of p79 rfl rfl
theorem s79_41 : zz_Run zz_prog d 79 (41, [l0, l1, l2, l3, some (.int v)], st, k, h) = zz_Run zz_prog d 79 (43, [l0, l1, l2, l3, some (.int v)], .int v :: st, k, h) := zz_k_num f79_41 rfl
theorem f79_43 : zz_fetch zz_prog 79 43 = some (.invokevirtual 138, 3, [0, 44, 5, 1], []) := zz_fetch_of p79 rfl rfl
theorem s79_43 : zz_Run zz_prog d 79 (43, [l0, l1, l2, l3, l4], [b0, b1, b2, b3, .ref 5], k, (zz_hp n I J ex)) = zz_ret (zz_Call zz_prog d 44 [.ref 5, b3, b2, b1, b0] (zz_hp n I J ex)) (fun v k' h' => zz_Run zz_prog d 79 (46, [l0, l1, l2, l3, l4], v.toList ++ [], k && k', h')) (fun a k' h' => zz_th d 79 43 a [l0, l1, l2, l3, l4] (k && k') h') := zz_k_call f79_43 rfl rfl rfl
theorem f79_46 : zz_fetch zz_prog 79 46 = some (.iload_n 2, 1, [], []) := zz_fetch_of p79 rfl rfl
theorem s79_46 : zz_Run zz_prog d 79 (46, [l0, l1, some (.int v), l3, l4], st, k, h) = zz_Run zz_prog d 79 (47, [l0, l1, some (.int v), l3, l4], .int v :: st, k, h) := zz_k_num f79_46 rfl
theorem f79_47 : zz_fetch zz_prog 79 47 = some (.iload 4, 2, [], []) := zz_fetch_of p79 rfl rfl
theorem s79_47 : zz_Run zz_prog d 79 (47, [l0, l1, l2, l3, some (.int v)], st, k, h) = zz_Run zz_prog d 79 (49, [l0, l1, l2, l3, some (.int v)], .int v :: st, k, h) := zz_k_num f79_47 rfl
theorem f79_49 : zz_fetch zz_prog 79 49 = some (.iadd, 1, [], []) := zz_fetch_of p79 rfl rfl
theorem s79_49 : zz_Run zz_prog d 79 (49, [l0, l1, l2, l3, l4], .int w :: .int v :: st, k, h) = zz_Run zz_prog d 79 (50, [l0, l1, l2, l3, l4], .int (v + w) :: st, k, h) := zz_k_num f79_49 rfl
theorem f79_50 : zz_fetch zz_prog 79 50 = some (.istore_n 2, 1, [], []) := zz_fetch_of p79 rfl rfl
theorem s79_50 : zz_Run zz_prog d 79 (50, [l0, l1, l2, l3, l4], .int v :: st, k, h) = zz_sl l1 (zz_Run zz_prog d 79 (51, [l0, l1, some (.int v), l3, l4], st, k, h)) := zz_k_st (j := 2) (u := .int v) f79_50 rfl (fun q hq => by cases hq) rfl (show 2 < 5 by decide) (by cases l1 <;> rfl) rfl
theorem f79_51 : zz_fetch zz_prog 79 51 = some (.iinc 3 1, 3, [], []) := zz_fetch_of p79 rfl rfl
theorem s79_51 : zz_Run zz_prog d 79 (51, [l0, l1, l2, some (.int v), l4], st, k, h) = zz_sl l2 (zz_Run zz_prog d 79 (54, [l0, l1, l2, some (.int (v + 1)), l4], st, k, h)) := zz_k_st (j := 3) (u := .int (v + 1)) f79_51 rfl (fun q hq => by cases hq) rfl (show 3 < 5 by decide) (by cases l2 <;> rfl) rfl
theorem f79_54 : zz_fetch zz_prog 79 54 = some (.goto (-50), 3, [4], []) := zz_fetch_of p79 rfl rfl
theorem s79_54 : zz_Run zz_prog d 79 (54, [l0, l1, l2, l3, l4], st, k, h) = zz_Run zz_prog d 79 (4, [l0, l1, l2, l3, l4], st, k, h) := zz_k_num f79_54 rfl
theorem f79_57 : zz_fetch zz_prog 79 57 = some (.iload_n 2, 1, [], []) := zz_fetch_of p79 rfl rfl
theorem s79_57 : zz_Run zz_prog d 79 (57, [l0, l1, some (.int v), l3, l4], st, k, h) = zz_Run zz_prog d 79 (58, [l0, l1, some (.int v), l3, l4], .int v :: st, k, h) := zz_k_num f79_57 rfl
theorem f79_58 : zz_fetch zz_prog 79 58 = some (.ireturn, 1, [0], []) := zz_fetch_of p79 rfl rfl
theorem s79_58 : zz_Run zz_prog d 79 (58, [l0, l1, l2, l3, l4], [.int v], k, h) = some (.inl (some (.int v)), k, h) := zz_k_stop f79_58 rfl rfl rfl
end S79
section S80
variable {d n j : Nat} {l0 l1 l2 l3 : Option Value} {st : List Value} {k : Bool} {h : zz_H} {v w v1 v2 : Int32} {y y1 : Int64} {a a1 a2 : Nat} {b0 b1 b2 b3 b4 b5 b6 b7 b8 : Value} {I : Nat → Nat → Int32} {J : Nat → Nat → Int64} {ex : List (Nat × Nat)}
theorem p80 : zz_prog 80 = some zz_m80 := rfl
theorem e80 (g0 : Nat) (g1 : Int32) : zz_Call zz_prog (d + 1) 80 [.ref g0, .int g1] h = zz_Run zz_prog d 80 (0, [some (.ref g0), some (.int g1), none, none], [], true, h) := rfl
theorem t80 (pc : Nat) (L : List (Option Value)) : zz_th d 80 pc a L k h = some (.inr a, k, h) := zz_th_out p80 rfl
theorem f80_0 : zz_fetch zz_prog 80 0 = some (.aload_n 0, 1, [], []) := zz_fetch_of p80 rfl rfl
theorem s80_0 : zz_Run zz_prog d 80 (0, [some (.ref a), l1, l2, l3], st, k, h) = zz_Run zz_prog d 80 (1, [some (.ref a), l1, l2, l3], .ref a :: st, k, h) := zz_k_num f80_0 rfl
theorem f80_1 : zz_fetch zz_prog 80 1 = some (.getfield 28, 3, [1, 7, 3], []) := zz_fetch_of p80 rfl rfl
theorem s80_1 : zz_Run zz_prog d 80 (1, [l0, l1, l2, l3], .ref 5 :: st, k, (zz_hp n I J ex)) = zz_Run zz_prog d 80 (4, [l0, l1, l2, l3], .ref 9 :: st, k, (zz_hp n I J ex)) := zz_k_go f80_1 rfl rfl rfl
theorem f80_4 : zz_fetch zz_prog 80 4 = some (.getfield 188, 3, [0, 15, 3], []) := zz_fetch_of p80 rfl rfl
theorem s80_4 : zz_Run zz_prog d 80 (4, [l0, l1, l2, l3], .ref 9 :: st, k, (zz_hp n I J ex)) = zz_Run zz_prog d 80 (7, [l0, l1, l2, l3], .ref 13 :: st, k, (zz_hp n I J ex)) := zz_k_go f80_4 rfl rfl rfl
theorem s80_4b : zz_Run zz_prog d 80 (4, [l0, l1, l2, l3], .ref 16 :: st, k, (zz_hp n I J ex)) = zz_Run zz_prog d 80 (7, [l0, l1, l2, l3], .ref 20 :: st, k, (zz_hp n I J ex)) := zz_k_go f80_4 rfl rfl rfl
theorem f80_7 : zz_fetch zz_prog 80 7 = some (.iload_n 1, 1, [], []) := zz_fetch_of p80 rfl rfl
theorem s80_7 : zz_Run zz_prog d 80 (7, [l0, some (.int v), l2, l3], st, k, h) = zz_Run zz_prog d 80 (8, [l0, some (.int v), l2, l3], .int v :: st, k, h) := zz_k_num f80_7 rfl
theorem f80_8 : zz_fetch zz_prog 80 8 = some (.iconst 5, 1, [], []) := zz_fetch_of p80 rfl rfl
theorem s80_8 : zz_Run zz_prog d 80 (8, [l0, l1, l2, l3], st, k, h) = zz_Run zz_prog d 80 (9, [l0, l1, l2, l3], .int 5 :: st, k, h) := zz_k_num f80_8 rfl
theorem f80_9 : zz_fetch zz_prog 80 9 = some (.imul, 1, [], []) := zz_fetch_of p80 rfl rfl
theorem s80_9 : zz_Run zz_prog d 80 (9, [l0, l1, l2, l3], .int w :: .int v :: st, k, h) = zz_Run zz_prog d 80 (10, [l0, l1, l2, l3], .int (v * w) :: st, k, h) := zz_k_num f80_9 rfl
theorem f80_10 : zz_fetch zz_prog 80 10 = some (.iconst 4, 1, [], []) := zz_fetch_of p80 rfl rfl
theorem s80_10 : zz_Run zz_prog d 80 (10, [l0, l1, l2, l3], st, k, h) = zz_Run zz_prog d 80 (11, [l0, l1, l2, l3], .int 4 :: st, k, h) := zz_k_num f80_10 rfl
theorem f80_11 : zz_fetch zz_prog 80 11 = some (.iadd, 1, [], []) := zz_fetch_of p80 rfl rfl
theorem s80_11 : zz_Run zz_prog d 80 (11, [l0, l1, l2, l3], .int w :: .int v :: st, k, h) = zz_Run zz_prog d 80 (12, [l0, l1, l2, l3], .int (v + w) :: st, k, h) := zz_k_num f80_11 rfl
theorem f80_12 : zz_fetch zz_prog 80 12 = some (.iaload, 1, [], []) := zz_fetch_of p80 rfl rfl
theorem s80_12 (ha : zz_isrd a = true) : zz_Run zz_prog d 80 (12, [l0, l1, l2, l3], .int v :: .ref a :: st, k, (zz_hp n I J ex)) = zz_ck (zz_in v (zz_ary n a)) (zz_Run zz_prog d 80 (13, [l0, l1, l2, l3], .int (I a v.toNatClampNeg) :: st, k, (zz_hp n I J ex))) := zz_k_iald f80_12 ha
theorem f80_13 : zz_fetch zz_prog 80 13 = some (.istore_n 2, 1, [], []) := zz_fetch_of p80 rfl rfl
theorem s80_13 : zz_Run zz_prog d 80 (13, [l0, l1, l2, l3], .int v :: st, k, h) = zz_sl l1 (zz_Run zz_prog d 80 (14, [l0, l1, some (.int v), l3], st, k, h)) := zz_k_st (j := 2) (u := .int v) f80_13 rfl (fun q hq => by cases hq) rfl (show 2 < 4 by decide) (by cases l1 <;> rfl) rfl
theorem f80_14 : zz_fetch zz_prog 80 14 = some (.iconst 0, 1, [], []) := zz_fetch_of p80 rfl rfl
theorem s80_14 : zz_Run zz_prog d 80 (14, [l0, l1, l2, l3], st, k, h) = zz_Run zz_prog d 80 (15, [l0, l1, l2, l3], .int 0 :: st, k, h) := zz_k_num f80_14 rfl
theorem f80_15 : zz_fetch zz_prog 80 15 = some (.istore_n 3, 1, [], []) := zz_fetch_of p80 rfl rfl
theorem s80_15 : zz_Run zz_prog d 80 (15, [l0, l1, l2, l3], .int v :: st, k, h) = zz_sl l2 (zz_Run zz_prog d 80 (16, [l0, l1, l2, some (.int v)], st, k, h)) := zz_k_st (j := 3) (u := .int v) f80_15 rfl (fun q hq => by cases hq) rfl (show 3 < 4 by decide) (by cases l2 <;> rfl) rfl
theorem f80_16 : zz_fetch zz_prog 80 16 = some (.iload_n 3, 1, [], []) := zz_fetch_of p80 rfl rfl
theorem s80_16 : zz_Run zz_prog d 80 (16, [l0, l1, l2, some (.int v)], st, k, h) = zz_Run zz_prog d 80 (17, [l0, l1, l2, some (.int v)], .int v :: st, k, h) := zz_k_num f80_16 rfl
theorem f80_17 : zz_fetch zz_prog 80 17 = some (.bipush 54, 2, [], []) := zz_fetch_of p80 rfl rfl
theorem s80_17 : zz_Run zz_prog d 80 (17, [l0, l1, l2, l3], st, k, h) = zz_Run zz_prog d 80 (19, [l0, l1, l2, l3], .int 54 :: st, k, h) := zz_k_num f80_17 (congrArg (fun u => some (19, [l0, l1, l2, l3], Value.int u :: st)) (by decide : (Int8.ofInt 54).toInt32 = 54))
theorem f80_19 : zz_fetch zz_prog 80 19 = some (.if_icmp .ge 18, 3, [37], []) := zz_fetch_of p80 rfl rfl
theorem s80_19 : zz_Run zz_prog d 80 (19, [l0, l1, l2, l3], .int w :: .int v :: st, k, h) = if w ≤ v then zz_Run zz_prog d 80 (37, [l0, l1, l2, l3], st, k, h) else zz_Run zz_prog d 80 (22, [l0, l1, l2, l3], st, k, h) := zz_k_br (w ≤ v) rfl (zz_k_num f80_19 rfl)
theorem f80_22 : zz_fetch zz_prog 80 22 = some (.iload_n 2, 1, [], []) := zz_fetch_of p80 rfl rfl
theorem s80_22 : zz_Run zz_prog d 80 (22, [l0, l1, some (.int v), l3], st, k, h) = zz_Run zz_prog d 80 (23, [l0, l1, some (.int v), l3], .int v :: st, k, h) := zz_k_num f80_22 rfl
theorem f80_23 : zz_fetch zz_prog 80 23 = some (.aload_n 0, 1, [], []) := zz_fetch_of p80 rfl rfl
theorem s80_23 : zz_Run zz_prog d 80 (23, [some (.ref a), l1, l2, l3], st, k, h) = zz_Run zz_prog d 80 (24, [some (.ref a), l1, l2, l3], .ref a :: st, k, h) := zz_k_num f80_23 rfl
theorem f80_24 : zz_fetch zz_prog 80 24 = some (.iload_n 1, 1, [], []) := zz_fetch_of p80 rfl rfl
theorem s80_24 : zz_Run zz_prog d 80 (24, [l0, some (.int v), l2, l3], st, k, h) = zz_Run zz_prog d 80 (25, [l0, some (.int v), l2, l3], .int v :: st, k, h) := zz_k_num f80_24 rfl
theorem f80_25 : zz_fetch zz_prog 80 25 = some (.iload_n 3, 1, [], []) := zz_fetch_of p80 rfl rfl
theorem s80_25 : zz_Run zz_prog d 80 (25, [l0, l1, l2, some (.int v)], st, k, h) = zz_Run zz_prog d 80 (26, [l0, l1, l2, some (.int v)], .int v :: st, k, h) := zz_k_num f80_25 rfl
theorem f80_26 : zz_fetch zz_prog 80 26 = some (.invokevirtual 260, 3, [0, 66, 3, 1], []) := zz_fetch_of p80 rfl rfl
theorem s80_26 : zz_Run zz_prog d 80 (26, [l0, l1, l2, l3], [b0, b1, .ref 5, b3], k, (zz_hp n I J ex)) = zz_ret (zz_Call zz_prog d 66 [.ref 5, b1, b0] (zz_hp n I J ex)) (fun v k' h' => zz_Run zz_prog d 80 (29, [l0, l1, l2, l3], v.toList ++ [b3], k && k', h')) (fun a k' h' => zz_th d 80 26 a [l0, l1, l2, l3] (k && k') h') := zz_k_call f80_26 rfl rfl rfl
theorem f80_29 : zz_fetch zz_prog 80 29 = some (.iadd, 1, [], []) := zz_fetch_of p80 rfl rfl
theorem s80_29 : zz_Run zz_prog d 80 (29, [l0, l1, l2, l3], .int w :: .int v :: st, k, h) = zz_Run zz_prog d 80 (30, [l0, l1, l2, l3], .int (v + w) :: st, k, h) := zz_k_num f80_29 rfl
theorem f80_30 : zz_fetch zz_prog 80 30 = some (.istore_n 2, 1, [], []) := zz_fetch_of p80 rfl rfl
theorem s80_30 : zz_Run zz_prog d 80 (30, [l0, l1, l2, l3], .int v :: st, k, h) = zz_sl l1 (zz_Run zz_prog d 80 (31, [l0, l1, some (.int v), l3], st, k, h)) := zz_k_st (j := 2) (u := .int v) f80_30 rfl (fun q hq => by cases hq) rfl (show 2 < 4 by decide) (by cases l1 <;> rfl) rfl
theorem f80_31 : zz_fetch zz_prog 80 31 = some (.iinc 3 1, 3, [], []) := zz_fetch_of p80 rfl rfl
theorem s80_31 : zz_Run zz_prog d 80 (31, [l0, l1, l2, some (.int v)], st, k, h) = zz_sl l2 (zz_Run zz_prog d 80 (34, [l0, l1, l2, some (.int (v + 1))], st, k, h)) := zz_k_st (j := 3) (u := .int (v + 1)) f80_31 rfl (fun q hq => by cases hq) rfl (show 3 < 4 by decide) (by cases l2 <;> rfl) rfl
theorem f80_34 : zz_fetch zz_prog 80 34 = some (.goto (-18), 3, [16], []) := zz_fetch_of p80 rfl rfl
theorem s80_34 : zz_Run zz_prog d 80 (34, [l0, l1, l2, l3], st, k, h) = zz_Run zz_prog d 80 (16, [l0, l1, l2, l3], st, k, h) := zz_k_num f80_34 rfl
theorem f80_37 : zz_fetch zz_prog 80 37 = some (.aload_n 0, 1, [], []) := zz_fetch_of p80 rfl rfl
theorem s80_37 : zz_Run zz_prog d 80 (37, [some (.ref a), l1, l2, l3], st, k, h) = zz_Run zz_prog d 80 (38, [some (.ref a), l1, l2, l3], .ref a :: st, k, h) := zz_k_num f80_37 rfl
theorem f80_38 : zz_fetch zz_prog 80 38 = some (.getfield 28, 3, [1, 7, 3], []) := zz_fetch_of p80 rfl rfl
theorem s80_38 : zz_Run zz_prog d 80 (38, [l0, l1, l2, l3], .ref 5 :: st, k, (zz_hp n I J ex)) = zz_Run zz_prog d 80 (41, [l0, l1, l2, l3], .ref 9 :: st, k, (zz_hp n I J ex)) := zz_k_go f80_38 rfl rfl rfl
theorem f80_41 : zz_fetch zz_prog 80 41 = some (.getfield 227, 3, [0, 10, 0], []) := zz_fetch_of p80 rfl rfl
theorem s80_41 : zz_Run zz_prog d 80 (41, [l0, l1, l2, l3], .ref 9 :: st, k, (zz_hp n I J ex)) = zz_Run zz_prog d 80 (44, [l0, l1, l2, l3], .int (I 9 10) :: st, k, (zz_hp n I J ex)) := zz_k_go f80_41 rfl rfl rfl
theorem s80_41b : zz_Run zz_prog d 80 (41, [l0, l1, l2, l3], .ref 16 :: st, k, (zz_hp n I J ex)) = zz_Run zz_prog d 80 (44, [l0, l1, l2, l3], .int (I 16 10) :: st, k, (zz_hp n I J ex)) := zz_k_go f80_41 rfl rfl rfl
theorem f80_44 : zz_fetch zz_prog 80 44 = some (.iload_n 1, 1, [], []) := zz_fetch_of p80 rfl rfl
theorem s80_44 : zz_Run zz_prog d 80 (44, [l0, some (.int v), l2, l3], st, k, h) = zz_Run zz_prog d 80 (45, [l0, some (.int v), l2, l3], .int v :: st, k, h) := zz_k_num f80_44 rfl
theorem f80_45 : zz_fetch zz_prog 80 45 = some (.if_icmp .ne 9, 3, [54], []) := zz_fetch_of p80 rfl rfl
theorem s80_45 : zz_Run zz_prog d 80 (45, [l0, l1, l2, l3], .int w :: .int v :: st, k, h) = if ¬ v = w then zz_Run zz_prog d 80 (54, [l0, l1, l2, l3], st, k, h) else zz_Run zz_prog d 80 (48, [l0, l1, l2, l3], st, k, h) := zz_k_br (¬ v = w) rfl (zz_k_num f80_45 rfl)
theorem f80_48 : zz_fetch zz_prog 80 48 = some (.iload_n 2, 1, [], []) := zz_fetch_of p80 rfl rfl
theorem s80_48 : zz_Run zz_prog d 80 (48, [l0, l1, some (.int v), l3], st, k, h) = zz_Run zz_prog d 80 (49, [l0, l1, some (.int v), l3], .int v :: st, k, h) := zz_k_num f80_48 rfl
theorem f80_49 : zz_fetch zz_prog 80 49 = some (.iconst 2, 1, [], []) := zz_fetch_of p80 rfl rfl
theorem s80_49 : zz_Run zz_prog d 80 (49, [l0, l1, l2, l3], st, k, h) = zz_Run zz_prog d 80 (50, [l0, l1, l2, l3], .int 2 :: st, k, h) := zz_k_num f80_49 rfl
theorem f80_50 : zz_fetch zz_prog 80 50 = some (.iadd, 1, [], []) := zz_fetch_of p80 rfl rfl
theorem s80_50 : zz_Run zz_prog d 80 (50, [l0, l1, l2, l3], .int w :: .int v :: st, k, h) = zz_Run zz_prog d 80 (51, [l0, l1, l2, l3], .int (v + w) :: st, k, h) := zz_k_num f80_50 rfl
theorem f80_51 : zz_fetch zz_prog 80 51 = some (.goto 4, 3, [55], []) := zz_fetch_of p80 rfl rfl
theorem s80_51 : zz_Run zz_prog d 80 (51, [l0, l1, l2, l3], st, k, h) = zz_Run zz_prog d 80 (55, [l0, l1, l2, l3], st, k, h) := zz_k_num f80_51 rfl
theorem f80_54 : zz_fetch zz_prog 80 54 = some (.iload_n 2, 1, [], []) := zz_fetch_of p80 rfl rfl
theorem s80_54 : zz_Run zz_prog d 80 (54, [l0, l1, some (.int v), l3], st, k, h) = zz_Run zz_prog d 80 (55, [l0, l1, some (.int v), l3], .int v :: st, k, h) := zz_k_num f80_54 rfl
theorem f80_55 : zz_fetch zz_prog 80 55 = some (.ireturn, 1, [0], []) := zz_fetch_of p80 rfl rfl
theorem s80_55 : zz_Run zz_prog d 80 (55, [l0, l1, l2, l3], [.int v], k, h) = some (.inl (some (.int v)), k, h) := zz_k_stop f80_55 rfl rfl rfl
end S80
section S81
variable {d n j : Nat} {l0 l1 l2 l3 : Option Value} {st : List Value} {k : Bool} {h : zz_H} {v w v1 v2 : Int32} {y y1 : Int64} {a a1 a2 : Nat} {b0 b1 b2 b3 b4 b5 b6 b7 b8 : Value} {I : Nat → Nat → Int32} {J : Nat → Nat → Int64} {ex : List (Nat × Nat)}
theorem p81 : zz_prog 81 = some zz_m81 := rfl
theorem e81 (g0 : Nat) (g1 : Int32) : zz_Call zz_prog (d + 1) 81 [.ref g0, .int g1] h = zz_Run zz_prog d 81 (0, [some (.ref g0), some (.int g1), none, none], [], true, h) := rfl
theorem t81 (pc : Nat) (L : List (Option Value)) : zz_th d 81 pc a L k h = some (.inr a, k, h) := zz_th_out p81 rfl
theorem f81_0 : zz_fetch zz_prog 81 0 = some (.iconst 0, 1, [], []) := zz_fetch_of p81 rfl rfl
theorem s81_0 : zz_Run zz_prog d 81 (0, [l0, l1, l2, l3], st, k, h) = zz_Run zz_prog d 81 (1, [l0, l1, l2, l3], .int 0 :: st, k, h) := zz_k_num f81_0 rfl
theorem f81_1 : zz_fetch zz_prog 81 1 = some (.istore_n 2, 1, [], []) := zz_fetch_of p81 rfl rfl
theorem s81_1 : zz_Run zz_prog d 81 (1, [l0, l1, l2, l3], .int v :: st, k, h) = zz_sl l1 (zz_Run zz_prog d 81 (2, [l0, l1, some (.int v), l3], st, k, h)) := zz_k_st (j := 2) (u := .int v) f81_1 rfl (fun q hq => by cases hq) rfl (show 2 < 4 by decide) (by cases l1 <;> rfl) rfl
theorem f81_2 : zz_fetch zz_prog 81 2 = some (.iconst 0, 1, [], []) := zz_fetch_of p81 rfl rfl
theorem s81_2 : zz_Run zz_prog d 81 (2, [l0, l1, l2, l3], st, k, h) = zz_Run zz_prog d 81 (3, [l0, l1, l2, l3], .int 0 :: st, k, h) := zz_k_num f81_2 rfl
theorem f81_3 : zz_fetch zz_prog 81 3 = some (.istore_n 3, 1, [], []) := zz_fetch_of p81 rfl rfl
theorem s81_3 : zz_Run zz_prog d 81 (3, [l0, l1, l2, l3], .int v :: st, k, h) = zz_sl l2 (zz_Run zz_prog d 81 (4, [l0, l1, l2, some (.int v)], st, k, h)) := zz_k_st (j := 3) (u := .int v) f81_3 rfl (fun q hq => by cases hq) rfl (show 3 < 4 by decide) (by cases l2 <;> rfl) rfl
theorem f81_4 : zz_fetch zz_prog 81 4 = some (.iload_n 3, 1, [], []) := zz_fetch_of p81 rfl rfl
theorem s81_4 : zz_Run zz_prog d 81 (4, [l0, l1, l2, some (.int v)], st, k, h) = zz_Run zz_prog d 81 (5, [l0, l1, l2, some (.int v)], .int v :: st, k, h) := zz_k_num f81_4 rfl
theorem f81_5 : zz_fetch zz_prog 81 5 = some (.bipush 54, 2, [], []) := zz_fetch_of p81 rfl rfl
theorem s81_5 : zz_Run zz_prog d 81 (5, [l0, l1, l2, l3], st, k, h) = zz_Run zz_prog d 81 (7, [l0, l1, l2, l3], .int 54 :: st, k, h) := zz_k_num f81_5 (congrArg (fun u => some (7, [l0, l1, l2, l3], Value.int u :: st)) (by decide : (Int8.ofInt 54).toInt32 = 54))
theorem f81_7 : zz_fetch zz_prog 81 7 = some (.if_icmp .ge 24, 3, [31], []) := zz_fetch_of p81 rfl rfl
theorem s81_7 : zz_Run zz_prog d 81 (7, [l0, l1, l2, l3], .int w :: .int v :: st, k, h) = if w ≤ v then zz_Run zz_prog d 81 (31, [l0, l1, l2, l3], st, k, h) else zz_Run zz_prog d 81 (10, [l0, l1, l2, l3], st, k, h) := zz_k_br (w ≤ v) rfl (zz_k_num f81_7 rfl)
theorem f81_10 : zz_fetch zz_prog 81 10 = some (.iload_n 2, 1, [], []) := zz_fetch_of p81 rfl rfl
theorem s81_10 : zz_Run zz_prog d 81 (10, [l0, l1, some (.int v), l3], st, k, h) = zz_Run zz_prog d 81 (11, [l0, l1, some (.int v), l3], .int v :: st, k, h) := zz_k_num f81_10 rfl
theorem f81_11 : zz_fetch zz_prog 81 11 = some (.aload_n 0, 1, [], []) := zz_fetch_of p81 rfl rfl
theorem s81_11 : zz_Run zz_prog d 81 (11, [some (.ref a), l1, l2, l3], st, k, h) = zz_Run zz_prog d 81 (12, [some (.ref a), l1, l2, l3], .ref a :: st, k, h) := zz_k_num f81_11 rfl
theorem f81_12 : zz_fetch zz_prog 81 12 = some (.getfield 28, 3, [1, 7, 3], []) := zz_fetch_of p81 rfl rfl
theorem s81_12 : zz_Run zz_prog d 81 (12, [l0, l1, l2, l3], .ref 5 :: st, k, (zz_hp n I J ex)) = zz_Run zz_prog d 81 (15, [l0, l1, l2, l3], .ref 9 :: st, k, (zz_hp n I J ex)) := zz_k_go f81_12 rfl rfl rfl
theorem f81_15 : zz_fetch zz_prog 81 15 = some (.iload_n 1, 1, [], []) := zz_fetch_of p81 rfl rfl
theorem s81_15 : zz_Run zz_prog d 81 (15, [l0, some (.int v), l2, l3], st, k, h) = zz_Run zz_prog d 81 (16, [l0, some (.int v), l2, l3], .int v :: st, k, h) := zz_k_num f81_15 rfl
theorem f81_16 : zz_fetch zz_prog 81 16 = some (.iload_n 3, 1, [], []) := zz_fetch_of p81 rfl rfl
theorem s81_16 : zz_Run zz_prog d 81 (16, [l0, l1, l2, some (.int v)], st, k, h) = zz_Run zz_prog d 81 (17, [l0, l1, l2, some (.int v)], .int v :: st, k, h) := zz_k_num f81_16 rfl
theorem f81_17 : zz_fetch zz_prog 81 17 = some (.iconst 0, 1, [], []) := zz_fetch_of p81 rfl rfl
theorem s81_17 : zz_Run zz_prog d 81 (17, [l0, l1, l2, l3], st, k, h) = zz_Run zz_prog d 81 (18, [l0, l1, l2, l3], .int 0 :: st, k, h) := zz_k_num f81_17 rfl
theorem f81_18 : zz_fetch zz_prog 81 18 = some (.invokestatic 339, 3, [0, 82, 4], []) := zz_fetch_of p81 rfl rfl
theorem s81_18 : zz_Run zz_prog d 81 (18, [l0, l1, l2, l3], [b0, b1, b2, b3, b4], k, h) = zz_ret (zz_Call zz_prog d 82 [b3, b2, b1, b0] h) (fun v k' h' => zz_Run zz_prog d 81 (21, [l0, l1, l2, l3], v.toList ++ [b4], k && k', h')) (fun a k' h' => zz_th d 81 18 a [l0, l1, l2, l3] (k && k') h') := zz_k_call f81_18 rfl rfl rfl
theorem f81_21 : zz_fetch zz_prog 81 21 = some (.invokestatic 343, 3, [3], []) := zz_fetch_of p81 rfl rfl
theorem s81_21 : zz_Run zz_prog d 81 (21, [l0, l1, l2, l3], [.int w, .int v], k, h) = zz_Run zz_prog d 81 (24, [l0, l1, l2, l3], [.int (if v < w then w else v)], k, h) := zz_k_bi f81_21 rfl rfl rfl
theorem f81_24 : zz_fetch zz_prog 81 24 = some (.istore_n 2, 1, [], []) := zz_fetch_of p81 rfl rfl
theorem s81_24 : zz_Run zz_prog d 81 (24, [l0, l1, l2, l3], .int v :: st, k, h) = zz_sl l1 (zz_Run zz_prog d 81 (25, [l0, l1, some (.int v), l3], st, k, h)) := zz_k_st (j := 2) (u := .int v) f81_24 rfl (fun q hq => by cases hq) rfl (show 2 < 4 by decide) (by cases l1 <;> rfl) rfl
theorem f81_25 : zz_fetch zz_prog 81 25 = some (.iinc 3 1, 3, [], []) := zz_fetch_of p81 rfl rfl
theorem s81_25 : zz_Run zz_prog d 81 (25, [l0, l1, l2, some (.int v)], st, k, h) = zz_sl l2 (zz_Run zz_prog d 81 (28, [l0, l1, l2, some (.int (v + 1))], st, k, h)) := zz_k_st (j := 3) (u := .int (v + 1)) f81_25 rfl (fun q hq => by cases hq) rfl (show 3 < 4 by decide) (by cases l2 <;> rfl) rfl
theorem f81_28 : zz_fetch zz_prog 81 28 = some (.goto (-24), 3, [4], []) := zz_fetch_of p81 rfl rfl
theorem s81_28 : zz_Run zz_prog d 81 (28, [l0, l1, l2, l3], st, k, h) = zz_Run zz_prog d 81 (4, [l0, l1, l2, l3], st, k, h) := zz_k_num f81_28 rfl
theorem f81_31 : zz_fetch zz_prog 81 31 = some (.iload_n 2, 1, [], []) := zz_fetch_of p81 rfl rfl
theorem s81_31 : zz_Run zz_prog d 81 (31, [l0, l1, some (.int v), l3], st, k, h) = zz_Run zz_prog d 81 (32, [l0, l1, some (.int v), l3], .int v :: st, k, h) := zz_k_num f81_31 rfl
theorem f81_32 : zz_fetch zz_prog 81 32 = some (.ireturn, 1, [0], []) := zz_fetch_of p81 rfl rfl
theorem s81_32 : zz_Run zz_prog d 81 (32, [l0, l1, l2, l3], [.int v], k, h) = some (.inl (some (.int v)), k, h) := zz_k_stop f81_32 rfl rfl rfl
end S81
section S82
variable {d n j : Nat} {l0 l1 l2 l3 l4 l5 l6 : Option Value} {st : List Value} {k : Bool} {h : zz_H} {v w v1 v2 : Int32} {y y1 : Int64} {a a1 a2 : Nat} {b0 b1 b2 b3 b4 b5 b6 b7 b8 : Value} {I : Nat → Nat → Int32} {J : Nat → Nat → Int64} {ex : List (Nat × Nat)}
theorem p82 : zz_prog 82 = some zz_m82 := rfl
theorem e82 (g0 : Nat) (g1 : Int32) (g2 : Int32) (g3 : Int32) : zz_Call zz_prog (d + 1) 82 [.ref g0, .int g1, .int g2, .int g3] h = zz_Run zz_prog d 82 (0, [some (.ref g0), some (.int g1), some (.int g2), some (.int g3), none, none, none], [], true, h) := rfl
theorem t82 (pc : Nat) (L : List (Option Value)) : zz_th d 82 pc a L k h = some (.inr a, k, h) := zz_th_out p82 rfl
theorem f82_0 : zz_fetch zz_prog 82 0 = some (.iload_n 3, 1, [], []) := zz_fetch_of p82 rfl rfl
theorem s82_0 : zz_Run zz_prog d 82 (0, [l0, l1, l2, some (.int v), l4, l5, l6], st, k, h) = zz_Run zz_prog d 82 (1, [l0, l1, l2, some (.int v), l4, l5, l6], .int v :: st, k, h) := zz_k_num f82_0 rfl
theorem f82_1 : zz_fetch zz_prog 82 1 = some (.bipush 15, 2, [], []) := zz_fetch_of p82 rfl rfl
theorem s82_1 : zz_Run zz_prog d 82 (1, [l0, l1, l2, l3, l4, l5, l6], st, k, h) = zz_Run zz_prog d 82 (3, [l0, l1, l2, l3, l4, l5, l6], .int 15 :: st, k, h) := zz_k_num f82_1 (congrArg (fun u => some (3, [l0, l1, l2, l3, l4, l5, l6], Value.int u :: st)) (by decide : (Int8.ofInt 15).toInt32 = 15))
theorem f82_3 : zz_fetch zz_prog 82 3 = some (.if_icmp .ge 20, 3, [23], []) := zz_fetch_of p82 rfl rfl
theorem s82_3 : zz_Run zz_prog d 82 (3, [l0, l1, l2, l3, l4, l5, l6], .int w :: .int v :: st, k, h) = if w ≤ v then zz_Run zz_prog d 82 (23, [l0, l1, l2, l3, l4, l5, l6], st, k, h) else zz_Run zz_prog d 82 (6, [l0, l1, l2, l3, l4, l5, l6], st, k, h) := zz_k_br (w ≤ v) rfl (zz_k_num f82_3 rfl)
theorem f82_6 : zz_fetch zz_prog 82 6 = some (.iload_n 3, 1, [], []) := zz_fetch_of p82 rfl rfl
theorem s82_6 : zz_Run zz_prog d 82 (6, [l0, l1, l2, some (.int v), l4, l5, l6], st, k, h) = zz_Run zz_prog d 82 (7, [l0, l1, l2, some (.int v), l4, l5, l6], .int v :: st, k, h) := zz_k_num f82_6 rfl
theorem f82_7 : zz_fetch zz_prog 82 7 = some (.ifCond .le 18, 3, [25], []) := zz_fetch_of p82 rfl rfl
theorem s82_7 : zz_Run zz_prog d 82 (7, [l0, l1, l2, l3, l4, l5, l6], .int v :: st, k, h) = if v ≤ 0 then zz_Run zz_prog d 82 (25, [l0, l1, l2, l3, l4, l5, l6], st, k, h) else zz_Run zz_prog d 82 (10, [l0, l1, l2, l3, l4, l5, l6], st, k, h) := zz_k_br (v ≤ 0) rfl (zz_k_num f82_7 rfl)
theorem f82_10 : zz_fetch zz_prog 82 10 = some (.aload_n 0, 1, [], []) := zz_fetch_of p82 rfl rfl
theorem s82_10 : zz_Run zz_prog d 82 (10, [some (.ref a), l1, l2, l3, l4, l5, l6], st, k, h) = zz_Run zz_prog d 82 (11, [some (.ref a), l1, l2, l3, l4, l5, l6], .ref a :: st, k, h) := zz_k_num f82_10 rfl
theorem f82_11 : zz_fetch zz_prog 82 11 = some (.getfield 233, 3, [0, 13, 3], []) := zz_fetch_of p82 rfl rfl
theorem s82_11 : zz_Run zz_prog d 82 (11, [l0, l1, l2, l3, l4, l5, l6], .ref 9 :: st, k, (zz_hp n I J ex)) = zz_Run zz_prog d 82 (14, [l0, l1, l2, l3, l4, l5, l6], .ref 11 :: st, k, (zz_hp n I J ex)) := zz_k_go f82_11 rfl rfl rfl
theorem s82_11b : zz_Run zz_prog d 82 (11, [l0, l1, l2, l3, l4, l5, l6], .ref 16 :: st, k, (zz_hp n I J ex)) = zz_Run zz_prog d 82 (14, [l0, l1, l2, l3, l4, l5, l6], .ref 18 :: st, k, (zz_hp n I J ex)) := zz_k_go f82_11 rfl rfl rfl
theorem f82_14 : zz_fetch zz_prog 82 14 = some (.iload_n 2, 1, [], []) := zz_fetch_of p82 rfl rfl
theorem s82_14 : zz_Run zz_prog d 82 (14, [l0, l1, some (.int v), l3, l4, l5, l6], st, k, h) = zz_Run zz_prog d 82 (15, [l0, l1, some (.int v), l3, l4, l5, l6], .int v :: st, k, h) := zz_k_num f82_14 rfl
theorem f82_15 : zz_fetch zz_prog 82 15 = some (.iaload, 1, [], []) := zz_fetch_of p82 rfl rfl
theorem s82_15 (ha : zz_isrd a = true) : zz_Run zz_prog d 82 (15, [l0, l1, l2, l3, l4, l5, l6], .int v :: .ref a :: st, k, (zz_hp n I J ex)) = zz_ck (zz_in v (zz_ary n a)) (zz_Run zz_prog d 82 (16, [l0, l1, l2, l3, l4, l5, l6], .int (I a v.toNatClampNeg) :: st, k, (zz_hp n I J ex))) := zz_k_iald f82_15 ha
theorem f82_16 : zz_fetch zz_prog 82 16 = some (.iload_n 1, 1, [], []) := zz_fetch_of p82 rfl rfl
theorem s82_16 : zz_Run zz_prog d 82 (16, [l0, some (.int v), l2, l3, l4, l5, l6], st, k, h) = zz_Run zz_prog d 82 (17, [l0, some (.int v), l2, l3, l4, l5, l6], .int v :: st, k, h) := zz_k_num f82_16 rfl
theorem f82_17 : zz_fetch zz_prog 82 17 = some (.invokestatic 346, 3, [0, 83, 2], []) := zz_fetch_of p82 rfl rfl
theorem s82_17 : zz_Run zz_prog d 82 (17, [l0, l1, l2, l3, l4, l5, l6], [b0, b1], k, h) = zz_ret (zz_Call zz_prog d 83 [b1, b0] h) (fun v k' h' => zz_Run zz_prog d 82 (20, [l0, l1, l2, l3, l4, l5, l6], v.toList ++ [], k && k', h')) (fun a k' h' => zz_th d 82 17 a [l0, l1, l2, l3, l4, l5, l6] (k && k') h') := zz_k_call f82_17 rfl rfl rfl
theorem f82_20 : zz_fetch zz_prog 82 20 = some (.ifCond .eq 5, 3, [25], []) := zz_fetch_of p82 rfl rfl
theorem s82_20 : zz_Run zz_prog d 82 (20, [l0, l1, l2, l3, l4, l5, l6], .int v :: st, k, h) = if v = 0 then zz_Run zz_prog d 82 (25, [l0, l1, l2, l3, l4, l5, l6], st, k, h) else zz_Run zz_prog d 82 (23, [l0, l1, l2, l3, l4, l5, l6], st, k, h) := zz_k_br (v = 0) rfl (zz_k_num f82_20 rfl)
theorem f82_23 : zz_fetch zz_prog 82 23 = some (.iload_n 3, 1, [], []) := zz_fetch_of p82 rfl rfl
theorem s82_23 : zz_Run zz_prog d 82 (23, [l0, l1, l2, some (.int v), l4, l5, l6], st, k, h) = zz_Run zz_prog d 82 (24, [l0, l1, l2, some (.int v), l4, l5, l6], .int v :: st, k, h) := zz_k_num f82_23 rfl
theorem f82_24 : zz_fetch zz_prog 82 24 = some (.ireturn, 1, [0], []) := zz_fetch_of p82 rfl rfl
theorem s82_24 : zz_Run zz_prog d 82 (24, [l0, l1, l2, l3, l4, l5, l6], [.int v], k, h) = some (.inl (some (.int v)), k, h) := zz_k_stop f82_24 rfl rfl rfl
theorem f82_25 : zz_fetch zz_prog 82 25 = some (.iload_n 3, 1, [], []) := zz_fetch_of p82 rfl rfl
theorem s82_25 : zz_Run zz_prog d 82 (25, [l0, l1, l2, some (.int v), l4, l5, l6], st, k, h) = zz_Run zz_prog d 82 (26, [l0, l1, l2, some (.int v), l4, l5, l6], .int v :: st, k, h) := zz_k_num f82_25 rfl
theorem f82_26 : zz_fetch zz_prog 82 26 = some (.istore 4, 2, [], []) := zz_fetch_of p82 rfl rfl
theorem s82_26 : zz_Run zz_prog d 82 (26, [l0, l1, l2, l3, l4, l5, l6], .int v :: st, k, h) = zz_sl l3 (zz_Run zz_prog d 82 (28, [l0, l1, l2, l3, some (.int v), l5, l6], st, k, h)) := zz_k_st (j := 4) (u := .int v) f82_26 rfl (fun q hq => by cases hq) rfl (show 4 < 7 by decide) (by cases l3 <;> rfl) rfl
theorem f82_28 : zz_fetch zz_prog 82 28 = some (.iconst 0, 1, [], []) := zz_fetch_of p82 rfl rfl
theorem s82_28 : zz_Run zz_prog d 82 (28, [l0, l1, l2, l3, l4, l5, l6], st, k, h) = zz_Run zz_prog d 82 (29, [l0, l1, l2, l3, l4, l5, l6], .int 0 :: st, k, h) := zz_k_num f82_28 rfl
theorem f82_29 : zz_fetch zz_prog 82 29 = some (.istore 5, 2, [], []) := zz_fetch_of p82 rfl rfl
theorem s82_29 : zz_Run zz_prog d 82 (29, [l0, l1, l2, l3, l4, l5, l6], .int v :: st, k, h) = zz_sl l4 (zz_Run zz_prog d 82 (31, [l0, l1, l2, l3, l4, some (.int v), l6], st, k, h)) := zz_k_st (j := 5) (u := .int v) f82_29 rfl (fun q hq => by cases hq) rfl (show 5 < 7 by decide) (by cases l4 <;> rfl) rfl
theorem f82_31 : zz_fetch zz_prog 82 31 = some (.iload 5, 2, [], []) := zz_fetch_of p82 rfl rfl
theorem s82_31 : zz_Run zz_prog d 82 (31, [l0, l1, l2, l3, l4, some (.int v), l6], st, k, h) = zz_Run zz_prog d 82 (33, [l0, l1, l2, l3, l4, some (.int v), l6], .int v :: st, k, h) := zz_k_num f82_31 rfl
theorem f82_33 : zz_fetch zz_prog 82 33 = some (.iconst 3, 1, [], []) := zz_fetch_of p82 rfl rfl
theorem s82_33 : zz_Run zz_prog d 82 (33, [l0, l1, l2, l3, l4, l5, l6], st, k, h) = zz_Run zz_prog d 82 (34, [l0, l1, l2, l3, l4, l5, l6], .int 3 :: st, k, h) := zz_k_num f82_33 rfl
theorem f82_34 : zz_fetch zz_prog 82 34 = some (.if_icmp .ge 75, 3, [109], []) := zz_fetch_of p82 rfl rfl
theorem s82_34 : zz_Run zz_prog d 82 (34, [l0, l1, l2, l3, l4, l5, l6], .int w :: .int v :: st, k, h) = if w ≤ v then zz_Run zz_prog d 82 (109, [l0, l1, l2, l3, l4, l5, l6], st, k, h) else zz_Run zz_prog d 82 (37, [l0, l1, l2, l3, l4, l5, l6], st, k, h) := zz_k_br (w ≤ v) rfl (zz_k_num f82_34 rfl)
theorem f82_37 : zz_fetch zz_prog 82 37 = some (.getstatic 288, 3, [4], []) := zz_fetch_of p82 rfl rfl
theorem s82_37 : zz_Run zz_prog d 82 (37, [l0, l1, l2, l3, l4, l5, l6], st, k, (zz_hp n I J ex)) = zz_Run zz_prog d 82 (40, [l0, l1, l2, l3, l4, l5, l6], .ref 4 :: st, k, (zz_hp n I J ex)) := zz_k_go f82_37 rfl rfl rfl
theorem f82_40 : zz_fetch zz_prog 82 40 = some (.iload_n 2, 1, [], []) := zz_fetch_of p82 rfl rfl
theorem s82_40 : zz_Run zz_prog d 82 (40, [l0, l1, some (.int v), l3, l4, l5, l6], st, k, h) = zz_Run zz_prog d 82 (41, [l0, l1, some (.int v), l3, l4, l5, l6], .int v :: st, k, h) := zz_k_num f82_40 rfl
theorem f82_41 : zz_fetch zz_prog 82 41 = some (.iconst 3, 1, [], []) := zz_fetch_of p82 rfl rfl
theorem s82_41 : zz_Run zz_prog d 82 (41, [l0, l1, l2, l3, l4, l5, l6], st, k, h) = zz_Run zz_prog d 82 (42, [l0, l1, l2, l3, l4, l5, l6], .int 3 :: st, k, h) := zz_k_num f82_41 rfl
theorem f82_42 : zz_fetch zz_prog 82 42 = some (.imul, 1, [], []) := zz_fetch_of p82 rfl rfl
theorem s82_42 : zz_Run zz_prog d 82 (42, [l0, l1, l2, l3, l4, l5, l6], .int w :: .int v :: st, k, h) = zz_Run zz_prog d 82 (43, [l0, l1, l2, l3, l4, l5, l6], .int (v * w) :: st, k, h) := zz_k_num f82_42 rfl
theorem f82_43 : zz_fetch zz_prog 82 43 = some (.iload 5, 2, [], []) := zz_fetch_of p82 rfl rfl
theorem s82_43 : zz_Run zz_prog d 82 (43, [l0, l1, l2, l3, l4, some (.int v), l6], st, k, h) = zz_Run zz_prog d 82 (45, [l0, l1, l2, l3, l4, some (.int v), l6], .int v :: st, k, h) := zz_k_num f82_43 rfl
theorem f82_45 : zz_fetch zz_prog 82 45 = some (.iadd, 1, [], []) := zz_fetch_of p82 rfl rfl
theorem s82_45 : zz_Run zz_prog d 82 (45, [l0, l1, l2, l3, l4, l5, l6], .int w :: .int v :: st, k, h) = zz_Run zz_prog d 82 (46, [l0, l1, l2, l3, l4, l5, l6], .int (v + w) :: st, k, h) := zz_k_num f82_45 rfl
theorem f82_46 : zz_fetch zz_prog 82 46 = some (.iaload, 1, [], []) := zz_fetch_of p82 rfl rfl
theorem s82_46 (ha : zz_isrd a = true) : zz_Run zz_prog d 82 (46, [l0, l1, l2, l3, l4, l5, l6], .int v :: .ref a :: st, k, (zz_hp n I J ex)) = zz_ck (zz_in v (zz_ary n a)) (zz_Run zz_prog d 82 (47, [l0, l1, l2, l3, l4, l5, l6], .int (I a v.toNatClampNeg) :: st, k, (zz_hp n I J ex))) := zz_k_iald f82_46 ha
theorem f82_47 : zz_fetch zz_prog 82 47 = some (.istore 6, 2, [], []) := zz_fetch_of p82 rfl rfl
theorem s82_47 : zz_Run zz_prog d 82 (47, [l0, l1, l2, l3, l4, l5, l6], .int v :: st, k, h) = zz_sl l5 (zz_Run zz_prog d 82 (49, [l0, l1, l2, l3, l4, l5, some (.int v)], st, k, h)) := zz_k_st (j := 6) (u := .int v) f82_47 rfl (fun q hq => by cases hq) rfl (show 6 < 7 by decide) (by cases l5 <;> rfl) rfl
theorem f82_49 : zz_fetch zz_prog 82 49 = some (.iload 6, 2, [], []) := zz_fetch_of p82 rfl rfl
theorem s82_49 : zz_Run zz_prog d 82 (49, [l0, l1, l2, l3, l4, l5, some (.int v)], st, k, h) = zz_Run zz_prog d 82 (51, [l0, l1, l2, l3, l4, l5, some (.int v)], .int v :: st, k, h) := zz_k_num f82_49 rfl
theorem f82_51 : zz_fetch zz_prog 82 51 = some (.iconst (-1), 1, [], []) := zz_fetch_of p82 rfl rfl
theorem s82_51 : zz_Run zz_prog d 82 (51, [l0, l1, l2, l3, l4, l5, l6], st, k, h) = zz_Run zz_prog d 82 (52, [l0, l1, l2, l3, l4, l5, l6], .int (-1) :: st, k, h) := zz_k_num f82_51 rfl
theorem f82_52 : zz_fetch zz_prog 82 52 = some (.if_icmp .eq 51, 3, [103], []) := zz_fetch_of p82 rfl rfl
theorem s82_52 : zz_Run zz_prog d 82 (52, [l0, l1, l2, l3, l4, l5, l6], .int w :: .int v :: st, k, h) = if v = w then zz_Run zz_prog d 82 (103, [l0, l1, l2, l3, l4, l5, l6], st, k, h) else zz_Run zz_prog d 82 (55, [l0, l1, l2, l3, l4, l5, l6], st, k, h) := zz_k_br (v = w) rfl (zz_k_num f82_52 rfl)
theorem f82_55 : zz_fetch zz_prog 82 55 = some (.aload_n 0, 1, [], []) := zz_fetch_of p82 rfl rfl
theorem s82_55 : zz_Run zz_prog d 82 (55, [some (.ref a), l1, l2, l3, l4, l5, l6], st, k, h) = zz_Run zz_prog d 82 (56, [some (.ref a), l1, l2, l3, l4, l5, l6], .ref a :: st, k, h) := zz_k_num f82_55 rfl
theorem f82_56 : zz_fetch zz_prog 82 56 = some (.getfield 230, 3, [0, 12, 3], []) := zz_fetch_of p82 rfl rfl
theorem s82_56 : zz_Run zz_prog d 82 (56, [l0, l1, l2, l3, l4, l5, l6], .ref 9 :: st, k, (zz_hp n I J ex)) = zz_Run zz_prog d 82 (59, [l0, l1, l2, l3, l4, l5, l6], .ref 10 :: st, k, (zz_hp n I J ex)) := zz_k_go f82_56 rfl rfl rfl
theorem s82_56b : zz_Run zz_prog d 82 (56, [l0, l1, l2, l3, l4, l5, l6], .ref 16 :: st, k, (zz_hp n I J ex)) = zz_Run zz_prog d 82 (59, [l0, l1, l2, l3, l4, l5, l6], .ref 17 :: st, k, (zz_hp n I J ex)) := zz_k_go f82_56 rfl rfl rfl
theorem f82_59 : zz_fetch zz_prog 82 59 = some (.iload 6, 2, [], []) := zz_fetch_of p82 rfl rfl
theorem s82_59 : zz_Run zz_prog d 82 (59, [l0, l1, l2, l3, l4, l5, some (.int v)], st, k, h) = zz_Run zz_prog d 82 (61, [l0, l1, l2, l3, l4, l5, some (.int v)], .int v :: st, k, h) := zz_k_num f82_59 rfl
theorem f82_61 : zz_fetch zz_prog 82 61 = some (.iaload, 1, [], []) := zz_fetch_of p82 rfl rfl
theorem s82_61 (ha : zz_isrd a = true) : zz_Run zz_prog d 82 (61, [l0, l1, l2, l3, l4, l5, l6], .int v :: .ref a :: st, k, (zz_hp n I J ex)) = zz_ck (zz_in v (zz_ary n a)) (zz_Run zz_prog d 82 (62, [l0, l1, l2, l3, l4, l5, l6], .int (I a v.toNatClampNeg) :: st, k, (zz_hp n I J ex))) := zz_k_iald f82_61 ha
theorem f82_62 : zz_fetch zz_prog 82 62 = some (.iload_n 1, 1, [], []) := zz_fetch_of p82 rfl rfl
theorem s82_62 : zz_Run zz_prog d 82 (62, [l0, some (.int v), l2, l3, l4, l5, l6], st, k, h) = zz_Run zz_prog d 82 (63, [l0, some (.int v), l2, l3, l4, l5, l6], .int v :: st, k, h) := zz_k_num f82_62 rfl
theorem f82_63 : zz_fetch zz_prog 82 63 = some (.if_icmp .ne 40, 3, [103], []) := zz_fetch_of p82 rfl rfl
theorem s82_63 : zz_Run zz_prog d 82 (63, [l0, l1, l2, l3, l4, l5, l6], .int w :: .int v :: st, k, h) = if ¬ v = w then zz_Run zz_prog d 82 (103, [l0, l1, l2, l3, l4, l5, l6], st, k, h) else zz_Run zz_prog d 82 (66, [l0, l1, l2, l3, l4, l5, l6], st, k, h) := zz_k_br (¬ v = w) rfl (zz_k_num f82_63 rfl)
theorem f82_66 : zz_fetch zz_prog 82 66 = some (.aload_n 0, 1, [], []) := zz_fetch_of p82 rfl rfl
theorem s82_66 : zz_Run zz_prog d 82 (66, [some (.ref a), l1, l2, l3, l4, l5, l6], st, k, h) = zz_Run zz_prog d 82 (67, [some (.ref a), l1, l2, l3, l4, l5, l6], .ref a :: st, k, h) := zz_k_num f82_66 rfl
theorem f82_67 : zz_fetch zz_prog 82 67 = some (.getfield 230, 3, [0, 12, 3], []) := zz_fetch_of p82 rfl rfl
theorem s82_67 : zz_Run zz_prog d 82 (67, [l0, l1, l2, l3, l4, l5, l6], .ref 9 :: st, k, (zz_hp n I J ex)) = zz_Run zz_prog d 82 (70, [l0, l1, l2, l3, l4, l5, l6], .ref 10 :: st, k, (zz_hp n I J ex)) := zz_k_go f82_67 rfl rfl rfl
theorem s82_67b : zz_Run zz_prog d 82 (67, [l0, l1, l2, l3, l4, l5, l6], .ref 16 :: st, k, (zz_hp n I J ex)) = zz_Run zz_prog d 82 (70, [l0, l1, l2, l3, l4, l5, l6], .ref 17 :: st, k, (zz_hp n I J ex)) := zz_k_go f82_67 rfl rfl rfl
theorem f82_70 : zz_fetch zz_prog 82 70 = some (.iload 6, 2, [], []) := zz_fetch_of p82 rfl rfl
theorem s82_70 : zz_Run zz_prog d 82 (70, [l0, l1, l2, l3, l4, l5, some (.int v)], st, k, h) = zz_Run zz_prog d 82 (72, [l0, l1, l2, l3, l4, l5, some (.int v)], .int v :: st, k, h) := zz_k_num f82_70 rfl
theorem f82_72 : zz_fetch zz_prog 82 72 = some (.iconst (-1), 1, [], []) := zz_fetch_of p82 rfl rfl
theorem s82_72 : zz_Run zz_prog d 82 (72, [l0, l1, l2, l3, l4, l5, l6], st, k, h) = zz_Run zz_prog d 82 (73, [l0, l1, l2, l3, l4, l5, l6], .int (-1) :: st, k, h) := zz_k_num f82_72 rfl
theorem f82_73 : zz_fetch zz_prog 82 73 = some (.iastore, 1, [], []) := zz_fetch_of p82 rfl rfl
theorem s82_73 (ha : zz_isar a = true) : zz_Run zz_prog d 82 (73, [l0, l1, l2, l3, l4, l5, l6], .int w :: .int v :: .ref a :: st, k, (zz_hp n I J ex)) = zz_ck (zz_in v (zz_ary n a)) (zz_Run zz_prog d 82 (74, [l0, l1, l2, l3, l4, l5, l6], st, false, (zz_hp n (zz_up I a v.toNatClampNeg w) J ex))) := zz_k_iast f82_73 ha
theorem f82_74 : zz_fetch zz_prog 82 74 = some (.iload 4, 2, [], []) := zz_fetch_of p82 rfl rfl
theorem s82_74 : zz_Run zz_prog d 82 (74, [l0, l1, l2, l3, some (.int v), l5, l6], st, k, h) = zz_Run zz_prog d 82 (76, [l0, l1, l2, l3, some (.int v), l5, l6], .int v :: st, k, h) := zz_k_num f82_74 rfl
theorem f82_76 : zz_fetch zz_prog 82 76 = some (.aload_n 0, 1, [], []) := zz_fetch_of p82 rfl rfl
theorem s82_76 : zz_Run zz_prog d 82 (76, [some (.ref a), l1, l2, l3, l4, l5, l6], st, k, h) = zz_Run zz_prog d 82 (77, [some (.ref a), l1, l2, l3, l4, l5, l6], .ref a :: st, k, h) := zz_k_num f82_76 rfl
theorem f82_77 : zz_fetch zz_prog 82 77 = some (.iload_n 1, 1, [], []) := zz_fetch_of p82 rfl rfl
theorem s82_77 : zz_Run zz_prog d 82 (77, [l0, some (.int v), l2, l3, l4, l5, l6], st, k, h) = zz_Run zz_prog d 82 (78, [l0, some (.int v), l2, l3, l4, l5, l6], .int v :: st, k, h) := zz_k_num f82_77 rfl
theorem f82_78 : zz_fetch zz_prog 82 78 = some (.iload 6, 2, [], []) := zz_fetch_of p82 rfl rfl
theorem s82_78 : zz_Run zz_prog d 82 (78, [l0, l1, l2, l3, l4, l5, some (.int v)], st, k, h) = zz_Run zz_prog d 82 (80, [l0, l1, l2, l3, l4, l5, some (.int v)], .int v :: st, k, h) := zz_k_num f82_78 rfl
theorem f82_80 : zz_fetch zz_prog 82 80 = some (.iload_n 2, 1, [], []) := zz_fetch_of p82 rfl rfl
theorem s82_80 : zz_Run zz_prog d 82 (80, [l0, l1, some (.int v), l3, l4, l5, l6], st, k, h) = zz_Run zz_prog d 82 (81, [l0, l1, some (.int v), l3, l4, l5, l6], .int v :: st, k, h) := zz_k_num f82_80 rfl
theorem f82_81 : zz_fetch zz_prog 82 81 = some (.invokestatic 294, 3, [0, 40, 2], []) := zz_fetch_of p82 rfl rfl
theorem s82_81 : zz_Run zz_prog d 82 (81, [l0, l1, l2, l3, l4, l5, l6], [b0, b1, b2, b3, b4], k, h) = zz_ret (zz_Call zz_prog d 40 [b1, b0] h) (fun v k' h' => zz_Run zz_prog d 82 (84, [l0, l1, l2, l3, l4, l5, l6], v.toList ++ [b2, b3, b4], k && k', h')) (fun a k' h' => zz_th d 82 81 a [l0, l1, l2, l3, l4, l5, l6] (k && k') h') := zz_k_call f82_81 rfl rfl rfl
theorem f82_84 : zz_fetch zz_prog 82 84 = some (.iload_n 3, 1, [], []) := zz_fetch_of p82 rfl rfl
theorem s82_84 : zz_Run zz_prog d 82 (84, [l0, l1, l2, some (.int v), l4, l5, l6], st, k, h) = zz_Run zz_prog d 82 (85, [l0, l1, l2, some (.int v), l4, l5, l6], .int v :: st, k, h) := zz_k_num f82_84 rfl
theorem f82_85 : zz_fetch zz_prog 82 85 = some (.iconst 1, 1, [], []) := zz_fetch_of p82 rfl rfl
theorem s82_85 : zz_Run zz_prog d 82 (85, [l0, l1, l2, l3, l4, l5, l6], st, k, h) = zz_Run zz_prog d 82 (86, [l0, l1, l2, l3, l4, l5, l6], .int 1 :: st, k, h) := zz_k_num f82_85 rfl
theorem f82_86 : zz_fetch zz_prog 82 86 = some (.iadd, 1, [], []) := zz_fetch_of p82 rfl rfl
theorem s82_86 : zz_Run zz_prog d 82 (86, [l0, l1, l2, l3, l4, l5, l6], .int w :: .int v :: st, k, h) = zz_Run zz_prog d 82 (87, [l0, l1, l2, l3, l4, l5, l6], .int (v + w) :: st, k, h) := zz_k_num f82_86 rfl
theorem f82_87 : zz_fetch zz_prog 82 87 = some (.invokestatic 339, 3, [0, 82, 4], []) := zz_fetch_of p82 rfl rfl
theorem s82_87 : zz_Run zz_prog d 82 (87, [l0, l1, l2, l3, l4, l5, l6], [b0, b1, b2, b3, b4], k, h) = zz_ret (zz_Call zz_prog d 82 [b3, b2, b1, b0] h) (fun v k' h' => zz_Run zz_prog d 82 (90, [l0, l1, l2, l3, l4, l5, l6], v.toList ++ [b4], k && k', h')) (fun a k' h' => zz_th d 82 87 a [l0, l1, l2, l3, l4, l5, l6] (k && k') h') := zz_k_call f82_87 rfl rfl rfl
theorem f82_90 : zz_fetch zz_prog 82 90 = some (.invokestatic 343, 3, [3], []) := zz_fetch_of p82 rfl rfl
theorem s82_90 : zz_Run zz_prog d 82 (90, [l0, l1, l2, l3, l4, l5, l6], [.int w, .int v], k, h) = zz_Run zz_prog d 82 (93, [l0, l1, l2, l3, l4, l5, l6], [.int (if v < w then w else v)], k, h) := zz_k_bi f82_90 rfl rfl rfl
theorem f82_93 : zz_fetch zz_prog 82 93 = some (.istore 4, 2, [], []) := zz_fetch_of p82 rfl rfl
theorem s82_93 : zz_Run zz_prog d 82 (93, [l0, l1, l2, l3, l4, l5, l6], .int v :: st, k, h) = zz_sl l3 (zz_Run zz_prog d 82 (95, [l0, l1, l2, l3, some (.int v), l5, l6], st, k, h)) := zz_k_st (j := 4) (u := .int v) f82_93 rfl (fun q hq => by cases hq) rfl (show 4 < 7 by decide) (by cases l3 <;> rfl) rfl
theorem f82_95 : zz_fetch zz_prog 82 95 = some (.aload_n 0, 1, [], []) := zz_fetch_of p82 rfl rfl
theorem s82_95 : zz_Run zz_prog d 82 (95, [some (.ref a), l1, l2, l3, l4, l5, l6], st, k, h) = zz_Run zz_prog d 82 (96, [some (.ref a), l1, l2, l3, l4, l5, l6], .ref a :: st, k, h) := zz_k_num f82_95 rfl
theorem f82_96 : zz_fetch zz_prog 82 96 = some (.getfield 230, 3, [0, 12, 3], []) := zz_fetch_of p82 rfl rfl
theorem s82_96 : zz_Run zz_prog d 82 (96, [l0, l1, l2, l3, l4, l5, l6], .ref 9 :: st, k, (zz_hp n I J ex)) = zz_Run zz_prog d 82 (99, [l0, l1, l2, l3, l4, l5, l6], .ref 10 :: st, k, (zz_hp n I J ex)) := zz_k_go f82_96 rfl rfl rfl
theorem s82_96b : zz_Run zz_prog d 82 (96, [l0, l1, l2, l3, l4, l5, l6], .ref 16 :: st, k, (zz_hp n I J ex)) = zz_Run zz_prog d 82 (99, [l0, l1, l2, l3, l4, l5, l6], .ref 17 :: st, k, (zz_hp n I J ex)) := zz_k_go f82_96 rfl rfl rfl
theorem f82_99 : zz_fetch zz_prog 82 99 = some (.iload 6, 2, [], []) := zz_fetch_of p82 rfl rfl
theorem s82_99 : zz_Run zz_prog d 82 (99, [l0, l1, l2, l3, l4, l5, some (.int v)], st, k, h) = zz_Run zz_prog d 82 (101, [l0, l1, l2, l3, l4, l5, some (.int v)], .int v :: st, k, h) := zz_k_num f82_99 rfl
theorem f82_101 : zz_fetch zz_prog 82 101 = some (.iload_n 1, 1, [], []) := zz_fetch_of p82 rfl rfl
theorem s82_101 : zz_Run zz_prog d 82 (101, [l0, some (.int v), l2, l3, l4, l5, l6], st, k, h) = zz_Run zz_prog d 82 (102, [l0, some (.int v), l2, l3, l4, l5, l6], .int v :: st, k, h) := zz_k_num f82_101 rfl
theorem f82_102 : zz_fetch zz_prog 82 102 = some (.iastore, 1, [], []) := zz_fetch_of p82 rfl rfl
theorem s82_102 (ha : zz_isar a = true) : zz_Run zz_prog d 82 (102, [l0, l1, l2, l3, l4, l5, l6], .int w :: .int v :: .ref a :: st, k, (zz_hp n I J ex)) = zz_ck (zz_in v (zz_ary n a)) (zz_Run zz_prog d 82 (103, [l0, l1, l2, l3, l4, l5, l6], st, false, (zz_hp n (zz_up I a v.toNatClampNeg w) J ex))) := zz_k_iast f82_102 ha
theorem f82_103 : zz_fetch zz_prog 82 103 = some (.iinc 5 1, 3, [], []) := zz_fetch_of p82 rfl rfl
theorem s82_103 : zz_Run zz_prog d 82 (103, [l0, l1, l2, l3, l4, some (.int v), l6], st, k, h) = zz_sl l4 (zz_Run zz_prog d 82 (106, [l0, l1, l2, l3, l4, some (.int (v + 1)), l6], st, k, h)) := zz_k_st (j := 5) (u := .int (v + 1)) f82_103 rfl (fun q hq => by cases hq) rfl (show 5 < 7 by decide) (by cases l4 <;> rfl) rfl
theorem f82_106 : zz_fetch zz_prog 82 106 = some (.goto (-75), 3, [31], []) := zz_fetch_of p82 rfl rfl
theorem s82_106 : zz_Run zz_prog d 82 (106, [l0, l1, l2, l3, l4, l5, l6], st, k, h) = zz_Run zz_prog d 82 (31, [l0, l1, l2, l3, l4, l5, l6], st, k, h) := zz_k_num f82_106 rfl
theorem f82_109 : zz_fetch zz_prog 82 109 = some (.iload 4, 2, [], []) := zz_fetch_of p82 rfl rfl
theorem s82_109 : zz_Run zz_prog d 82 (109, [l0, l1, l2, l3, some (.int v), l5, l6], st, k, h) = zz_Run zz_prog d 82 (111, [l0, l1, l2, l3, some (.int v), l5, l6], .int v :: st, k, h) := zz_k_num f82_109 rfl
theorem f82_111 : zz_fetch zz_prog 82 111 = some (.ireturn, 1, [0], []) := zz_fetch_of p82 rfl rfl
theorem s82_111 : zz_Run zz_prog d 82 (111, [l0, l1, l2, l3, l4, l5, l6], [.int v], k, h) = some (.inl (some (.int v)), k, h) := zz_k_stop f82_111 rfl rfl rfl
end S82
section S83
variable {d n j : Nat} {l0 l1 : Option Value} {st : List Value} {k : Bool} {h : zz_H} {v w v1 v2 : Int32} {y y1 : Int64} {a a1 a2 : Nat} {b0 b1 b2 b3 b4 b5 b6 b7 b8 : Value} {I : Nat → Nat → Int32} {J : Nat → Nat → Int64} {ex : List (Nat × Nat)}
theorem p83 : zz_prog 83 = some zz_m83 := rfl
theorem e83 (g0 : Int32) (g1 : Int32) : zz_Call zz_prog (d + 1) 83 [.int g0, .int g1] h = zz_Run zz_prog d 83 (0, [some (.int g0), some (.int g1)], [], true, h) := rfl
theorem t83 (pc : Nat) (L : List (Option Value)) : zz_th d 83 pc a L k h = some (.inr a, k, h) := zz_th_out p83 rfl
theorem f83_0 : zz_fetch zz_prog 83 0 = some (.iload_n 0, 1, [], []) := zz_fetch_of p83 rfl rfl
theorem s83_0 : zz_Run zz_prog d 83 (0, [some (.int v), l1], st, k, h) = zz_Run zz_prog d 83 (1, [some (.int v), l1], .int v :: st, k, h) := zz_k_num f83_0 rfl
theorem f83_1 : zz_fetch zz_prog 83 1 = some (.iconst (-1), 1, [], []) := zz_fetch_of p83 rfl rfl
theorem s83_1 : zz_Run zz_prog d 83 (1, [l0, l1], st, k, h) = zz_Run zz_prog d 83 (2, [l0, l1], .int (-1) :: st, k, h) := zz_k_num f83_1 rfl
theorem f83_2 : zz_fetch zz_prog 83 2 = some (.if_icmp .eq 20, 3, [22], []) := zz_fetch_of p83 rfl rfl
theorem s83_2 : zz_Run zz_prog d 83 (2, [l0, l1], .int w :: .int v :: st, k, h) = if v = w then zz_Run zz_prog d 83 (22, [l0, l1], st, k, h) else zz_Run zz_prog d 83 (5, [l0, l1], st, k, h) := zz_k_br (v = w) rfl (zz_k_num f83_2 rfl)
theorem f83_5 : zz_fetch zz_prog 83 5 = some (.iload_n 0, 1, [], []) := zz_fetch_of p83 rfl rfl
theorem s83_5 : zz_Run zz_prog d 83 (5, [some (.int v), l1], st, k, h) = zz_Run zz_prog d 83 (6, [some (.int v), l1], .int v :: st, k, h) := zz_k_num f83_5 rfl
theorem f83_6 : zz_fetch zz_prog 83 6 = some (.iload_n 1, 1, [], []) := zz_fetch_of p83 rfl rfl
theorem s83_6 : zz_Run zz_prog d 83 (6, [l0, some (.int v)], st, k, h) = zz_Run zz_prog d 83 (7, [l0, some (.int v)], .int v :: st, k, h) := zz_k_num f83_6 rfl
theorem f83_7 : zz_fetch zz_prog 83 7 = some (.if_icmp .eq 15, 3, [22], []) := zz_fetch_of p83 rfl rfl
theorem s83_7 : zz_Run zz_prog d 83 (7, [l0, l1], .int w :: .int v :: st, k, h) = if v = w then zz_Run zz_prog d 83 (22, [l0, l1], st, k, h) else zz_Run zz_prog d 83 (10, [l0, l1], st, k, h) := zz_k_br (v = w) rfl (zz_k_num f83_7 rfl)
theorem f83_10 : zz_fetch zz_prog 83 10 = some (.iload_n 0, 1, [], []) := zz_fetch_of p83 rfl rfl
theorem s83_10 : zz_Run zz_prog d 83 (10, [some (.int v), l1], st, k, h) = zz_Run zz_prog d 83 (11, [some (.int v), l1], .int v :: st, k, h) := zz_k_num f83_10 rfl
theorem f83_11 : zz_fetch zz_prog 83 11 = some (.iload_n 1, 1, [], []) := zz_fetch_of p83 rfl rfl
theorem s83_11 : zz_Run zz_prog d 83 (11, [l0, some (.int v)], st, k, h) = zz_Run zz_prog d 83 (12, [l0, some (.int v)], .int v :: st, k, h) := zz_k_num f83_11 rfl
theorem f83_12 : zz_fetch zz_prog 83 12 = some (.bipush 8, 2, [], []) := zz_fetch_of p83 rfl rfl
theorem s83_12 : zz_Run zz_prog d 83 (12, [l0, l1], st, k, h) = zz_Run zz_prog d 83 (14, [l0, l1], .int 8 :: st, k, h) := zz_k_num f83_12 (congrArg (fun u => some (14, [l0, l1], Value.int u :: st)) (by decide : (Int8.ofInt 8).toInt32 = 8))
theorem f83_14 : zz_fetch zz_prog 83 14 = some (.iadd, 1, [], []) := zz_fetch_of p83 rfl rfl
theorem s83_14 : zz_Run zz_prog d 83 (14, [l0, l1], .int w :: .int v :: st, k, h) = zz_Run zz_prog d 83 (15, [l0, l1], .int (v + w) :: st, k, h) := zz_k_num f83_14 rfl
theorem f83_15 : zz_fetch zz_prog 83 15 = some (.if_icmp .eq 7, 3, [22], []) := zz_fetch_of p83 rfl rfl
theorem s83_15 : zz_Run zz_prog d 83 (15, [l0, l1], .int w :: .int v :: st, k, h) = if v = w then zz_Run zz_prog d 83 (22, [l0, l1], st, k, h) else zz_Run zz_prog d 83 (18, [l0, l1], st, k, h) := zz_k_br (v = w) rfl (zz_k_num f83_15 rfl)
theorem f83_18 : zz_fetch zz_prog 83 18 = some (.iconst 1, 1, [], []) := zz_fetch_of p83 rfl rfl
theorem s83_18 : zz_Run zz_prog d 83 (18, [l0, l1], st, k, h) = zz_Run zz_prog d 83 (19, [l0, l1], .int 1 :: st, k, h) := zz_k_num f83_18 rfl
theorem f83_19 : zz_fetch zz_prog 83 19 = some (.goto 4, 3, [23], []) := zz_fetch_of p83 rfl rfl
theorem s83_19 : zz_Run zz_prog d 83 (19, [l0, l1], st, k, h) = zz_Run zz_prog d 83 (23, [l0, l1], st, k, h) := zz_k_num f83_19 rfl
theorem f83_22 : zz_fetch zz_prog 83 22 = some (.iconst 0, 1, [], []) := zz_fetch_of p83 rfl rfl
theorem s83_22 : zz_Run zz_prog d 83 (22, [l0, l1], st, k, h) = zz_Run zz_prog d 83 (23, [l0, l1], .int 0 :: st, k, h) := zz_k_num f83_22 rfl
theorem f83_23 : zz_fetch zz_prog 83 23 = some (.ireturn, 1, [1], []) := zz_fetch_of p83 rfl rfl
theorem s83_23 : zz_Run zz_prog d 83 (23, [l0, l1], [.int v], k, h) = zz_ck (decide (v = 0 ∨ v = 1)) (some (.inl (some (.int v)), k, h)) := zz_k_retz f83_23
end S83
section S84
variable {d n j : Nat} {l0 l1 l2 l3 l4 l5 : Option Value} {st : List Value} {k : Bool} {h : zz_H} {v w v1 v2 : Int32} {y y1 : Int64} {a a1 a2 : Nat} {b0 b1 b2 b3 b4 b5 b6 b7 b8 : Value} {I : Nat → Nat → Int32} {J : Nat → Nat → Int64} {ex : List (Nat × Nat)}
theorem p84 : zz_prog 84 = some zz_m84 := rfl
theorem e84 (g0 : Nat) : zz_Call zz_prog (d + 1) 84 [.ref g0] h = zz_Run zz_prog d 84 (0, [some (.ref g0), none, none, none, none, none], [], true, h) := rfl
theorem t84 (pc : Nat) (L : List (Option Value)) : zz_th d 84 pc a L k h = some (.inr a, k, h) := zz_th_out p84 rfl
theorem f84_0 : zz_fetch zz_prog 84 0 = some (.iconst 0, 1, [], []) := zz_fetch_of p84 rfl rfl
theorem s84_0 : zz_Run zz_prog d 84 (0, [l0, l1, l2, l3, l4, l5], st, k, h) = zz_Run zz_prog d 84 (1, [l0, l1, l2, l3, l4, l5], .int 0 :: st, k, h) := zz_k_num f84_0 rfl
theorem f84_1 : zz_fetch zz_prog 84 1 = some (.istore_n 1, 1, [], []) := zz_fetch_of p84 rfl rfl
theorem s84_1 : zz_Run zz_prog d 84 (1, [l0, l1, l2, l3, l4, l5], .int v :: st, k, h) = zz_sl l0 (zz_Run zz_prog d 84 (2, [l0, some (.int v), l2, l3, l4, l5], st, k, h)) := zz_k_st (j := 1) (u := .int v) f84_1 rfl (fun q hq => by cases hq) rfl (show 1 < 6 by decide) (by cases l0 <;> rfl) rfl
theorem f84_2 : zz_fetch zz_prog 84 2 = some (.iconst (-1), 1, [], []) := zz_fetch_of p84 rfl rfl
theorem s84_2 : zz_Run zz_prog d 84 (2, [l0, l1, l2, l3, l4, l5], st, k, h) = zz_Run zz_prog d 84 (3, [l0, l1, l2, l3, l4, l5], .int (-1) :: st, k, h) := zz_k_num f84_2 rfl
theorem f84_3 : zz_fetch zz_prog 84 3 = some (.istore_n 2, 1, [], []) := zz_fetch_of p84 rfl rfl
theorem s84_3 : zz_Run zz_prog d 84 (3, [l0, l1, l2, l3, l4, l5], .int v :: st, k, h) = zz_sl l1 (zz_Run zz_prog d 84 (4, [l0, l1, some (.int v), l3, l4, l5], st, k, h)) := zz_k_st (j := 2) (u := .int v) f84_3 rfl (fun q hq => by cases hq) rfl (show 2 < 6 by decide) (by cases l1 <;> rfl) rfl
theorem f84_4 : zz_fetch zz_prog 84 4 = some (.iconst 0, 1, [], []) := zz_fetch_of p84 rfl rfl
theorem s84_4 : zz_Run zz_prog d 84 (4, [l0, l1, l2, l3, l4, l5], st, k, h) = zz_Run zz_prog d 84 (5, [l0, l1, l2, l3, l4, l5], .int 0 :: st, k, h) := zz_k_num f84_4 rfl
theorem f84_5 : zz_fetch zz_prog 84 5 = some (.istore_n 3, 1, [], []) := zz_fetch_of p84 rfl rfl
theorem s84_5 : zz_Run zz_prog d 84 (5, [l0, l1, l2, l3, l4, l5], .int v :: st, k, h) = zz_sl l2 (zz_Run zz_prog d 84 (6, [l0, l1, l2, some (.int v), l4, l5], st, k, h)) := zz_k_st (j := 3) (u := .int v) f84_5 rfl (fun q hq => by cases hq) rfl (show 3 < 6 by decide) (by cases l2 <;> rfl) rfl
theorem f84_6 : zz_fetch zz_prog 84 6 = some (.iconst 0, 1, [], []) := zz_fetch_of p84 rfl rfl
theorem s84_6 : zz_Run zz_prog d 84 (6, [l0, l1, l2, l3, l4, l5], st, k, h) = zz_Run zz_prog d 84 (7, [l0, l1, l2, l3, l4, l5], .int 0 :: st, k, h) := zz_k_num f84_6 rfl
theorem f84_7 : zz_fetch zz_prog 84 7 = some (.istore 4, 2, [], []) := zz_fetch_of p84 rfl rfl
theorem s84_7 : zz_Run zz_prog d 84 (7, [l0, l1, l2, l3, l4, l5], .int v :: st, k, h) = zz_sl l3 (zz_Run zz_prog d 84 (9, [l0, l1, l2, l3, some (.int v), l5], st, k, h)) := zz_k_st (j := 4) (u := .int v) f84_7 rfl (fun q hq => by cases hq) rfl (show 4 < 6 by decide) (by cases l3 <;> rfl) rfl
theorem f84_9 : zz_fetch zz_prog 84 9 = some (.iload 4, 2, [], []) := zz_fetch_of p84 rfl rfl
theorem s84_9 : zz_Run zz_prog d 84 (9, [l0, l1, l2, l3, some (.int v), l5], st, k, h) = zz_Run zz_prog d 84 (11, [l0, l1, l2, l3, some (.int v), l5], .int v :: st, k, h) := zz_k_num f84_9 rfl
theorem f84_11 : zz_fetch zz_prog 84 11 = some (.aload_n 0, 1, [], []) := zz_fetch_of p84 rfl rfl
theorem s84_11 : zz_Run zz_prog d 84 (11, [some (.ref a), l1, l2, l3, l4, l5], st, k, h) = zz_Run zz_prog d 84 (12, [some (.ref a), l1, l2, l3, l4, l5], .ref a :: st, k, h) := zz_k_num f84_11 rfl
theorem f84_12 : zz_fetch zz_prog 84 12 = some (.getfield 73, 3, [1, 5, 0], []) := zz_fetch_of p84 rfl rfl
theorem s84_12 : zz_Run zz_prog d 84 (12, [l0, l1, l2, l3, l4, l5], .ref 5 :: st, k, (zz_hp n I J ex)) = zz_Run zz_prog d 84 (15, [l0, l1, l2, l3, l4, l5], .int (I 5 5) :: st, k, (zz_hp n I J ex)) := zz_k_go f84_12 rfl rfl rfl
theorem f84_15 : zz_fetch zz_prog 84 15 = some (.if_icmp .ge 80, 3, [95], []) := zz_fetch_of p84 rfl rfl
theorem s84_15 : zz_Run zz_prog d 84 (15, [l0, l1, l2, l3, l4, l5], .int w :: .int v :: st, k, h) = if w ≤ v then zz_Run zz_prog d 84 (95, [l0, l1, l2, l3, l4, l5], st, k, h) else zz_Run zz_prog d 84 (18, [l0, l1, l2, l3, l4, l5], st, k, h) := zz_k_br (w ≤ v) rfl (zz_k_num f84_15 rfl)
theorem f84_18 : zz_fetch zz_prog 84 18 = some (.aload_n 0, 1, [], []) := zz_fetch_of p84 rfl rfl
theorem s84_18 : zz_Run zz_prog d 84 (18, [some (.ref a), l1, l2, l3, l4, l5], st, k, h) = zz_Run zz_prog d 84 (19, [some (.ref a), l1, l2, l3, l4, l5], .ref a :: st, k, h) := zz_k_num f84_18 rfl
theorem f84_19 : zz_fetch zz_prog 84 19 = some (.iload 4, 2, [], []) := zz_fetch_of p84 rfl rfl
theorem s84_19 : zz_Run zz_prog d 84 (19, [l0, l1, l2, l3, some (.int v), l5], st, k, h) = zz_Run zz_prog d 84 (21, [l0, l1, l2, l3, some (.int v), l5], .int v :: st, k, h) := zz_k_num f84_19 rfl
theorem f84_21 : zz_fetch zz_prog 84 21 = some (.invokevirtual 224, 3, [0, 81, 2, 1], []) := zz_fetch_of p84 rfl rfl
theorem s84_21 : zz_Run zz_prog d 84 (21, [l0, l1, l2, l3, l4, l5], [b0, .ref 5], k, (zz_hp n I J ex)) = zz_ret (zz_Call zz_prog d 81 [.ref 5, b0] (zz_hp n I J ex)) (fun v k' h' => zz_Run zz_prog d 84 (24, [l0, l1, l2, l3, l4, l5], v.toList ++ [], k && k', h')) (fun a k' h' => zz_th d 84 21 a [l0, l1, l2, l3, l4, l5] (k && k') h') := zz_k_call f84_21 rfl rfl rfl
theorem f84_24 : zz_fetch zz_prog 84 24 = some (.istore 5, 2, [], []) := zz_fetch_of p84 rfl rfl
theorem s84_24 : zz_Run zz_prog d 84 (24, [l0, l1, l2, l3, l4, l5], .int v :: st, k, h) = zz_sl l4 (zz_Run zz_prog d 84 (26, [l0, l1, l2, l3, l4, some (.int v)], st, k, h)) := zz_k_st (j := 5) (u := .int v) f84_24 rfl (fun q hq => by cases hq) rfl (show 5 < 6 by decide) (by cases l4 <;> rfl) rfl
theorem f84_26 : zz_fetch zz_prog 84 26 = some (.iload 5, 2, [], []) := zz_fetch_of p84 rfl rfl
theorem s84_26 : zz_Run zz_prog d 84 (26, [l0, l1, l2, l3, l4, some (.int v)], st, k, h) = zz_Run zz_prog d 84 (28, [l0, l1, l2, l3, l4, some (.int v)], .int v :: st, k, h) := zz_k_num f84_26 rfl
theorem f84_28 : zz_fetch zz_prog 84 28 = some (.iload_n 1, 1, [], []) := zz_fetch_of p84 rfl rfl
theorem s84_28 : zz_Run zz_prog d 84 (28, [l0, some (.int v), l2, l3, l4, l5], st, k, h) = zz_Run zz_prog d 84 (29, [l0, some (.int v), l2, l3, l4, l5], .int v :: st, k, h) := zz_k_num f84_28 rfl
theorem f84_29 : zz_fetch zz_prog 84 29 = some (.if_icmp .le 30, 3, [59], []) := zz_fetch_of p84 rfl rfl
theorem s84_29 : zz_Run zz_prog d 84 (29, [l0, l1, l2, l3, l4, l5], .int w :: .int v :: st, k, h) = if v ≤ w then zz_Run zz_prog d 84 (59, [l0, l1, l2, l3, l4, l5], st, k, h) else zz_Run zz_prog d 84 (32, [l0, l1, l2, l3, l4, l5], st, k, h) := zz_k_br (v ≤ w) rfl (zz_k_num f84_29 rfl)
theorem f84_32 : zz_fetch zz_prog 84 32 = some (.iload 5, 2, [], []) := zz_fetch_of p84 rfl rfl
theorem s84_32 : zz_Run zz_prog d 84 (32, [l0, l1, l2, l3, l4, some (.int v)], st, k, h) = zz_Run zz_prog d 84 (34, [l0, l1, l2, l3, l4, some (.int v)], .int v :: st, k, h) := zz_k_num f84_32 rfl
theorem f84_34 : zz_fetch zz_prog 84 34 = some (.istore_n 1, 1, [], []) := zz_fetch_of p84 rfl rfl
theorem s84_34 : zz_Run zz_prog d 84 (34, [l0, l1, l2, l3, l4, l5], .int v :: st, k, h) = zz_sl l0 (zz_Run zz_prog d 84 (35, [l0, some (.int v), l2, l3, l4, l5], st, k, h)) := zz_k_st (j := 1) (u := .int v) f84_34 rfl (fun q hq => by cases hq) rfl (show 1 < 6 by decide) (by cases l0 <;> rfl) rfl
theorem f84_35 : zz_fetch zz_prog 84 35 = some (.iload 4, 2, [], []) := zz_fetch_of p84 rfl rfl
theorem s84_35 : zz_Run zz_prog d 84 (35, [l0, l1, l2, l3, some (.int v), l5], st, k, h) = zz_Run zz_prog d 84 (37, [l0, l1, l2, l3, some (.int v), l5], .int v :: st, k, h) := zz_k_num f84_35 rfl
theorem f84_37 : zz_fetch zz_prog 84 37 = some (.istore_n 2, 1, [], []) := zz_fetch_of p84 rfl rfl
theorem s84_37 : zz_Run zz_prog d 84 (37, [l0, l1, l2, l3, l4, l5], .int v :: st, k, h) = zz_sl l1 (zz_Run zz_prog d 84 (38, [l0, l1, some (.int v), l3, l4, l5], st, k, h)) := zz_k_st (j := 2) (u := .int v) f84_37 rfl (fun q hq => by cases hq) rfl (show 2 < 6 by decide) (by cases l1 <;> rfl) rfl
theorem f84_38 : zz_fetch zz_prog 84 38 = some (.iload 4, 2, [], []) := zz_fetch_of p84 rfl rfl
theorem s84_38 : zz_Run zz_prog d 84 (38, [l0, l1, l2, l3, some (.int v), l5], st, k, h) = zz_Run zz_prog d 84 (40, [l0, l1, l2, l3, some (.int v), l5], .int v :: st, k, h) := zz_k_num f84_38 rfl
theorem f84_40 : zz_fetch zz_prog 84 40 = some (.aload_n 0, 1, [], []) := zz_fetch_of p84 rfl rfl
theorem s84_40 : zz_Run zz_prog d 84 (40, [some (.ref a), l1, l2, l3, l4, l5], st, k, h) = zz_Run zz_prog d 84 (41, [some (.ref a), l1, l2, l3, l4, l5], .ref a :: st, k, h) := zz_k_num f84_40 rfl
theorem f84_41 : zz_fetch zz_prog 84 41 = some (.getfield 28, 3, [1, 7, 3], []) := zz_fetch_of p84 rfl rfl
theorem s84_41 : zz_Run zz_prog d 84 (41, [l0, l1, l2, l3, l4, l5], .ref 5 :: st, k, (zz_hp n I J ex)) = zz_Run zz_prog d 84 (44, [l0, l1, l2, l3, l4, l5], .ref 9 :: st, k, (zz_hp n I J ex)) := zz_k_go f84_41 rfl rfl rfl
theorem f84_44 : zz_fetch zz_prog 84 44 = some (.getfield 227, 3, [0, 10, 0], []) := zz_fetch_of p84 rfl rfl
theorem s84_44 : zz_Run zz_prog d 84 (44, [l0, l1, l2, l3, l4, l5], .ref 9 :: st, k, (zz_hp n I J ex)) = zz_Run zz_prog d 84 (47, [l0, l1, l2, l3, l4, l5], .int (I 9 10) :: st, k, (zz_hp n I J ex)) := zz_k_go f84_44 rfl rfl rfl
theorem s84_44b : zz_Run zz_prog d 84 (44, [l0, l1, l2, l3, l4, l5], .ref 16 :: st, k, (zz_hp n I J ex)) = zz_Run zz_prog d 84 (47, [l0, l1, l2, l3, l4, l5], .int (I 16 10) :: st, k, (zz_hp n I J ex)) := zz_k_go f84_44 rfl rfl rfl
theorem f84_47 : zz_fetch zz_prog 84 47 = some (.if_icmp .ne 7, 3, [54], []) := zz_fetch_of p84 rfl rfl
theorem s84_47 : zz_Run zz_prog d 84 (47, [l0, l1, l2, l3, l4, l5], .int w :: .int v :: st, k, h) = if ¬ v = w then zz_Run zz_prog d 84 (54, [l0, l1, l2, l3, l4, l5], st, k, h) else zz_Run zz_prog d 84 (50, [l0, l1, l2, l3, l4, l5], st, k, h) := zz_k_br (¬ v = w) rfl (zz_k_num f84_47 rfl)
theorem f84_50 : zz_fetch zz_prog 84 50 = some (.iconst 1, 1, [], []) := zz_fetch_of p84 rfl rfl
theorem s84_50 : zz_Run zz_prog d 84 (50, [l0, l1, l2, l3, l4, l5], st, k, h) = zz_Run zz_prog d 84 (51, [l0, l1, l2, l3, l4, l5], .int 1 :: st, k, h) := zz_k_num f84_50 rfl
theorem f84_51 : zz_fetch zz_prog 84 51 = some (.goto 4, 3, [55], []) := zz_fetch_of p84 rfl rfl
theorem s84_51 : zz_Run zz_prog d 84 (51, [l0, l1, l2, l3, l4, l5], st, k, h) = zz_Run zz_prog d 84 (55, [l0, l1, l2, l3, l4, l5], st, k, h) := zz_k_num f84_51 rfl
theorem f84_54 : zz_fetch zz_prog 84 54 = some (.iconst 0, 1, [], []) := zz_fetch_of p84 rfl rfl
theorem s84_54 : zz_Run zz_prog d 84 (54, [l0, l1, l2, l3, l4, l5], st, k, h) = zz_Run zz_prog d 84 (55, [l0, l1, l2, l3, l4, l5], .int 0 :: st, k, h) := zz_k_num f84_54 rfl
theorem f84_55 : zz_fetch zz_prog 84 55 = some (.istore_n 3, 1, [], []) := zz_fetch_of p84 rfl rfl
theorem s84_55 : zz_Run zz_prog d 84 (55, [l0, l1, l2, l3, l4, l5], .int v :: st, k, h) = zz_sl l2 (zz_Run zz_prog d 84 (56, [l0, l1, l2, some (.int v), l4, l5], st, k, h)) := zz_k_st (j := 3) (u := .int v) f84_55 rfl (fun q hq => by cases hq) rfl (show 3 < 6 by decide) (by cases l2 <;> rfl) rfl
theorem f84_56 : zz_fetch zz_prog 84 56 = some (.goto 33, 3, [89], []) := zz_fetch_of p84 rfl rfl
theorem s84_56 : zz_Run zz_prog d 84 (56, [l0, l1, l2, l3, l4, l5], st, k, h) = zz_Run zz_prog d 84 (89, [l0, l1, l2, l3, l4, l5], st, k, h) := zz_k_num f84_56 rfl
theorem f84_59 : zz_fetch zz_prog 84 59 = some (.iload 5, 2, [], []) := zz_fetch_of p84 rfl rfl
theorem s84_59 : zz_Run zz_prog d 84 (59, [l0, l1, l2, l3, l4, some (.int v)], st, k, h) = zz_Run zz_prog d 84 (61, [l0, l1, l2, l3, l4, some (.int v)], .int v :: st, k, h) := zz_k_num f84_59 rfl
theorem f84_61 : zz_fetch zz_prog 84 61 = some (.iload_n 1, 1, [], []) := zz_fetch_of p84 rfl rfl
theorem s84_61 : zz_Run zz_prog d 84 (61, [l0, some (.int v), l2, l3, l4, l5], st, k, h) = zz_Run zz_prog d 84 (62, [l0, some (.int v), l2, l3, l4, l5], .int v :: st, k, h) := zz_k_num f84_61 rfl
theorem f84_62 : zz_fetch zz_prog 84 62 = some (.if_icmp .ne 27, 3, [89], []) := zz_fetch_of p84 rfl rfl
theorem s84_62 : zz_Run zz_prog d 84 (62, [l0, l1, l2, l3, l4, l5], .int w :: .int v :: st, k, h) = if ¬ v = w then zz_Run zz_prog d 84 (89, [l0, l1, l2, l3, l4, l5], st, k, h) else zz_Run zz_prog d 84 (65, [l0, l1, l2, l3, l4, l5], st, k, h) := zz_k_br (¬ v = w) rfl (zz_k_num f84_62 rfl)
theorem f84_65 : zz_fetch zz_prog 84 65 = some (.iconst (-1), 1, [], []) := zz_fetch_of p84 rfl rfl
theorem s84_65 : zz_Run zz_prog d 84 (65, [l0, l1, l2, l3, l4, l5], st, k, h) = zz_Run zz_prog d 84 (66, [l0, l1, l2, l3, l4, l5], .int (-1) :: st, k, h) := zz_k_num f84_65 rfl
theorem f84_66 : zz_fetch zz_prog 84 66 = some (.istore_n 2, 1, [], []) := zz_fetch_of p84 rfl rfl
theorem s84_66 : zz_Run zz_prog d 84 (66, [l0, l1, l2, l3, l4, l5], .int v :: st, k, h) = zz_sl l1 (zz_Run zz_prog d 84 (67, [l0, l1, some (.int v), l3, l4, l5], st, k, h)) := zz_k_st (j := 2) (u := .int v) f84_66 rfl (fun q hq => by cases hq) rfl (show 2 < 6 by decide) (by cases l1 <;> rfl) rfl
theorem f84_67 : zz_fetch zz_prog 84 67 = some (.iload_n 3, 1, [], []) := zz_fetch_of p84 rfl rfl
theorem s84_67 : zz_Run zz_prog d 84 (67, [l0, l1, l2, some (.int v), l4, l5], st, k, h) = zz_Run zz_prog d 84 (68, [l0, l1, l2, some (.int v), l4, l5], .int v :: st, k, h) := zz_k_num f84_67 rfl
theorem f84_68 : zz_fetch zz_prog 84 68 = some (.ifCond .ne 15, 3, [83], []) := zz_fetch_of p84 rfl rfl
theorem s84_68 : zz_Run zz_prog d 84 (68, [l0, l1, l2, l3, l4, l5], .int v :: st, k, h) = if ¬ v = 0 then zz_Run zz_prog d 84 (83, [l0, l1, l2, l3, l4, l5], st, k, h) else zz_Run zz_prog d 84 (71, [l0, l1, l2, l3, l4, l5], st, k, h) := zz_k_br (¬ v = 0) rfl (zz_k_num f84_68 rfl)
theorem f84_71 : zz_fetch zz_prog 84 71 = some (.iload 4, 2, [], []) := zz_fetch_of p84 rfl rfl
theorem s84_71 : zz_Run zz_prog d 84 (71, [l0, l1, l2, l3, some (.int v), l5], st, k, h) = zz_Run zz_prog d 84 (73, [l0, l1, l2, l3, some (.int v), l5], .int v :: st, k, h) := zz_k_num f84_71 rfl
theorem f84_73 : zz_fetch zz_prog 84 73 = some (.aload_n 0, 1, [], []) := zz_fetch_of p84 rfl rfl
theorem s84_73 : zz_Run zz_prog d 84 (73, [some (.ref a), l1, l2, l3, l4, l5], st, k, h) = zz_Run zz_prog d 84 (74, [some (.ref a), l1, l2, l3, l4, l5], .ref a :: st, k, h) := zz_k_num f84_73 rfl
theorem f84_74 : zz_fetch zz_prog 84 74 = some (.getfield 28, 3, [1, 7, 3], []) := zz_fetch_of p84 rfl rfl
theorem s84_74 : zz_Run zz_prog d 84 (74, [l0, l1, l2, l3, l4, l5], .ref 5 :: st, k, (zz_hp n I J ex)) = zz_Run zz_prog d 84 (77, [l0, l1, l2, l3, l4, l5], .ref 9 :: st, k, (zz_hp n I J ex)) := zz_k_go f84_74 rfl rfl rfl
theorem f84_77 : zz_fetch zz_prog 84 77 = some (.getfield 227, 3, [0, 10, 0], []) := zz_fetch_of p84 rfl rfl
theorem s84_77 : zz_Run zz_prog d 84 (77, [l0, l1, l2, l3, l4, l5], .ref 9 :: st, k, (zz_hp n I J ex)) = zz_Run zz_prog d 84 (80, [l0, l1, l2, l3, l4, l5], .int (I 9 10) :: st, k, (zz_hp n I J ex)) := zz_k_go f84_77 rfl rfl rfl
theorem s84_77b : zz_Run zz_prog d 84 (77, [l0, l1, l2, l3, l4, l5], .ref 16 :: st, k, (zz_hp n I J ex)) = zz_Run zz_prog d 84 (80, [l0, l1, l2, l3, l4, l5], .int (I 16 10) :: st, k, (zz_hp n I J ex)) := zz_k_go f84_77 rfl rfl rfl
theorem f84_80 : zz_fetch zz_prog 84 80 = some (.if_icmp .ne 7, 3, [87], []) := zz_fetch_of p84 rfl rfl
theorem s84_80 : zz_Run zz_prog d 84 (80, [l0, l1, l2, l3, l4, l5], .int w :: .int v :: st, k, h) = if ¬ v = w then zz_Run zz_prog d 84 (87, [l0, l1, l2, l3, l4, l5], st, k, h) else zz_Run zz_prog d 84 (83, [l0, l1, l2, l3, l4, l5], st, k, h) := zz_k_br (¬ v = w) rfl (zz_k_num f84_80 rfl)
theorem f84_83 : zz_fetch zz_prog 84 83 = some (.iconst 1, 1, [], []) := zz_fetch_of p84 rfl rfl
theorem s84_83 : zz_Run zz_prog d 84 (83, [l0, l1, l2, l3, l4, l5], st, k, h) = zz_Run zz_prog d 84 (84, [l0, l1, l2, l3, l4, l5], .int 1 :: st, k, h) := zz_k_num f84_83 rfl
theorem f84_84 : zz_fetch zz_prog 84 84 = some (.goto 4, 3, [88], []) := zz_fetch_of p84 rfl rfl
theorem s84_84 : zz_Run zz_prog d 84 (84, [l0, l1, l2, l3, l4, l5], st, k, h) = zz_Run zz_prog d 84 (88, [l0, l1, l2, l3, l4, l5], st, k, h) := zz_k_num f84_84 rfl
theorem f84_87 : zz_fetch zz_prog 84 87 = some (.iconst 0, 1, [], []) := zz_fetch_of p84 rfl rfl
theorem s84_87 : zz_Run zz_prog d 84 (87, [l0, l1, l2, l3, l4, l5], st, k, h) = zz_Run zz_prog d 84 (88, [l0, l1, l2, l3, l4, l5], .int 0 :: st, k, h) := zz_k_num f84_87 rfl
theorem f84_88 : zz_fetch zz_prog 84 88 = some (.istore_n 3, 1, [], []) := zz_fetch_of p84 rfl rfl
theorem s84_88 : zz_Run zz_prog d 84 (88, [l0, l1, l2, l3, l4, l5], .int v :: st, k, h) = zz_sl l2 (zz_Run zz_prog d 84 (89, [l0, l1, l2, some (.int v), l4, l5], st, k, h)) := zz_k_st (j := 3) (u := .int v) f84_88 rfl (fun q hq => by cases hq) rfl (show 3 < 6 by decide) (by cases l2 <;> rfl) rfl
theorem f84_89 : zz_fetch zz_prog 84 89 = some (.iinc 4 1, 3, [], []) := zz_fetch_of p84 rfl rfl
theorem s84_89 : zz_Run zz_prog d 84 (89, [l0, l1, l2, l3, some (.int v), l5], st, k, h) = zz_sl l3 (zz_Run zz_prog d 84 (92, [l0, l1, l2, l3, some (.int (v + 1)), l5], st, k, h)) := zz_k_st (j := 4) (u := .int (v + 1)) f84_89 rfl (fun q hq => by cases hq) rfl (show 4 < 6 by decide) (by cases l3 <;> rfl) rfl
theorem f84_92 : zz_fetch zz_prog 84 92 = some (.goto (-83), 3, [9], []) := zz_fetch_of p84 rfl rfl
theorem s84_92 : zz_Run zz_prog d 84 (92, [l0, l1, l2, l3, l4, l5], st, k, h) = zz_Run zz_prog d 84 (9, [l0, l1, l2, l3, l4, l5], st, k, h) := zz_k_num f84_92 rfl
theorem f84_95 : zz_fetch zz_prog 84 95 = some (.iload_n 1, 1, [], []) := zz_fetch_of p84 rfl rfl
theorem s84_95 : zz_Run zz_prog d 84 (95, [l0, some (.int v), l2, l3, l4, l5], st, k, h) = zz_Run zz_prog d 84 (96, [l0, some (.int v), l2, l3, l4, l5], .int v :: st, k, h) := zz_k_num f84_95 rfl
theorem f84_96 : zz_fetch zz_prog 84 96 = some (.iconst 5, 1, [], []) := zz_fetch_of p84 rfl rfl
theorem s84_96 : zz_Run zz_prog d 84 (96, [l0, l1, l2, l3, l4, l5], st, k, h) = zz_Run zz_prog d 84 (97, [l0, l1, l2, l3, l4, l5], .int 5 :: st, k, h) := zz_k_num f84_96 rfl
theorem f84_97 : zz_fetch zz_prog 84 97 = some (.if_icmp .ge 14, 3, [111], []) := zz_fetch_of p84 rfl rfl
theorem s84_97 : zz_Run zz_prog d 84 (97, [l0, l1, l2, l3, l4, l5], .int w :: .int v :: st, k, h) = if w ≤ v then zz_Run zz_prog d 84 (111, [l0, l1, l2, l3, l4, l5], st, k, h) else zz_Run zz_prog d 84 (100, [l0, l1, l2, l3, l4, l5], st, k, h) := zz_k_br (w ≤ v) rfl (zz_k_num f84_97 rfl)
theorem f84_100 : zz_fetch zz_prog 84 100 = some (.aload_n 0, 1, [], []) := zz_fetch_of p84 rfl rfl
theorem s84_100 : zz_Run zz_prog d 84 (100, [some (.ref a), l1, l2, l3, l4, l5], st, k, h) = zz_Run zz_prog d 84 (101, [some (.ref a), l1, l2, l3, l4, l5], .ref a :: st, k, h) := zz_k_num f84_100 rfl
theorem f84_101 : zz_fetch zz_prog 84 101 = some (.getfield 28, 3, [1, 7, 3], []) := zz_fetch_of p84 rfl rfl
theorem s84_101 : zz_Run zz_prog d 84 (101, [l0, l1, l2, l3, l4, l5], .ref 5 :: st, k, (zz_hp n I J ex)) = zz_Run zz_prog d 84 (104, [l0, l1, l2, l3, l4, l5], .ref 9 :: st, k, (zz_hp n I J ex)) := zz_k_go f84_101 rfl rfl rfl
theorem f84_104 : zz_fetch zz_prog 84 104 = some (.iconst (-1), 1, [], []) := zz_fetch_of p84 rfl rfl
theorem s84_104 : zz_Run zz_prog d 84 (104, [l0, l1, l2, l3, l4, l5], st, k, h) = zz_Run zz_prog d 84 (105, [l0, l1, l2, l3, l4, l5], .int (-1) :: st, k, h) := zz_k_num f84_104 rfl
theorem f84_105 : zz_fetch zz_prog 84 105 = some (.putfield 227, 3, [0, 10, 0], []) := zz_fetch_of p84 rfl rfl
theorem s84_105 : zz_Run zz_prog d 84 (105, [l0, l1, l2, l3, l4, l5], .int v :: .ref 9 :: st, k, (zz_hp n I J ex)) = zz_Run zz_prog d 84 (108, [l0, l1, l2, l3, l4, l5], st, false, (zz_hp n (zz_up I 9 10 v) J ex)) := zz_k_go f84_105 rfl rfl rfl
theorem s84_105b : zz_Run zz_prog d 84 (105, [l0, l1, l2, l3, l4, l5], .int v :: .ref 16 :: st, k, (zz_hp n I J ex)) = zz_Run zz_prog d 84 (108, [l0, l1, l2, l3, l4, l5], st, false, (zz_hp n (zz_up I 16 10 v) J ex)) := zz_k_go f84_105 rfl rfl rfl
theorem f84_108 : zz_fetch zz_prog 84 108 = some (.goto 15, 3, [123], []) := zz_fetch_of p84 rfl rfl
theorem s84_108 : zz_Run zz_prog d 84 (108, [l0, l1, l2, l3, l4, l5], st, k, h) = zz_Run zz_prog d 84 (123, [l0, l1, l2, l3, l4, l5], st, k, h) := zz_k_num f84_108 rfl
theorem f84_111 : zz_fetch zz_prog 84 111 = some (.iload_n 3, 1, [], []) := zz_fetch_of p84 rfl rfl
theorem s84_111 : zz_Run zz_prog d 84 (111, [l0, l1, l2, some (.int v), l4, l5], st, k, h) = zz_Run zz_prog d 84 (112, [l0, l1, l2, some (.int v), l4, l5], .int v :: st, k, h) := zz_k_num f84_111 rfl
theorem f84_112 : zz_fetch zz_prog 84 112 = some (.ifCond .ne 11, 3, [123], []) := zz_fetch_of p84 rfl rfl
theorem s84_112 : zz_Run zz_prog d 84 (112, [l0, l1, l2, l3, l4, l5], .int v :: st, k, h) = if ¬ v = 0 then zz_Run zz_prog d 84 (123, [l0, l1, l2, l3, l4, l5], st, k, h) else zz_Run zz_prog d 84 (115, [l0, l1, l2, l3, l4, l5], st, k, h) := zz_k_br (¬ v = 0) rfl (zz_k_num f84_112 rfl)
theorem f84_115 : zz_fetch zz_prog 84 115 = some (.aload_n 0, 1, [], []) := zz_fetch_of p84 rfl rfl
theorem s84_115 : zz_Run zz_prog d 84 (115, [some (.ref a), l1, l2, l3, l4, l5], st, k, h) = zz_Run zz_prog d 84 (116, [some (.ref a), l1, l2, l3, l4, l5], .ref a :: st, k, h) := zz_k_num f84_115 rfl
theorem f84_116 : zz_fetch zz_prog 84 116 = some (.getfield 28, 3, [1, 7, 3], []) := zz_fetch_of p84 rfl rfl
theorem s84_116 : zz_Run zz_prog d 84 (116, [l0, l1, l2, l3, l4, l5], .ref 5 :: st, k, (zz_hp n I J ex)) = zz_Run zz_prog d 84 (119, [l0, l1, l2, l3, l4, l5], .ref 9 :: st, k, (zz_hp n I J ex)) := zz_k_go f84_116 rfl rfl rfl
theorem f84_119 : zz_fetch zz_prog 84 119 = some (.iload_n 2, 1, [], []) := zz_fetch_of p84 rfl rfl
theorem s84_119 : zz_Run zz_prog d 84 (119, [l0, l1, some (.int v), l3, l4, l5], st, k, h) = zz_Run zz_prog d 84 (120, [l0, l1, some (.int v), l3, l4, l5], .int v :: st, k, h) := zz_k_num f84_119 rfl
theorem f84_120 : zz_fetch zz_prog 84 120 = some (.putfield 227, 3, [0, 10, 0], []) := zz_fetch_of p84 rfl rfl
theorem s84_120 : zz_Run zz_prog d 84 (120, [l0, l1, l2, l3, l4, l5], .int v :: .ref 9 :: st, k, (zz_hp n I J ex)) = zz_Run zz_prog d 84 (123, [l0, l1, l2, l3, l4, l5], st, false, (zz_hp n (zz_up I 9 10 v) J ex)) := zz_k_go f84_120 rfl rfl rfl
theorem s84_120b : zz_Run zz_prog d 84 (120, [l0, l1, l2, l3, l4, l5], .int v :: .ref 16 :: st, k, (zz_hp n I J ex)) = zz_Run zz_prog d 84 (123, [l0, l1, l2, l3, l4, l5], st, false, (zz_hp n (zz_up I 16 10 v) J ex)) := zz_k_go f84_120 rfl rfl rfl
theorem f84_123 : zz_fetch zz_prog 84 123 = some (.return_, 1, [], []) := zz_fetch_of p84 rfl rfl
theorem s84_123 : zz_Run zz_prog d 84 (123, [l0, l1, l2, l3, l4, l5], [], k, h) = some (.inl none, k, h) := zz_k_stop f84_123 rfl rfl rfl
end S84
section S85
variable {d n j : Nat} {l0 : Option Value} {st : List Value} {k : Bool} {h : zz_H} {v w v1 v2 : Int32} {y y1 : Int64} {a a1 a2 : Nat} {b0 b1 b2 b3 b4 b5 b6 b7 b8 : Value} {I : Nat → Nat → Int32} {J : Nat → Nat → Int64} {ex : List (Nat × Nat)}
theorem p85 : zz_prog 85 = some zz_m85 := rfl
theorem e85 (g0 : Nat) : zz_Call zz_prog (d + 1) 85 [.ref g0] h = zz_Run zz_prog d 85 (0, [some (.ref g0)], [], true, h) := rfl
theorem t85 (pc : Nat) (L : List (Option Value)) : zz_th d 85 pc a L k h = some (.inr a, k, h) := zz_th_out p85 rfl
theorem f85_0 : zz_fetch zz_prog 85 0 = some (.aload_n 0, 1, [], []) := zz_fetch_of p85 rfl rfl
theorem s85_0 : zz_Run zz_prog d 85 (0, [some (.ref a)], st, k, h) = zz_Run zz_prog d 85 (1, [some (.ref a)], .ref a :: st, k, h) := zz_k_num f85_0 rfl
theorem f85_1 : zz_fetch zz_prog 85 1 = some (.getfield 28, 3, [1, 7, 3], []) := zz_fetch_of p85 rfl rfl
theorem s85_1 : zz_Run zz_prog d 85 (1, [l0], .ref 5 :: st, k, (zz_hp n I J ex)) = zz_Run zz_prog d 85 (4, [l0], .ref 9 :: st, k, (zz_hp n I J ex)) := zz_k_go f85_1 rfl rfl rfl
theorem f85_4 : zz_fetch zz_prog 85 4 = some (.aload_n 0, 1, [], []) := zz_fetch_of p85 rfl rfl
theorem s85_4 : zz_Run zz_prog d 85 (4, [some (.ref a)], st, k, h) = zz_Run zz_prog d 85 (5, [some (.ref a)], .ref a :: st, k, h) := zz_k_num f85_4 rfl
theorem f85_5 : zz_fetch zz_prog 85 5 = some (.getfield 28, 3, [1, 7, 3], []) := zz_fetch_of p85 rfl rfl
theorem s85_5 : zz_Run zz_prog d 85 (5, [l0], .ref 5 :: st, k, (zz_hp n I J ex)) = zz_Run zz_prog d 85 (8, [l0], .ref 9 :: st, k, (zz_hp n I J ex)) := zz_k_go f85_5 rfl rfl rfl
theorem f85_8 : zz_fetch zz_prog 85 8 = some (.getfield 86, 3, [0, 1, 0], []) := zz_fetch_of p85 rfl rfl
theorem s85_8 : zz_Run zz_prog d 85 (8, [l0], .ref 9 :: st, k, (zz_hp n I J ex)) = zz_Run zz_prog d 85 (11, [l0], .int (I 9 1) :: st, k, (zz_hp n I J ex)) := zz_k_go f85_8 rfl rfl rfl
theorem s85_8b : zz_Run zz_prog d 85 (8, [l0], .ref 16 :: st, k, (zz_hp n I J ex)) = zz_Run zz_prog d 85 (11, [l0], .int (I 16 1) :: st, k, (zz_hp n I J ex)) := zz_k_go f85_8 rfl rfl rfl
theorem f85_11 : zz_fetch zz_prog 85 11 = some (.iconst 1, 1, [], []) := zz_fetch_of p85 rfl rfl
theorem s85_11 : zz_Run zz_prog d 85 (11, [l0], st, k, h) = zz_Run zz_prog d 85 (12, [l0], .int 1 :: st, k, h) := zz_k_num f85_11 rfl
theorem f85_12 : zz_fetch zz_prog 85 12 = some (.iadd, 1, [], []) := zz_fetch_of p85 rfl rfl
theorem s85_12 : zz_Run zz_prog d 85 (12, [l0], .int w :: .int v :: st, k, h) = zz_Run zz_prog d 85 (13, [l0], .int (v + w) :: st, k, h) := zz_k_num f85_12 rfl
theorem f85_13 : zz_fetch zz_prog 85 13 = some (.aload_n 0, 1, [], []) := zz_fetch_of p85 rfl rfl
theorem s85_13 : zz_Run zz_prog d 85 (13, [some (.ref a)], st, k, h) = zz_Run zz_prog d 85 (14, [some (.ref a)], .ref a :: st, k, h) := zz_k_num f85_13 rfl
theorem f85_14 : zz_fetch zz_prog 85 14 = some (.getfield 73, 3, [1, 5, 0], []) := zz_fetch_of p85 rfl rfl
theorem s85_14 : zz_Run zz_prog d 85 (14, [l0], .ref 5 :: st, k, (zz_hp n I J ex)) = zz_Run zz_prog d 85 (17, [l0], .int (I 5 5) :: st, k, (zz_hp n I J ex)) := zz_k_go f85_14 rfl rfl rfl
theorem f85_17 : zz_fetch zz_prog 85 17 = some (.if_icmp .ge 15, 3, [32], []) := zz_fetch_of p85 rfl rfl
theorem s85_17 : zz_Run zz_prog d 85 (17, [l0], .int w :: .int v :: st, k, h) = if w ≤ v then zz_Run zz_prog d 85 (32, [l0], st, k, h) else zz_Run zz_prog d 85 (20, [l0], st, k, h) := zz_k_br (w ≤ v) rfl (zz_k_num f85_17 rfl)
theorem f85_20 : zz_fetch zz_prog 85 20 = some (.aload_n 0, 1, [], []) := zz_fetch_of p85 rfl rfl
theorem s85_20 : zz_Run zz_prog d 85 (20, [some (.ref a)], st, k, h) = zz_Run zz_prog d 85 (21, [some (.ref a)], .ref a :: st, k, h) := zz_k_num f85_20 rfl
theorem f85_21 : zz_fetch zz_prog 85 21 = some (.getfield 28, 3, [1, 7, 3], []) := zz_fetch_of p85 rfl rfl
theorem s85_21 : zz_Run zz_prog d 85 (21, [l0], .ref 5 :: st, k, (zz_hp n I J ex)) = zz_Run zz_prog d 85 (24, [l0], .ref 9 :: st, k, (zz_hp n I J ex)) := zz_k_go f85_21 rfl rfl rfl
theorem f85_24 : zz_fetch zz_prog 85 24 = some (.getfield 86, 3, [0, 1, 0], []) := zz_fetch_of p85 rfl rfl
theorem s85_24 : zz_Run zz_prog d 85 (24, [l0], .ref 9 :: st, k, (zz_hp n I J ex)) = zz_Run zz_prog d 85 (27, [l0], .int (I 9 1) :: st, k, (zz_hp n I J ex)) := zz_k_go f85_24 rfl rfl rfl
theorem s85_24b : zz_Run zz_prog d 85 (24, [l0], .ref 16 :: st, k, (zz_hp n I J ex)) = zz_Run zz_prog d 85 (27, [l0], .int (I 16 1) :: st, k, (zz_hp n I J ex)) := zz_k_go f85_24 rfl rfl rfl
theorem f85_27 : zz_fetch zz_prog 85 27 = some (.iconst 1, 1, [], []) := zz_fetch_of p85 rfl rfl
theorem s85_27 : zz_Run zz_prog d 85 (27, [l0], st, k, h) = zz_Run zz_prog d 85 (28, [l0], .int 1 :: st, k, h) := zz_k_num f85_27 rfl
theorem f85_28 : zz_fetch zz_prog 85 28 = some (.iadd, 1, [], []) := zz_fetch_of p85 rfl rfl
theorem s85_28 : zz_Run zz_prog d 85 (28, [l0], .int w :: .int v :: st, k, h) = zz_Run zz_prog d 85 (29, [l0], .int (v + w) :: st, k, h) := zz_k_num f85_28 rfl
theorem f85_29 : zz_fetch zz_prog 85 29 = some (.goto 4, 3, [33], []) := zz_fetch_of p85 rfl rfl
theorem s85_29 : zz_Run zz_prog d 85 (29, [l0], st, k, h) = zz_Run zz_prog d 85 (33, [l0], st, k, h) := zz_k_num f85_29 rfl
theorem f85_32 : zz_fetch zz_prog 85 32 = some (.iconst 0, 1, [], []) := zz_fetch_of p85 rfl rfl
theorem s85_32 : zz_Run zz_prog d 85 (32, [l0], st, k, h) = zz_Run zz_prog d 85 (33, [l0], .int 0 :: st, k, h) := zz_k_num f85_32 rfl
theorem f85_33 : zz_fetch zz_prog 85 33 = some (.putfield 86, 3, [0, 1, 0], []) := zz_fetch_of p85 rfl rfl
theorem s85_33 : zz_Run zz_prog d 85 (33, [l0], .int v :: .ref 9 :: st, k, (zz_hp n I J ex)) = zz_Run zz_prog d 85 (36, [l0], st, false, (zz_hp n (zz_up I 9 1 v) J ex)) := zz_k_go f85_33 rfl rfl rfl
theorem s85_33b : zz_Run zz_prog d 85 (33, [l0], .int v :: .ref 16 :: st, k, (zz_hp n I J ex)) = zz_Run zz_prog d 85 (36, [l0], st, false, (zz_hp n (zz_up I 16 1 v) J ex)) := zz_k_go f85_33 rfl rfl rfl
theorem f85_36 : zz_fetch zz_prog 85 36 = some (.aload_n 0, 1, [], []) := zz_fetch_of p85 rfl rfl
theorem s85_36 : zz_Run zz_prog d 85 (36, [some (.ref a)], st, k, h) = zz_Run zz_prog d 85 (37, [some (.ref a)], .ref a :: st, k, h) := zz_k_num f85_36 rfl
theorem f85_37 : zz_fetch zz_prog 85 37 = some (.getfield 28, 3, [1, 7, 3], []) := zz_fetch_of p85 rfl rfl
theorem s85_37 : zz_Run zz_prog d 85 (37, [l0], .ref 5 :: st, k, (zz_hp n I J ex)) = zz_Run zz_prog d 85 (40, [l0], .ref 9 :: st, k, (zz_hp n I J ex)) := zz_k_go f85_37 rfl rfl rfl
theorem f85_40 : zz_fetch zz_prog 85 40 = some (.iconst 3, 1, [], []) := zz_fetch_of p85 rfl rfl
theorem s85_40 : zz_Run zz_prog d 85 (40, [l0], st, k, h) = zz_Run zz_prog d 85 (41, [l0], .int 3 :: st, k, h) := zz_k_num f85_40 rfl
theorem f85_41 : zz_fetch zz_prog 85 41 = some (.putfield 89, 3, [0, 0, 0], []) := zz_fetch_of p85 rfl rfl
theorem s85_41 : zz_Run zz_prog d 85 (41, [l0], .int v :: .ref 9 :: st, k, (zz_hp n I J ex)) = zz_Run zz_prog d 85 (44, [l0], st, false, (zz_hp n (zz_up I 9 0 v) J ex)) := zz_k_go f85_41 rfl rfl rfl
theorem s85_41b : zz_Run zz_prog d 85 (41, [l0], .int v :: .ref 16 :: st, k, (zz_hp n I J ex)) = zz_Run zz_prog d 85 (44, [l0], st, false, (zz_hp n (zz_up I 16 0 v) J ex)) := zz_k_go f85_41 rfl rfl rfl
theorem f85_44 : zz_fetch zz_prog 85 44 = some (.aload_n 0, 1, [], []) := zz_fetch_of p85 rfl rfl
theorem s85_44 : zz_Run zz_prog d 85 (44, [some (.ref a)], st, k, h) = zz_Run zz_prog d 85 (45, [some (.ref a)], .ref a :: st, k, h) := zz_k_num f85_44 rfl
theorem f85_45 : zz_fetch zz_prog 85 45 = some (.getfield 28, 3, [1, 7, 3], []) := zz_fetch_of p85 rfl rfl
theorem s85_45 : zz_Run zz_prog d 85 (45, [l0], .ref 5 :: st, k, (zz_hp n I J ex)) = zz_Run zz_prog d 85 (48, [l0], .ref 9 :: st, k, (zz_hp n I J ex)) := zz_k_go f85_45 rfl rfl rfl
theorem f85_48 : zz_fetch zz_prog 85 48 = some (.iconst 0, 1, [], []) := zz_fetch_of p85 rfl rfl
theorem s85_48 : zz_Run zz_prog d 85 (48, [l0], st, k, h) = zz_Run zz_prog d 85 (49, [l0], .int 0 :: st, k, h) := zz_k_num f85_48 rfl
theorem f85_49 : zz_fetch zz_prog 85 49 = some (.putfield 201, 3, [0, 11, 1], []) := zz_fetch_of p85 rfl rfl
theorem s85_49 : zz_Run zz_prog d 85 (49, [l0], .int v :: .ref 9 :: st, k, (zz_hp n I J ex)) = zz_ck (decide (v = 0 ∨ v = 1)) (zz_Run zz_prog d 85 (52, [l0], st, false, (zz_hp n (zz_up I 9 11 v) J ex))) := zz_k_putz f85_49 rfl
theorem s85_49b : zz_Run zz_prog d 85 (49, [l0], .int v :: .ref 16 :: st, k, (zz_hp n I J ex)) = zz_ck (decide (v = 0 ∨ v = 1)) (zz_Run zz_prog d 85 (52, [l0], st, false, (zz_hp n (zz_up I 16 11 v) J ex))) := zz_k_putz f85_49 rfl
theorem f85_52 : zz_fetch zz_prog 85 52 = some (.aload_n 0, 1, [], []) := zz_fetch_of p85 rfl rfl
theorem s85_52 : zz_Run zz_prog d 85 (52, [some (.ref a)], st, k, h) = zz_Run zz_prog d 85 (53, [some (.ref a)], .ref a :: st, k, h) := zz_k_num f85_52 rfl
theorem f85_53 : zz_fetch zz_prog 85 53 = some (.getfield 28, 3, [1, 7, 3], []) := zz_fetch_of p85 rfl rfl
theorem s85_53 : zz_Run zz_prog d 85 (53, [l0], .ref 5 :: st, k, (zz_hp n I J ex)) = zz_Run zz_prog d 85 (56, [l0], .ref 9 :: st, k, (zz_hp n I J ex)) := zz_k_go f85_53 rfl rfl rfl
theorem f85_56 : zz_fetch zz_prog 85 56 = some (.iconst (-1), 1, [], []) := zz_fetch_of p85 rfl rfl
theorem s85_56 : zz_Run zz_prog d 85 (56, [l0], st, k, h) = zz_Run zz_prog d 85 (57, [l0], .int (-1) :: st, k, h) := zz_k_num f85_56 rfl
theorem f85_57 : zz_fetch zz_prog 85 57 = some (.putfield 163, 3, [0, 7, 0], []) := zz_fetch_of p85 rfl rfl
theorem s85_57 : zz_Run zz_prog d 85 (57, [l0], .int v :: .ref 9 :: st, k, (zz_hp n I J ex)) = zz_Run zz_prog d 85 (60, [l0], st, false, (zz_hp n (zz_up I 9 7 v) J ex)) := zz_k_go f85_57 rfl rfl rfl
theorem s85_57b : zz_Run zz_prog d 85 (57, [l0], .int v :: .ref 16 :: st, k, (zz_hp n I J ex)) = zz_Run zz_prog d 85 (60, [l0], st, false, (zz_hp n (zz_up I 16 7 v) J ex)) := zz_k_go f85_57 rfl rfl rfl
theorem f85_60 : zz_fetch zz_prog 85 60 = some (.aload_n 0, 1, [], []) := zz_fetch_of p85 rfl rfl
theorem s85_60 : zz_Run zz_prog d 85 (60, [some (.ref a)], st, k, h) = zz_Run zz_prog d 85 (61, [some (.ref a)], .ref a :: st, k, h) := zz_k_num f85_60 rfl
theorem f85_61 : zz_fetch zz_prog 85 61 = some (.getfield 28, 3, [1, 7, 3], []) := zz_fetch_of p85 rfl rfl
theorem s85_61 : zz_Run zz_prog d 85 (61, [l0], .ref 5 :: st, k, (zz_hp n I J ex)) = zz_Run zz_prog d 85 (64, [l0], .ref 9 :: st, k, (zz_hp n I J ex)) := zz_k_go f85_61 rfl rfl rfl
theorem f85_64 : zz_fetch zz_prog 85 64 = some (.getfield 191, 3, [0, 16, 3], []) := zz_fetch_of p85 rfl rfl
theorem s85_64 : zz_Run zz_prog d 85 (64, [l0], .ref 9 :: st, k, (zz_hp n I J ex)) = zz_Run zz_prog d 85 (67, [l0], .ref 14 :: st, k, (zz_hp n I J ex)) := zz_k_go f85_64 rfl rfl rfl
theorem s85_64b : zz_Run zz_prog d 85 (64, [l0], .ref 16 :: st, k, (zz_hp n I J ex)) = zz_Run zz_prog d 85 (67, [l0], .ref 21 :: st, k, (zz_hp n I J ex)) := zz_k_go f85_64 rfl rfl rfl
theorem f85_67 : zz_fetch zz_prog 85 67 = some (.iconst 0, 1, [], []) := zz_fetch_of p85 rfl rfl
theorem s85_67 : zz_Run zz_prog d 85 (67, [l0], st, k, h) = zz_Run zz_prog d 85 (68, [l0], .int 0 :: st, k, h) := zz_k_num f85_67 rfl
theorem f85_68 : zz_fetch zz_prog 85 68 = some (.invokestatic 19, 3, [0, 178, 2], []) := zz_fetch_of p85 rfl rfl
theorem s85_68 : zz_Run zz_prog d 85 (68, [l0], [b0, b1], k, h) = zz_ret (zz_Call zz_prog d 178 [b1, b0] h) (fun v k' h' => zz_Run zz_prog d 85 (71, [l0], v.toList ++ [], k && k', h')) (fun a k' h' => zz_th d 85 68 a [l0] (k && k') h') := zz_k_call f85_68 rfl rfl rfl
theorem f85_71 : zz_fetch zz_prog 85 71 = some (.return_, 1, [], []) := zz_fetch_of p85 rfl rfl
theorem s85_71 : zz_Run zz_prog d 85 (71, [l0], [], k, h) = some (.inl none, k, h) := zz_k_stop f85_71 rfl rfl rfl
end S85
section S86
variable {d n j : Nat} {l0 : Option Value} {st : List Value} {k : Bool} {h : zz_H} {v w v1 v2 : Int32} {y y1 : Int64} {a a1 a2 : Nat} {b0 b1 b2 b3 b4 b5 b6 b7 b8 : Value} {I : Nat → Nat → Int32} {J : Nat → Nat → Int64} {ex : List (Nat × Nat)}
theorem p86 : zz_prog 86 = some zz_m86 := rfl
theorem e86 (g0 : Nat) : zz_Call zz_prog (d + 1) 86 [.ref g0] h = zz_Run zz_prog d 86 (0, [some (.ref g0)], [], true, h) := rfl
theorem t86 (pc : Nat) (L : List (Option Value)) : zz_th d 86 pc a L k h = some (.inr a, k, h) := zz_th_out p86 rfl
theorem f86_0 : zz_fetch zz_prog 86 0 = some (.aload_n 0, 1, [], []) := zz_fetch_of p86 rfl rfl
theorem s86_0 : zz_Run zz_prog d 86 (0, [some (.ref a)], st, k, h) = zz_Run zz_prog d 86 (1, [some (.ref a)], .ref a :: st, k, h) := zz_k_num f86_0 rfl
theorem f86_1 : zz_fetch zz_prog 86 1 = some (.getfield 28, 3, [1, 7, 3], []) := zz_fetch_of p86 rfl rfl
theorem s86_1 : zz_Run zz_prog d 86 (1, [l0], .ref 5 :: st, k, (zz_hp n I J ex)) = zz_Run zz_prog d 86 (4, [l0], .ref 9 :: st, k, (zz_hp n I J ex)) := zz_k_go f86_1 rfl rfl rfl
theorem f86_4 : zz_fetch zz_prog 86 4 = some (.getfield 89, 3, [0, 0, 0], []) := zz_fetch_of p86 rfl rfl
theorem s86_4 : zz_Run zz_prog d 86 (4, [l0], .ref 9 :: st, k, (zz_hp n I J ex)) = zz_Run zz_prog d 86 (7, [l0], .int (I 9 0) :: st, k, (zz_hp n I J ex)) := zz_k_go f86_4 rfl rfl rfl
theorem s86_4b : zz_Run zz_prog d 86 (4, [l0], .ref 16 :: st, k, (zz_hp n I J ex)) = zz_Run zz_prog d 86 (7, [l0], .int (I 16 0) :: st, k, (zz_hp n I J ex)) := zz_k_go f86_4 rfl rfl rfl
theorem f86_7 : zz_fetch zz_prog 86 7 = some (.iconst 3, 1, [], []) := zz_fetch_of p86 rfl rfl
theorem s86_7 : zz_Run zz_prog d 86 (7, [l0], st, k, h) = zz_Run zz_prog d 86 (8, [l0], .int 3 :: st, k, h) := zz_k_num f86_7 rfl
theorem f86_8 : zz_fetch zz_prog 86 8 = some (.if_icmp .lt 42, 3, [50], []) := zz_fetch_of p86 rfl rfl
theorem s86_8 : zz_Run zz_prog d 86 (8, [l0], .int w :: .int v :: st, k, h) = if v < w then zz_Run zz_prog d 86 (50, [l0], st, k, h) else zz_Run zz_prog d 86 (11, [l0], st, k, h) := zz_k_br (v < w) rfl (zz_k_num f86_8 rfl)
theorem f86_11 : zz_fetch zz_prog 86 11 = some (.aload_n 0, 1, [], []) := zz_fetch_of p86 rfl rfl
theorem s86_11 : zz_Run zz_prog d 86 (11, [some (.ref a)], st, k, h) = zz_Run zz_prog d 86 (12, [some (.ref a)], .ref a :: st, k, h) := zz_k_num f86_11 rfl
theorem f86_12 : zz_fetch zz_prog 86 12 = some (.getfield 28, 3, [1, 7, 3], []) := zz_fetch_of p86 rfl rfl
theorem s86_12 : zz_Run zz_prog d 86 (12, [l0], .ref 5 :: st, k, (zz_hp n I J ex)) = zz_Run zz_prog d 86 (15, [l0], .ref 9 :: st, k, (zz_hp n I J ex)) := zz_k_go f86_12 rfl rfl rfl
theorem f86_15 : zz_fetch zz_prog 86 15 = some (.getfield 89, 3, [0, 0, 0], []) := zz_fetch_of p86 rfl rfl
theorem s86_15 : zz_Run zz_prog d 86 (15, [l0], .ref 9 :: st, k, (zz_hp n I J ex)) = zz_Run zz_prog d 86 (18, [l0], .int (I 9 0) :: st, k, (zz_hp n I J ex)) := zz_k_go f86_15 rfl rfl rfl
theorem s86_15b : zz_Run zz_prog d 86 (15, [l0], .ref 16 :: st, k, (zz_hp n I J ex)) = zz_Run zz_prog d 86 (18, [l0], .int (I 16 0) :: st, k, (zz_hp n I J ex)) := zz_k_go f86_15 rfl rfl rfl
theorem f86_18 : zz_fetch zz_prog 86 18 = some (.bipush 7, 2, [], []) := zz_fetch_of p86 rfl rfl
theorem s86_18 : zz_Run zz_prog d 86 (18, [l0], st, k, h) = zz_Run zz_prog d 86 (20, [l0], .int 7 :: st, k, h) := zz_k_num f86_18 (congrArg (fun u => some (20, [l0], Value.int u :: st)) (by decide : (Int8.ofInt 7).toInt32 = 7))
theorem f86_20 : zz_fetch zz_prog 86 20 = some (.if_icmp .gt 30, 3, [50], []) := zz_fetch_of p86 rfl rfl
theorem s86_20 : zz_Run zz_prog d 86 (20, [l0], .int w :: .int v :: st, k, h) = if w < v then zz_Run zz_prog d 86 (50, [l0], st, k, h) else zz_Run zz_prog d 86 (23, [l0], st, k, h) := zz_k_br (w < v) rfl (zz_k_num f86_20 rfl)
theorem f86_23 : zz_fetch zz_prog 86 23 = some (.aload_n 0, 1, [], []) := zz_fetch_of p86 rfl rfl
theorem s86_23 : zz_Run zz_prog d 86 (23, [some (.ref a)], st, k, h) = zz_Run zz_prog d 86 (24, [some (.ref a)], .ref a :: st, k, h) := zz_k_num f86_23 rfl
theorem f86_24 : zz_fetch zz_prog 86 24 = some (.aload_n 0, 1, [], []) := zz_fetch_of p86 rfl rfl
theorem s86_24 : zz_Run zz_prog d 86 (24, [some (.ref a)], st, k, h) = zz_Run zz_prog d 86 (25, [some (.ref a)], .ref a :: st, k, h) := zz_k_num f86_24 rfl
theorem f86_25 : zz_fetch zz_prog 86 25 = some (.getfield 28, 3, [1, 7, 3], []) := zz_fetch_of p86 rfl rfl
theorem s86_25 : zz_Run zz_prog d 86 (25, [l0], .ref 5 :: st, k, (zz_hp n I J ex)) = zz_Run zz_prog d 86 (28, [l0], .ref 9 :: st, k, (zz_hp n I J ex)) := zz_k_go f86_25 rfl rfl rfl
theorem f86_28 : zz_fetch zz_prog 86 28 = some (.getfield 86, 3, [0, 1, 0], []) := zz_fetch_of p86 rfl rfl
theorem s86_28 : zz_Run zz_prog d 86 (28, [l0], .ref 9 :: st, k, (zz_hp n I J ex)) = zz_Run zz_prog d 86 (31, [l0], .int (I 9 1) :: st, k, (zz_hp n I J ex)) := zz_k_go f86_28 rfl rfl rfl
theorem s86_28b : zz_Run zz_prog d 86 (28, [l0], .ref 16 :: st, k, (zz_hp n I J ex)) = zz_Run zz_prog d 86 (31, [l0], .int (I 16 1) :: st, k, (zz_hp n I J ex)) := zz_k_go f86_28 rfl rfl rfl
theorem f86_31 : zz_fetch zz_prog 86 31 = some (.invokevirtual 114, 3, [0, 80, 2, 1], []) := zz_fetch_of p86 rfl rfl
theorem s86_31 : zz_Run zz_prog d 86 (31, [l0], [b0, .ref 5], k, (zz_hp n I J ex)) = zz_ret (zz_Call zz_prog d 80 [.ref 5, b0] (zz_hp n I J ex)) (fun v k' h' => zz_Run zz_prog d 86 (34, [l0], v.toList ++ [], k && k', h')) (fun a k' h' => zz_th d 86 31 a [l0] (k && k') h') := zz_k_call f86_31 rfl rfl rfl
theorem f86_34 : zz_fetch zz_prog 86 34 = some (.aload_n 0, 1, [], []) := zz_fetch_of p86 rfl rfl
theorem s86_34 : zz_Run zz_prog d 86 (34, [some (.ref a)], st, k, h) = zz_Run zz_prog d 86 (35, [some (.ref a)], .ref a :: st, k, h) := zz_k_num f86_34 rfl
theorem f86_35 : zz_fetch zz_prog 86 35 = some (.getfield 76, 3, [1, 6, 0], []) := zz_fetch_of p86 rfl rfl
theorem s86_35 : zz_Run zz_prog d 86 (35, [l0], .ref 5 :: st, k, (zz_hp n I J ex)) = zz_Run zz_prog d 86 (38, [l0], .int (I 5 6) :: st, k, (zz_hp n I J ex)) := zz_k_go f86_35 rfl rfl rfl
theorem f86_38 : zz_fetch zz_prog 86 38 = some (.if_icmp .lt 12, 3, [50], []) := zz_fetch_of p86 rfl rfl
theorem s86_38 : zz_Run zz_prog d 86 (38, [l0], .int w :: .int v :: st, k, h) = if v < w then zz_Run zz_prog d 86 (50, [l0], st, k, h) else zz_Run zz_prog d 86 (41, [l0], st, k, h) := zz_k_br (v < w) rfl (zz_k_num f86_38 rfl)
theorem f86_41 : zz_fetch zz_prog 86 41 = some (.aload_n 0, 1, [], []) := zz_fetch_of p86 rfl rfl
theorem s86_41 : zz_Run zz_prog d 86 (41, [some (.ref a)], st, k, h) = zz_Run zz_prog d 86 (42, [some (.ref a)], .ref a :: st, k, h) := zz_k_num f86_41 rfl
theorem f86_42 : zz_fetch zz_prog 86 42 = some (.getfield 28, 3, [1, 7, 3], []) := zz_fetch_of p86 rfl rfl
theorem s86_42 : zz_Run zz_prog d 86 (42, [l0], .ref 5 :: st, k, (zz_hp n I J ex)) = zz_Run zz_prog d 86 (45, [l0], .ref 9 :: st, k, (zz_hp n I J ex)) := zz_k_go f86_42 rfl rfl rfl
theorem f86_45 : zz_fetch zz_prog 86 45 = some (.bipush 8, 2, [], []) := zz_fetch_of p86 rfl rfl
theorem s86_45 : zz_Run zz_prog d 86 (45, [l0], st, k, h) = zz_Run zz_prog d 86 (47, [l0], .int 8 :: st, k, h) := zz_k_num f86_45 (congrArg (fun u => some (47, [l0], Value.int u :: st)) (by decide : (Int8.ofInt 8).toInt32 = 8))
theorem f86_47 : zz_fetch zz_prog 86 47 = some (.putfield 89, 3, [0, 0, 0], []) := zz_fetch_of p86 rfl rfl
theorem s86_47 : zz_Run zz_prog d 86 (47, [l0], .int v :: .ref 9 :: st, k, (zz_hp n I J ex)) = zz_Run zz_prog d 86 (50, [l0], st, false, (zz_hp n (zz_up I 9 0 v) J ex)) := zz_k_go f86_47 rfl rfl rfl
theorem s86_47b : zz_Run zz_prog d 86 (47, [l0], .int v :: .ref 16 :: st, k, (zz_hp n I J ex)) = zz_Run zz_prog d 86 (50, [l0], st, false, (zz_hp n (zz_up I 16 0 v) J ex)) := zz_k_go f86_47 rfl rfl rfl
theorem f86_50 : zz_fetch zz_prog 86 50 = some (.return_, 1, [], []) := zz_fetch_of p86 rfl rfl
theorem s86_50 : zz_Run zz_prog d 86 (50, [l0], [], k, h) = some (.inl none, k, h) := zz_k_stop f86_50 rfl rfl rfl
end S86
section S87
variable {d n j : Nat} {l0 : Option Value} {st : List Value} {k : Bool} {h : zz_H} {v w v1 v2 : Int32} {y y1 : Int64} {a a1 a2 : Nat} {b0 b1 b2 b3 b4 b5 b6 b7 b8 : Value} {I : Nat → Nat → Int32} {J : Nat → Nat → Int64} {ex : List (Nat × Nat)}
theorem p87 : zz_prog 87 = some zz_m87 := rfl
theorem e87 (g0 : Nat) : zz_Call zz_prog (d + 1) 87 [.ref g0] h = zz_Run zz_prog d 87 (0, [some (.ref g0)], [], true, h) := rfl
theorem t87 (pc : Nat) (L : List (Option Value)) : zz_th d 87 pc a L k h = some (.inr a, k, h) := zz_th_out p87 rfl
theorem f87_0 : zz_fetch zz_prog 87 0 = some (.aload_n 0, 1, [], []) := zz_fetch_of p87 rfl rfl
theorem s87_0 : zz_Run zz_prog d 87 (0, [some (.ref a)], st, k, h) = zz_Run zz_prog d 87 (1, [some (.ref a)], .ref a :: st, k, h) := zz_k_num f87_0 rfl
theorem f87_1 : zz_fetch zz_prog 87 1 = some (.getfield 32, 3, [1, 8, 3], []) := zz_fetch_of p87 rfl rfl
theorem s87_1 : zz_Run zz_prog d 87 (1, [l0], .ref 5 :: st, k, (zz_hp n I J ex)) = zz_Run zz_prog d 87 (4, [l0], .ref 16 :: st, k, (zz_hp n I J ex)) := zz_k_go f87_1 rfl rfl rfl
theorem f87_4 : zz_fetch zz_prog 87 4 = some (.aload_n 0, 1, [], []) := zz_fetch_of p87 rfl rfl
theorem s87_4 : zz_Run zz_prog d 87 (4, [some (.ref a)], st, k, h) = zz_Run zz_prog d 87 (5, [some (.ref a)], .ref a :: st, k, h) := zz_k_num f87_4 rfl
theorem f87_5 : zz_fetch zz_prog 87 5 = some (.getfield 28, 3, [1, 7, 3], []) := zz_fetch_of p87 rfl rfl
theorem s87_5 : zz_Run zz_prog d 87 (5, [l0], .ref 5 :: st, k, (zz_hp n I J ex)) = zz_Run zz_prog d 87 (8, [l0], .ref 9 :: st, k, (zz_hp n I J ex)) := zz_k_go f87_5 rfl rfl rfl
theorem f87_8 : zz_fetch zz_prog 87 8 = some (.invokevirtual 214, 3, [0, 156, 2, 0], []) := zz_fetch_of p87 rfl rfl
theorem s87_8 : zz_Run zz_prog d 87 (8, [l0], [b0, .ref 9], k, (zz_hp n I J ex)) = zz_ret (zz_Call zz_prog d 156 [.ref 9, b0] (zz_hp n I J ex)) (fun v k' h' => zz_Run zz_prog d 87 (11, [l0], v.toList ++ [], k && k', h')) (fun a k' h' => zz_th d 87 8 a [l0] (k && k') h') := zz_k_call f87_8 rfl rfl rfl
theorem s87_8b : zz_Run zz_prog d 87 (8, [l0], [b0, .ref 16], k, (zz_hp n I J ex)) = zz_ret (zz_Call zz_prog d 156 [.ref 16, b0] (zz_hp n I J ex)) (fun v k' h' => zz_Run zz_prog d 87 (11, [l0], v.toList ++ [], k && k', h')) (fun a k' h' => zz_th d 87 8 a [l0] (k && k') h') := zz_k_call f87_8 rfl rfl rfl
theorem f87_11 : zz_fetch zz_prog 87 11 = some (.aload_n 0, 1, [], []) := zz_fetch_of p87 rfl rfl
theorem s87_11 : zz_Run zz_prog d 87 (11, [some (.ref a)], st, k, h) = zz_Run zz_prog d 87 (12, [some (.ref a)], .ref a :: st, k, h) := zz_k_num f87_11 rfl
theorem f87_12 : zz_fetch zz_prog 87 12 = some (.iconst 1, 1, [], []) := zz_fetch_of p87 rfl rfl
theorem s87_12 : zz_Run zz_prog d 87 (12, [l0], st, k, h) = zz_Run zz_prog d 87 (13, [l0], .int 1 :: st, k, h) := zz_k_num f87_12 rfl
theorem f87_13 : zz_fetch zz_prog 87 13 = some (.putfield 211, 3, [1, 9, 1], []) := zz_fetch_of p87 rfl rfl
theorem s87_13 : zz_Run zz_prog d 87 (13, [l0], .int v :: .ref 5 :: st, k, (zz_hp n I J ex)) = zz_ck (decide (v = 0 ∨ v = 1)) (zz_Run zz_prog d 87 (16, [l0], st, false, (zz_hp n (zz_up I 5 9 v) J ex))) := zz_k_putz f87_13 rfl
theorem f87_16 : zz_fetch zz_prog 87 16 = some (.return_, 1, [], []) := zz_fetch_of p87 rfl rfl
theorem s87_16 : zz_Run zz_prog d 87 (16, [l0], [], k, h) = some (.inl none, k, h) := zz_k_stop f87_16 rfl rfl rfl
end S87
section S89
variable {d n j : Nat} {l0 : Option Value} {st : List Value} {k : Bool} {h : zz_H} {v w v1 v2 : Int32} {y y1 : Int64} {a a1 a2 : Nat} {b0 b1 b2 b3 b4 b5 b6 b7 b8 : Value} {I : Nat → Nat → Int32} {J : Nat → Nat → Int64} {ex : List (Nat × Nat)}
theorem p89 : zz_prog 89 = some zz_m89 := rfl
theorem e89 (g0 : Nat) : zz_Call zz_prog (d + 1) 89 [.ref g0] h = zz_Run zz_prog d 89 (0, [some (.ref g0)], [], true, h) := rfl
theorem t89 (pc : Nat) (L : List (Option Value)) : zz_th d 89 pc a L k h = some (.inr a, k, h) := zz_th_out p89 rfl
theorem f89_0 : zz_fetch zz_prog 89 0 = some (.aload_n 0, 1, [], []) := zz_fetch_of p89 rfl rfl
theorem s89_0 : zz_Run zz_prog d 89 (0, [some (.ref a)], st, k, h) = zz_Run zz_prog d 89 (1, [some (.ref a)], .ref a :: st, k, h) := zz_k_num f89_0 rfl
theorem f89_1 : zz_fetch zz_prog 89 1 = some (.getfield 78, 3, [2, 0, 0], []) := zz_fetch_of p89 rfl rfl
theorem s89_1 : zz_Run zz_prog d 89 (1, [l0], .ref 23 :: st, k, (zz_hp n I J ex)) = zz_Run zz_prog d 89 (4, [l0], .int (I 23 0) :: st, k, (zz_hp n I J ex)) := zz_k_go f89_1 rfl rfl rfl
theorem f89_4 : zz_fetch zz_prog 89 4 = some (.ireturn, 1, [0], []) := zz_fetch_of p89 rfl rfl
theorem s89_4 : zz_Run zz_prog d 89 (4, [l0], [.int v], k, h) = some (.inl (some (.int v)), k, h) := zz_k_stop f89_4 rfl rfl rfl
end S89
section S90
variable {d n j : Nat} {l0 : Option Value} {st : List Value} {k : Bool} {h : zz_H} {v w v1 v2 : Int32} {y y1 : Int64} {a a1 a2 : Nat} {b0 b1 b2 b3 b4 b5 b6 b7 b8 : Value} {I : Nat → Nat → Int32} {J : Nat → Nat → Int64} {ex : List (Nat × Nat)}
theorem p90 : zz_prog 90 = some zz_m90 := rfl
theorem e90 (g0 : Int32) : zz_Call zz_prog (d + 1) 90 [.int g0] h = zz_Run zz_prog d 90 (0, [some (.int g0)], [], true, h) := rfl
theorem t90 (pc : Nat) (L : List (Option Value)) : zz_th d 90 pc a L k h = some (.inr a, k, h) := zz_th_out p90 rfl
theorem f90_0 : zz_fetch zz_prog 90 0 = some (.iload_n 0, 1, [], []) := zz_fetch_of p90 rfl rfl
theorem s90_0 : zz_Run zz_prog d 90 (0, [some (.int v)], st, k, h) = zz_Run zz_prog d 90 (1, [some (.int v)], .int v :: st, k, h) := zz_k_num f90_0 rfl
theorem f90_1 : zz_fetch zz_prog 90 1 = some (.ifCond .ge 8, 3, [9], []) := zz_fetch_of p90 rfl rfl
theorem s90_1 : zz_Run zz_prog d 90 (1, [l0], .int v :: st, k, h) = if 0 ≤ v then zz_Run zz_prog d 90 (9, [l0], st, k, h) else zz_Run zz_prog d 90 (4, [l0], st, k, h) := zz_k_br (0 ≤ v) rfl (zz_k_num f90_1 rfl)
theorem f90_4 : zz_fetch zz_prog 90 4 = some (.iload_n 0, 1, [], []) := zz_fetch_of p90 rfl rfl
theorem s90_4 : zz_Run zz_prog d 90 (4, [some (.int v)], st, k, h) = zz_Run zz_prog d 90 (5, [some (.int v)], .int v :: st, k, h) := zz_k_num f90_4 rfl
theorem f90_5 : zz_fetch zz_prog 90 5 = some (.ineg, 1, [], []) := zz_fetch_of p90 rfl rfl
theorem s90_5 : zz_Run zz_prog d 90 (5, [l0], .int v :: st, k, h) = zz_Run zz_prog d 90 (6, [l0], .int (-v) :: st, k, h) := zz_k_num f90_5 rfl
theorem f90_6 : zz_fetch zz_prog 90 6 = some (.goto 4, 3, [10], []) := zz_fetch_of p90 rfl rfl
theorem s90_6 : zz_Run zz_prog d 90 (6, [l0], st, k, h) = zz_Run zz_prog d 90 (10, [l0], st, k, h) := zz_k_num f90_6 rfl
theorem f90_9 : zz_fetch zz_prog 90 9 = some (.iload_n 0, 1, [], []) := zz_fetch_of p90 rfl rfl
theorem s90_9 : zz_Run zz_prog d 90 (9, [some (.int v)], st, k, h) = zz_Run zz_prog d 90 (10, [some (.int v)], .int v :: st, k, h) := zz_k_num f90_9 rfl
theorem f90_10 : zz_fetch zz_prog 90 10 = some (.ireturn, 1, [0], []) := zz_fetch_of p90 rfl rfl
theorem s90_10 : zz_Run zz_prog d 90 (10, [l0], [.int v], k, h) = some (.inl (some (.int v)), k, h) := zz_k_stop f90_10 rfl rfl rfl
end S90
section S91
variable {d n j : Nat} {l0 l1 l2 l3 : Option Value} {st : List Value} {k : Bool} {h : zz_H} {v w v1 v2 : Int32} {y y1 : Int64} {a a1 a2 : Nat} {b0 b1 b2 b3 b4 b5 b6 b7 b8 : Value} {I : Nat → Nat → Int32} {J : Nat → Nat → Int64} {ex : List (Nat × Nat)}
theorem p91 : zz_prog 91 = some zz_m91 := rfl
theorem e91 (g0 : Nat) (g1 : Int32) (g2 : Int32) : zz_Call zz_prog (d + 1) 91 [.ref g0, .int g1, .int g2] h = zz_Run zz_prog d 91 (0, [some (.ref g0), some (.int g1), some (.int g2), none], [], true, h) := rfl
theorem t91 (pc : Nat) (L : List (Option Value)) : zz_th d 91 pc a L k h = some (.inr a, k, h) := zz_th_out p91 rfl
theorem f91_0 : zz_fetch zz_prog 91 0 = some (.aload_n 0, 1, [], []) := zz_fetch_of p91 rfl rfl
theorem s91_0 : zz_Run zz_prog d 91 (0, [some (.ref a), l1, l2, l3], st, k, h) = zz_Run zz_prog d 91 (1, [some (.ref a), l1, l2, l3], .ref a :: st, k, h) := zz_k_num f91_0 rfl
theorem f91_1 : zz_fetch zz_prog 91 1 = some (.getfield 19, 3, [2, 5, 3], []) := zz_fetch_of p91 rfl rfl
theorem s91_1 : zz_Run zz_prog d 91 (1, [l0, l1, l2, l3], .ref 23 :: st, k, (zz_hp n I J ex)) = zz_Run zz_prog d 91 (4, [l0, l1, l2, l3], .ref 27 :: st, k, (zz_hp n I J ex)) := zz_k_go f91_1 rfl rfl rfl
theorem f91_4 : zz_fetch zz_prog 91 4 = some (.iload_n 1, 1, [], []) := zz_fetch_of p91 rfl rfl
theorem s91_4 : zz_Run zz_prog d 91 (4, [l0, some (.int v), l2, l3], st, k, h) = zz_Run zz_prog d 91 (5, [l0, some (.int v), l2, l3], .int v :: st, k, h) := zz_k_num f91_4 rfl
theorem f91_5 : zz_fetch zz_prog 91 5 = some (.iaload, 1, [], []) := zz_fetch_of p91 rfl rfl
theorem s91_5 (ha : zz_isrd a = true) : zz_Run zz_prog d 91 (5, [l0, l1, l2, l3], .int v :: .ref a :: st, k, (zz_hp n I J ex)) = zz_ck (zz_in v (zz_ary n a)) (zz_Run zz_prog d 91 (6, [l0, l1, l2, l3], .int (I a v.toNatClampNeg) :: st, k, (zz_hp n I J ex))) := zz_k_iald f91_5 ha
theorem f91_6 : zz_fetch zz_prog 91 6 = some (.aload_n 0, 1, [], []) := zz_fetch_of p91 rfl rfl
theorem s91_6 : zz_Run zz_prog d 91 (6, [some (.ref a), l1, l2, l3], st, k, h) = zz_Run zz_prog d 91 (7, [some (.ref a), l1, l2, l3], .ref a :: st, k, h) := zz_k_num f91_6 rfl
theorem f91_7 : zz_fetch zz_prog 91 7 = some (.getfield 19, 3, [2, 5, 3], []) := zz_fetch_of p91 rfl rfl
theorem s91_7 : zz_Run zz_prog d 91 (7, [l0, l1, l2, l3], .ref 23 :: st, k, (zz_hp n I J ex)) = zz_Run zz_prog d 91 (10, [l0, l1, l2, l3], .ref 27 :: st, k, (zz_hp n I J ex)) := zz_k_go f91_7 rfl rfl rfl
theorem f91_10 : zz_fetch zz_prog 91 10 = some (.iload_n 2, 1, [], []) := zz_fetch_of p91 rfl rfl
theorem s91_10 : zz_Run zz_prog d 91 (10, [l0, l1, some (.int v), l3], st, k, h) = zz_Run zz_prog d 91 (11, [l0, l1, some (.int v), l3], .int v :: st, k, h) := zz_k_num f91_10 rfl
theorem f91_11 : zz_fetch zz_prog 91 11 = some (.iaload, 1, [], []) := zz_fetch_of p91 rfl rfl
theorem s91_11 (ha : zz_isrd a = true) : zz_Run zz_prog d 91 (11, [l0, l1, l2, l3], .int v :: .ref a :: st, k, (zz_hp n I J ex)) = zz_ck (zz_in v (zz_ary n a)) (zz_Run zz_prog d 91 (12, [l0, l1, l2, l3], .int (I a v.toNatClampNeg) :: st, k, (zz_hp n I J ex))) := zz_k_iald f91_11 ha
theorem f91_12 : zz_fetch zz_prog 91 12 = some (.isub, 1, [], []) := zz_fetch_of p91 rfl rfl
theorem s91_12 : zz_Run zz_prog d 91 (12, [l0, l1, l2, l3], .int w :: .int v :: st, k, h) = zz_Run zz_prog d 91 (13, [l0, l1, l2, l3], .int (v - w) :: st, k, h) := zz_k_num f91_12 rfl
theorem f91_13 : zz_fetch zz_prog 91 13 = some (.invokestatic 82, 3, [0, 90, 1], []) := zz_fetch_of p91 rfl rfl
theorem s91_13 : zz_Run zz_prog d 91 (13, [l0, l1, l2, l3], [b0], k, h) = zz_ret (zz_Call zz_prog d 90 [b0] h) (fun v k' h' => zz_Run zz_prog d 91 (16, [l0, l1, l2, l3], v.toList ++ [], k && k', h')) (fun a k' h' => zz_th d 91 13 a [l0, l1, l2, l3] (k && k') h') := zz_k_call f91_13 rfl rfl rfl
theorem f91_16 : zz_fetch zz_prog 91 16 = some (.istore_n 3, 1, [], []) := zz_fetch_of p91 rfl rfl
theorem s91_16 : zz_Run zz_prog d 91 (16, [l0, l1, l2, l3], .int v :: st, k, h) = zz_sl l2 (zz_Run zz_prog d 91 (17, [l0, l1, l2, some (.int v)], st, k, h)) := zz_k_st (j := 3) (u := .int v) f91_16 rfl (fun q hq => by cases hq) rfl (show 3 < 4 by decide) (by cases l2 <;> rfl) rfl
theorem f91_17 : zz_fetch zz_prog 91 17 = some (.aload_n 0, 1, [], []) := zz_fetch_of p91 rfl rfl
theorem s91_17 : zz_Run zz_prog d 91 (17, [some (.ref a), l1, l2, l3], st, k, h) = zz_Run zz_prog d 91 (18, [some (.ref a), l1, l2, l3], .ref a :: st, k, h) := zz_k_num f91_17 rfl
theorem f91_18 : zz_fetch zz_prog 91 18 = some (.getfield 16, 3, [2, 4, 3], []) := zz_fetch_of p91 rfl rfl
theorem s91_18 : zz_Run zz_prog d 91 (18, [l0, l1, l2, l3], .ref 23 :: st, k, (zz_hp n I J ex)) = zz_Run zz_prog d 91 (21, [l0, l1, l2, l3], .ref 26 :: st, k, (zz_hp n I J ex)) := zz_k_go f91_18 rfl rfl rfl
theorem f91_21 : zz_fetch zz_prog 91 21 = some (.iload_n 2, 1, [], []) := zz_fetch_of p91 rfl rfl
theorem s91_21 : zz_Run zz_prog d 91 (21, [l0, l1, some (.int v), l3], st, k, h) = zz_Run zz_prog d 91 (22, [l0, l1, some (.int v), l3], .int v :: st, k, h) := zz_k_num f91_21 rfl
theorem f91_22 : zz_fetch zz_prog 91 22 = some (.iaload, 1, [], []) := zz_fetch_of p91 rfl rfl
theorem s91_22 (ha : zz_isrd a = true) : zz_Run zz_prog d 91 (22, [l0, l1, l2, l3], .int v :: .ref a :: st, k, (zz_hp n I J ex)) = zz_ck (zz_in v (zz_ary n a)) (zz_Run zz_prog d 91 (23, [l0, l1, l2, l3], .int (I a v.toNatClampNeg) :: st, k, (zz_hp n I J ex))) := zz_k_iald f91_22 ha
theorem f91_23 : zz_fetch zz_prog 91 23 = some (.aload_n 0, 1, [], []) := zz_fetch_of p91 rfl rfl
theorem s91_23 : zz_Run zz_prog d 91 (23, [some (.ref a), l1, l2, l3], st, k, h) = zz_Run zz_prog d 91 (24, [some (.ref a), l1, l2, l3], .ref a :: st, k, h) := zz_k_num f91_23 rfl
theorem f91_24 : zz_fetch zz_prog 91 24 = some (.getfield 16, 3, [2, 4, 3], []) := zz_fetch_of p91 rfl rfl
theorem s91_24 : zz_Run zz_prog d 91 (24, [l0, l1, l2, l3], .ref 23 :: st, k, (zz_hp n I J ex)) = zz_Run zz_prog d 91 (27, [l0, l1, l2, l3], .ref 26 :: st, k, (zz_hp n I J ex)) := zz_k_go f91_24 rfl rfl rfl
theorem f91_27 : zz_fetch zz_prog 91 27 = some (.iload_n 1, 1, [], []) := zz_fetch_of p91 rfl rfl
theorem s91_27 : zz_Run zz_prog d 91 (27, [l0, some (.int v), l2, l3], st, k, h) = zz_Run zz_prog d 91 (28, [l0, some (.int v), l2, l3], .int v :: st, k, h) := zz_k_num f91_27 rfl
theorem f91_28 : zz_fetch zz_prog 91 28 = some (.iaload, 1, [], []) := zz_fetch_of p91 rfl rfl
theorem s91_28 (ha : zz_isrd a = true) : zz_Run zz_prog d 91 (28, [l0, l1, l2, l3], .int v :: .ref a :: st, k, (zz_hp n I J ex)) = zz_ck (zz_in v (zz_ary n a)) (zz_Run zz_prog d 91 (29, [l0, l1, l2, l3], .int (I a v.toNatClampNeg) :: st, k, (zz_hp n I J ex))) := zz_k_iald f91_28 ha
theorem f91_29 : zz_fetch zz_prog 91 29 = some (.iconst 1, 1, [], []) := zz_fetch_of p91 rfl rfl
theorem s91_29 : zz_Run zz_prog d 91 (29, [l0, l1, l2, l3], st, k, h) = zz_Run zz_prog d 91 (30, [l0, l1, l2, l3], .int 1 :: st, k, h) := zz_k_num f91_29 rfl
theorem f91_30 : zz_fetch zz_prog 91 30 = some (.iadd, 1, [], []) := zz_fetch_of p91 rfl rfl
theorem s91_30 : zz_Run zz_prog d 91 (30, [l0, l1, l2, l3], .int w :: .int v :: st, k, h) = zz_Run zz_prog d 91 (31, [l0, l1, l2, l3], .int (v + w) :: st, k, h) := zz_k_num f91_30 rfl
theorem f91_31 : zz_fetch zz_prog 91 31 = some (.if_icmp .ne 27, 3, [58], []) := zz_fetch_of p91 rfl rfl
theorem s91_31 : zz_Run zz_prog d 91 (31, [l0, l1, l2, l3], .int w :: .int v :: st, k, h) = if ¬ v = w then zz_Run zz_prog d 91 (58, [l0, l1, l2, l3], st, k, h) else zz_Run zz_prog d 91 (34, [l0, l1, l2, l3], st, k, h) := zz_k_br (¬ v = w) rfl (zz_k_num f91_31 rfl)
theorem f91_34 : zz_fetch zz_prog 91 34 = some (.iload_n 3, 1, [], []) := zz_fetch_of p91 rfl rfl
theorem s91_34 : zz_Run zz_prog d 91 (34, [l0, l1, l2, some (.int v)], st, k, h) = zz_Run zz_prog d 91 (35, [l0, l1, l2, some (.int v)], .int v :: st, k, h) := zz_k_num f91_34 rfl
theorem f91_35 : zz_fetch zz_prog 91 35 = some (.aload_n 0, 1, [], []) := zz_fetch_of p91 rfl rfl
theorem s91_35 : zz_Run zz_prog d 91 (35, [some (.ref a), l1, l2, l3], st, k, h) = zz_Run zz_prog d 91 (36, [some (.ref a), l1, l2, l3], .ref a :: st, k, h) := zz_k_num f91_35 rfl
theorem f91_36 : zz_fetch zz_prog 91 36 = some (.getfield 16, 3, [2, 4, 3], []) := zz_fetch_of p91 rfl rfl
theorem s91_36 : zz_Run zz_prog d 91 (36, [l0, l1, l2, l3], .ref 23 :: st, k, (zz_hp n I J ex)) = zz_Run zz_prog d 91 (39, [l0, l1, l2, l3], .ref 26 :: st, k, (zz_hp n I J ex)) := zz_k_go f91_36 rfl rfl rfl
theorem f91_39 : zz_fetch zz_prog 91 39 = some (.iload_n 1, 1, [], []) := zz_fetch_of p91 rfl rfl
theorem s91_39 : zz_Run zz_prog d 91 (39, [l0, some (.int v), l2, l3], st, k, h) = zz_Run zz_prog d 91 (40, [l0, some (.int v), l2, l3], .int v :: st, k, h) := zz_k_num f91_39 rfl
theorem f91_40 : zz_fetch zz_prog 91 40 = some (.iaload, 1, [], []) := zz_fetch_of p91 rfl rfl
theorem s91_40 (ha : zz_isrd a = true) : zz_Run zz_prog d 91 (40, [l0, l1, l2, l3], .int v :: .ref a :: st, k, (zz_hp n I J ex)) = zz_ck (zz_in v (zz_ary n a)) (zz_Run zz_prog d 91 (41, [l0, l1, l2, l3], .int (I a v.toNatClampNeg) :: st, k, (zz_hp n I J ex))) := zz_k_iald f91_40 ha
theorem f91_41 : zz_fetch zz_prog 91 41 = some (.iconst 2, 1, [], []) := zz_fetch_of p91 rfl rfl
theorem s91_41 : zz_Run zz_prog d 91 (41, [l0, l1, l2, l3], st, k, h) = zz_Run zz_prog d 91 (42, [l0, l1, l2, l3], .int 2 :: st, k, h) := zz_k_num f91_41 rfl
theorem f91_42 : zz_fetch zz_prog 91 42 = some (.irem, 1, [], []) := zz_fetch_of p91 rfl rfl
theorem s91_42 (hw : ¬ w = 0) : zz_Run zz_prog d 91 (42, [l0, l1, l2, l3], .int w :: .int v :: st, k, h) = zz_Run zz_prog d 91 (43, [l0, l1, l2, l3], .int (v - v / w * w) :: st, k, h) := zz_k_irem f91_42 hw
theorem f91_43 : zz_fetch zz_prog 91 43 = some (.ifCond .ne 7, 3, [50], []) := zz_fetch_of p91 rfl rfl
theorem s91_43 : zz_Run zz_prog d 91 (43, [l0, l1, l2, l3], .int v :: st, k, h) = if ¬ v = 0 then zz_Run zz_prog d 91 (50, [l0, l1, l2, l3], st, k, h) else zz_Run zz_prog d 91 (46, [l0, l1, l2, l3], st, k, h) := zz_k_br (¬ v = 0) rfl (zz_k_num f91_43 rfl)
theorem f91_46 : zz_fetch zz_prog 91 46 = some (.iconst 1, 1, [], []) := zz_fetch_of p91 rfl rfl
theorem s91_46 : zz_Run zz_prog d 91 (46, [l0, l1, l2, l3], st, k, h) = zz_Run zz_prog d 91 (47, [l0, l1, l2, l3], .int 1 :: st, k, h) := zz_k_num f91_46 rfl
theorem f91_47 : zz_fetch zz_prog 91 47 = some (.goto 4, 3, [51], []) := zz_fetch_of p91 rfl rfl
theorem s91_47 : zz_Run zz_prog d 91 (47, [l0, l1, l2, l3], st, k, h) = zz_Run zz_prog d 91 (51, [l0, l1, l2, l3], st, k, h) := zz_k_num f91_47 rfl
theorem f91_50 : zz_fetch zz_prog 91 50 = some (.iconst 0, 1, [], []) := zz_fetch_of p91 rfl rfl
theorem s91_50 : zz_Run zz_prog d 91 (50, [l0, l1, l2, l3], st, k, h) = zz_Run zz_prog d 91 (51, [l0, l1, l2, l3], .int 0 :: st, k, h) := zz_k_num f91_50 rfl
theorem f91_51 : zz_fetch zz_prog 91 51 = some (.if_icmp .ne 7, 3, [58], []) := zz_fetch_of p91 rfl rfl
theorem s91_51 : zz_Run zz_prog d 91 (51, [l0, l1, l2, l3], .int w :: .int v :: st, k, h) = if ¬ v = w then zz_Run zz_prog d 91 (58, [l0, l1, l2, l3], st, k, h) else zz_Run zz_prog d 91 (54, [l0, l1, l2, l3], st, k, h) := zz_k_br (¬ v = w) rfl (zz_k_num f91_51 rfl)
theorem f91_54 : zz_fetch zz_prog 91 54 = some (.iconst 1, 1, [], []) := zz_fetch_of p91 rfl rfl
theorem s91_54 : zz_Run zz_prog d 91 (54, [l0, l1, l2, l3], st, k, h) = zz_Run zz_prog d 91 (55, [l0, l1, l2, l3], .int 1 :: st, k, h) := zz_k_num f91_54 rfl
theorem f91_55 : zz_fetch zz_prog 91 55 = some (.goto 4, 3, [59], []) := zz_fetch_of p91 rfl rfl
theorem s91_55 : zz_Run zz_prog d 91 (55, [l0, l1, l2, l3], st, k, h) = zz_Run zz_prog d 91 (59, [l0, l1, l2, l3], st, k, h) := zz_k_num f91_55 rfl
theorem f91_58 : zz_fetch zz_prog 91 58 = some (.iconst 0, 1, [], []) := zz_fetch_of p91 rfl rfl
theorem s91_58 : zz_Run zz_prog d 91 (58, [l0, l1, l2, l3], st, k, h) = zz_Run zz_prog d 91 (59, [l0, l1, l2, l3], .int 0 :: st, k, h) := zz_k_num f91_58 rfl
theorem f91_59 : zz_fetch zz_prog 91 59 = some (.ireturn, 1, [1], []) := zz_fetch_of p91 rfl rfl
theorem s91_59 : zz_Run zz_prog d 91 (59, [l0, l1, l2, l3], [.int v], k, h) = zz_ck (decide (v = 0 ∨ v = 1)) (some (.inl (some (.int v)), k, h)) := zz_k_retz f91_59
end S91
section S92
variable {d n j : Nat} {l0 l1 l2 l3 l4 : Option Value} {st : List Value} {k : Bool} {h : zz_H} {v w v1 v2 : Int32} {y y1 : Int64} {a a1 a2 : Nat} {b0 b1 b2 b3 b4 b5 b6 b7 b8 : Value} {I : Nat → Nat → Int32} {J : Nat → Nat → Int64} {ex : List (Nat × Nat)}
theorem p92 : zz_prog 92 = some zz_m92 := rfl
theorem e92 (g0 : Nat) (g1 : Int32) (g2 : Int32) : zz_Call zz_prog (d + 1) 92 [.ref g0, .int g1, .int g2] h = zz_Run zz_prog d 92 (0, [some (.ref g0), some (.int g1), some (.int g2), none, none], [], true, h) := rfl
theorem t92 (pc : Nat) (L : List (Option Value)) : zz_th d 92 pc a L k h = some (.inr a, k, h) := zz_th_out p92 rfl
theorem f92_0 : zz_fetch zz_prog 92 0 = some (.iconst (-1), 1, [], []) := zz_fetch_of p92 rfl rfl
theorem s92_0 : zz_Run zz_prog d 92 (0, [l0, l1, l2, l3, l4], st, k, h) = zz_Run zz_prog d 92 (1, [l0, l1, l2, l3, l4], .int (-1) :: st, k, h) := zz_k_num f92_0 rfl
theorem f92_1 : zz_fetch zz_prog 92 1 = some (.istore_n 3, 1, [], []) := zz_fetch_of p92 rfl rfl
theorem s92_1 : zz_Run zz_prog d 92 (1, [l0, l1, l2, l3, l4], .int v :: st, k, h) = zz_sl l2 (zz_Run zz_prog d 92 (2, [l0, l1, l2, some (.int v), l4], st, k, h)) := zz_k_st (j := 3) (u := .int v) f92_1 rfl (fun q hq => by cases hq) rfl (show 3 < 5 by decide) (by cases l2 <;> rfl) rfl
theorem f92_2 : zz_fetch zz_prog 92 2 = some (.iconst 0, 1, [], []) := zz_fetch_of p92 rfl rfl
theorem s92_2 : zz_Run zz_prog d 92 (2, [l0, l1, l2, l3, l4], st, k, h) = zz_Run zz_prog d 92 (3, [l0, l1, l2, l3, l4], .int 0 :: st, k, h) := zz_k_num f92_2 rfl
theorem f92_3 : zz_fetch zz_prog 92 3 = some (.istore 4, 2, [], []) := zz_fetch_of p92 rfl rfl
theorem s92_3 : zz_Run zz_prog d 92 (3, [l0, l1, l2, l3, l4], .int v :: st, k, h) = zz_sl l3 (zz_Run zz_prog d 92 (5, [l0, l1, l2, l3, some (.int v)], st, k, h)) := zz_k_st (j := 4) (u := .int v) f92_3 rfl (fun q hq => by cases hq) rfl (show 4 < 5 by decide) (by cases l3 <;> rfl) rfl
theorem f92_5 : zz_fetch zz_prog 92 5 = some (.iload 4, 2, [], []) := zz_fetch_of p92 rfl rfl
theorem s92_5 : zz_Run zz_prog d 92 (5, [l0, l1, l2, l3, some (.int v)], st, k, h) = zz_Run zz_prog d 92 (7, [l0, l1, l2, l3, some (.int v)], .int v :: st, k, h) := zz_k_num f92_5 rfl
theorem f92_7 : zz_fetch zz_prog 92 7 = some (.bipush 54, 2, [], []) := zz_fetch_of p92 rfl rfl
theorem s92_7 : zz_Run zz_prog d 92 (7, [l0, l1, l2, l3, l4], st, k, h) = zz_Run zz_prog d 92 (9, [l0, l1, l2, l3, l4], .int 54 :: st, k, h) := zz_k_num f92_7 (congrArg (fun u => some (9, [l0, l1, l2, l3, l4], Value.int u :: st)) (by decide : (Int8.ofInt 54).toInt32 = 54))
theorem f92_9 : zz_fetch zz_prog 92 9 = some (.if_icmp .ge 38, 3, [47], []) := zz_fetch_of p92 rfl rfl
theorem s92_9 : zz_Run zz_prog d 92 (9, [l0, l1, l2, l3, l4], .int w :: .int v :: st, k, h) = if w ≤ v then zz_Run zz_prog d 92 (47, [l0, l1, l2, l3, l4], st, k, h) else zz_Run zz_prog d 92 (12, [l0, l1, l2, l3, l4], st, k, h) := zz_k_br (w ≤ v) rfl (zz_k_num f92_9 rfl)
theorem f92_12 : zz_fetch zz_prog 92 12 = some (.aload_n 0, 1, [], []) := zz_fetch_of p92 rfl rfl
theorem s92_12 : zz_Run zz_prog d 92 (12, [some (.ref a), l1, l2, l3, l4], st, k, h) = zz_Run zz_prog d 92 (13, [some (.ref a), l1, l2, l3, l4], .ref a :: st, k, h) := zz_k_num f92_12 rfl
theorem f92_13 : zz_fetch zz_prog 92 13 = some (.getfield 16, 3, [2, 4, 3], []) := zz_fetch_of p92 rfl rfl
theorem s92_13 : zz_Run zz_prog d 92 (13, [l0, l1, l2, l3, l4], .ref 23 :: st, k, (zz_hp n I J ex)) = zz_Run zz_prog d 92 (16, [l0, l1, l2, l3, l4], .ref 26 :: st, k, (zz_hp n I J ex)) := zz_k_go f92_13 rfl rfl rfl
theorem f92_16 : zz_fetch zz_prog 92 16 = some (.iload 4, 2, [], []) := zz_fetch_of p92 rfl rfl
theorem s92_16 : zz_Run zz_prog d 92 (16, [l0, l1, l2, l3, some (.int v)], st, k, h) = zz_Run zz_prog d 92 (18, [l0, l1, l2, l3, some (.int v)], .int v :: st, k, h) := zz_k_num f92_16 rfl
theorem f92_18 : zz_fetch zz_prog 92 18 = some (.iaload, 1, [], []) := zz_fetch_of p92 rfl rfl
theorem s92_18 (ha : zz_isrd a = true) : zz_Run zz_prog d 92 (18, [l0, l1, l2, l3, l4], .int v :: .ref a :: st, k, (zz_hp n I J ex)) = zz_ck (zz_in v (zz_ary n a)) (zz_Run zz_prog d 92 (19, [l0, l1, l2, l3, l4], .int (I a v.toNatClampNeg) :: st, k, (zz_hp n I J ex))) := zz_k_iald f92_18 ha
theorem f92_19 : zz_fetch zz_prog 92 19 = some (.iload_n 1, 1, [], []) := zz_fetch_of p92 rfl rfl
theorem s92_19 : zz_Run zz_prog d 92 (19, [l0, some (.int v), l2, l3, l4], st, k, h) = zz_Run zz_prog d 92 (20, [l0, some (.int v), l2, l3, l4], .int v :: st, k, h) := zz_k_num f92_19 rfl
theorem f92_20 : zz_fetch zz_prog 92 20 = some (.if_icmp .ne 19, 3, [39], []) := zz_fetch_of p92 rfl rfl
theorem s92_20 : zz_Run zz_prog d 92 (20, [l0, l1, l2, l3, l4], .int w :: .int v :: st, k, h) = if ¬ v = w then zz_Run zz_prog d 92 (39, [l0, l1, l2, l3, l4], st, k, h) else zz_Run zz_prog d 92 (23, [l0, l1, l2, l3, l4], st, k, h) := zz_k_br (¬ v = w) rfl (zz_k_num f92_20 rfl)
theorem f92_23 : zz_fetch zz_prog 92 23 = some (.aload_n 0, 1, [], []) := zz_fetch_of p92 rfl rfl
theorem s92_23 : zz_Run zz_prog d 92 (23, [some (.ref a), l1, l2, l3, l4], st, k, h) = zz_Run zz_prog d 92 (24, [some (.ref a), l1, l2, l3, l4], .ref a :: st, k, h) := zz_k_num f92_23 rfl
theorem f92_24 : zz_fetch zz_prog 92 24 = some (.getfield 19, 3, [2, 5, 3], []) := zz_fetch_of p92 rfl rfl
theorem s92_24 : zz_Run zz_prog d 92 (24, [l0, l1, l2, l3, l4], .ref 23 :: st, k, (zz_hp n I J ex)) = zz_Run zz_prog d 92 (27, [l0, l1, l2, l3, l4], .ref 27 :: st, k, (zz_hp n I J ex)) := zz_k_go f92_24 rfl rfl rfl
theorem f92_27 : zz_fetch zz_prog 92 27 = some (.iload 4, 2, [], []) := zz_fetch_of p92 rfl rfl
theorem s92_27 : zz_Run zz_prog d 92 (27, [l0, l1, l2, l3, some (.int v)], st, k, h) = zz_Run zz_prog d 92 (29, [l0, l1, l2, l3, some (.int v)], .int v :: st, k, h) := zz_k_num f92_27 rfl
theorem f92_29 : zz_fetch zz_prog 92 29 = some (.iaload, 1, [], []) := zz_fetch_of p92 rfl rfl
theorem s92_29 (ha : zz_isrd a = true) : zz_Run zz_prog d 92 (29, [l0, l1, l2, l3, l4], .int v :: .ref a :: st, k, (zz_hp n I J ex)) = zz_ck (zz_in v (zz_ary n a)) (zz_Run zz_prog d 92 (30, [l0, l1, l2, l3, l4], .int (I a v.toNatClampNeg) :: st, k, (zz_hp n I J ex))) := zz_k_iald f92_29 ha
theorem f92_30 : zz_fetch zz_prog 92 30 = some (.iload_n 2, 1, [], []) := zz_fetch_of p92 rfl rfl
theorem s92_30 : zz_Run zz_prog d 92 (30, [l0, l1, some (.int v), l3, l4], st, k, h) = zz_Run zz_prog d 92 (31, [l0, l1, some (.int v), l3, l4], .int v :: st, k, h) := zz_k_num f92_30 rfl
theorem f92_31 : zz_fetch zz_prog 92 31 = some (.if_icmp .ne 8, 3, [39], []) := zz_fetch_of p92 rfl rfl
theorem s92_31 : zz_Run zz_prog d 92 (31, [l0, l1, l2, l3, l4], .int w :: .int v :: st, k, h) = if ¬ v = w then zz_Run zz_prog d 92 (39, [l0, l1, l2, l3, l4], st, k, h) else zz_Run zz_prog d 92 (34, [l0, l1, l2, l3, l4], st, k, h) := zz_k_br (¬ v = w) rfl (zz_k_num f92_31 rfl)
theorem f92_34 : zz_fetch zz_prog 92 34 = some (.iload 4, 2, [], []) := zz_fetch_of p92 rfl rfl
theorem s92_34 : zz_Run zz_prog d 92 (34, [l0, l1, l2, l3, some (.int v)], st, k, h) = zz_Run zz_prog d 92 (36, [l0, l1, l2, l3, some (.int v)], .int v :: st, k, h) := zz_k_num f92_34 rfl
theorem f92_36 : zz_fetch zz_prog 92 36 = some (.goto 4, 3, [40], []) := zz_fetch_of p92 rfl rfl
theorem s92_36 : zz_Run zz_prog d 92 (36, [l0, l1, l2, l3, l4], st, k, h) = zz_Run zz_prog d 92 (40, [l0, l1, l2, l3, l4], st, k, h) := zz_k_num f92_36 rfl
theorem f92_39 : zz_fetch zz_prog 92 39 = some (.iload_n 3, 1, [], []) := zz_fetch_of p92 rfl rfl
theorem s92_39 : zz_Run zz_prog d 92 (39, [l0, l1, l2, some (.int v), l4], st, k, h) = zz_Run zz_prog d 92 (40, [l0, l1, l2, some (.int v), l4], .int v :: st, k, h) := zz_k_num f92_39 rfl
theorem f92_40 : zz_fetch zz_prog 92 40 = some (.istore_n 3, 1, [], []) := zz_fetch_of p92 rfl rfl
theorem s92_40 : zz_Run zz_prog d 92 (40, [l0, l1, l2, l3, l4], .int v :: st, k, h) = zz_sl l2 (zz_Run zz_prog d 92 (41, [l0, l1, l2, some (.int v), l4], st, k, h)) := zz_k_st (j := 3) (u := .int v) f92_40 rfl (fun q hq => by cases hq) rfl (show 3 < 5 by decide) (by cases l2 <;> rfl) rfl
theorem f92_41 : zz_fetch zz_prog 92 41 = some (.iinc 4 1, 3, [], []) := zz_fetch_of p92 rfl rfl
theorem s92_41 : zz_Run zz_prog d 92 (41, [l0, l1, l2, l3, some (.int v)], st, k, h) = zz_sl l3 (zz_Run zz_prog d 92 (44, [l0, l1, l2, l3, some (.int (v + 1))], st, k, h)) := zz_k_st (j := 4) (u := .int (v + 1)) f92_41 rfl (fun q hq => by cases hq) rfl (show 4 < 5 by decide) (by cases l3 <;> rfl) rfl
theorem f92_44 : zz_fetch zz_prog 92 44 = some (.goto (-39), 3, [5], []) := zz_fetch_of p92 rfl rfl
theorem s92_44 : zz_Run zz_prog d 92 (44, [l0, l1, l2, l3, l4], st, k, h) = zz_Run zz_prog d 92 (5, [l0, l1, l2, l3, l4], st, k, h) := zz_k_num f92_44 rfl
theorem f92_47 : zz_fetch zz_prog 92 47 = some (.iload_n 3, 1, [], []) := zz_fetch_of p92 rfl rfl
theorem s92_47 : zz_Run zz_prog d 92 (47, [l0, l1, l2, some (.int v), l4], st, k, h) = zz_Run zz_prog d 92 (48, [l0, l1, l2, some (.int v), l4], .int v :: st, k, h) := zz_k_num f92_47 rfl
theorem f92_48 : zz_fetch zz_prog 92 48 = some (.ireturn, 1, [0], []) := zz_fetch_of p92 rfl rfl
theorem s92_48 : zz_Run zz_prog d 92 (48, [l0, l1, l2, l3, l4], [.int v], k, h) = some (.inl (some (.int v)), k, h) := zz_k_stop f92_48 rfl rfl rfl
end S92
section S93
variable {d n j : Nat} {l0 l1 l2 l3 l4 : Option Value} {st : List Value} {k : Bool} {h : zz_H} {v w v1 v2 : Int32} {y y1 : Int64} {a a1 a2 : Nat} {b0 b1 b2 b3 b4 b5 b6 b7 b8 : Value} {I : Nat → Nat → Int32} {J : Nat → Nat → Int64} {ex : List (Nat × Nat)}
theorem p93 : zz_prog 93 = some zz_m93 := rfl
theorem e93 (g0 : Nat) (g1 : Int32) (g2 : Int32) : zz_Call zz_prog (d + 1) 93 [.ref g0, .int g1, .int g2] h = zz_Run zz_prog d 93 (0, [some (.ref g0), some (.int g1), some (.int g2), none, none], [], true, h) := rfl
theorem t93 (pc : Nat) (L : List (Option Value)) : zz_th d 93 pc a L k h = some (.inr a, k, h) := zz_th_out p93 rfl
theorem f93_0 : zz_fetch zz_prog 93 0 = some (.iconst 0, 1, [], []) := zz_fetch_of p93 rfl rfl
theorem s93_0 : zz_Run zz_prog d 93 (0, [l0, l1, l2, l3, l4], st, k, h) = zz_Run zz_prog d 93 (1, [l0, l1, l2, l3, l4], .int 0 :: st, k, h) := zz_k_num f93_0 rfl
theorem f93_1 : zz_fetch zz_prog 93 1 = some (.istore_n 3, 1, [], []) := zz_fetch_of p93 rfl rfl
theorem s93_1 : zz_Run zz_prog d 93 (1, [l0, l1, l2, l3, l4], .int v :: st, k, h) = zz_sl l2 (zz_Run zz_prog d 93 (2, [l0, l1, l2, some (.int v), l4], st, k, h)) := zz_k_st (j := 3) (u := .int v) f93_1 rfl (fun q hq => by cases hq) rfl (show 3 < 5 by decide) (by cases l2 <;> rfl) rfl
theorem f93_2 : zz_fetch zz_prog 93 2 = some (.iconst 0, 1, [], []) := zz_fetch_of p93 rfl rfl
theorem s93_2 : zz_Run zz_prog d 93 (2, [l0, l1, l2, l3, l4], st, k, h) = zz_Run zz_prog d 93 (3, [l0, l1, l2, l3, l4], .int 0 :: st, k, h) := zz_k_num f93_2 rfl
theorem f93_3 : zz_fetch zz_prog 93 3 = some (.istore 4, 2, [], []) := zz_fetch_of p93 rfl rfl
theorem s93_3 : zz_Run zz_prog d 93 (3, [l0, l1, l2, l3, l4], .int v :: st, k, h) = zz_sl l3 (zz_Run zz_prog d 93 (5, [l0, l1, l2, l3, some (.int v)], st, k, h)) := zz_k_st (j := 4) (u := .int v) f93_3 rfl (fun q hq => by cases hq) rfl (show 4 < 5 by decide) (by cases l3 <;> rfl) rfl
theorem f93_5 : zz_fetch zz_prog 93 5 = some (.iload 4, 2, [], []) := zz_fetch_of p93 rfl rfl
theorem s93_5 : zz_Run zz_prog d 93 (5, [l0, l1, l2, l3, some (.int v)], st, k, h) = zz_Run zz_prog d 93 (7, [l0, l1, l2, l3, some (.int v)], .int v :: st, k, h) := zz_k_num f93_5 rfl
theorem f93_7 : zz_fetch zz_prog 93 7 = some (.bipush 6, 2, [], []) := zz_fetch_of p93 rfl rfl
theorem s93_7 : zz_Run zz_prog d 93 (7, [l0, l1, l2, l3, l4], st, k, h) = zz_Run zz_prog d 93 (9, [l0, l1, l2, l3, l4], .int 6 :: st, k, h) := zz_k_num f93_7 (congrArg (fun u => some (9, [l0, l1, l2, l3, l4], Value.int u :: st)) (by decide : (Int8.ofInt 6).toInt32 = 6))
theorem f93_9 : zz_fetch zz_prog 93 9 = some (.if_icmp .ge 35, 3, [44], []) := zz_fetch_of p93 rfl rfl
theorem s93_9 : zz_Run zz_prog d 93 (9, [l0, l1, l2, l3, l4], .int w :: .int v :: st, k, h) = if w ≤ v then zz_Run zz_prog d 93 (44, [l0, l1, l2, l3, l4], st, k, h) else zz_Run zz_prog d 93 (12, [l0, l1, l2, l3, l4], st, k, h) := zz_k_br (w ≤ v) rfl (zz_k_num f93_9 rfl)
theorem f93_12 : zz_fetch zz_prog 93 12 = some (.iload_n 3, 1, [], []) := zz_fetch_of p93 rfl rfl
theorem s93_12 : zz_Run zz_prog d 93 (12, [l0, l1, l2, some (.int v), l4], st, k, h) = zz_Run zz_prog d 93 (13, [l0, l1, l2, some (.int v), l4], .int v :: st, k, h) := zz_k_num f93_12 rfl
theorem f93_13 : zz_fetch zz_prog 93 13 = some (.ifCond .ne 19, 3, [32], []) := zz_fetch_of p93 rfl rfl
theorem s93_13 : zz_Run zz_prog d 93 (13, [l0, l1, l2, l3, l4], .int v :: st, k, h) = if ¬ v = 0 then zz_Run zz_prog d 93 (32, [l0, l1, l2, l3, l4], st, k, h) else zz_Run zz_prog d 93 (16, [l0, l1, l2, l3, l4], st, k, h) := zz_k_br (¬ v = 0) rfl (zz_k_num f93_13 rfl)
theorem f93_16 : zz_fetch zz_prog 93 16 = some (.aload_n 0, 1, [], []) := zz_fetch_of p93 rfl rfl
theorem s93_16 : zz_Run zz_prog d 93 (16, [some (.ref a), l1, l2, l3, l4], st, k, h) = zz_Run zz_prog d 93 (17, [some (.ref a), l1, l2, l3, l4], .ref a :: st, k, h) := zz_k_num f93_16 rfl
theorem f93_17 : zz_fetch zz_prog 93 17 = some (.getfield 28, 3, [2, 8, 3], []) := zz_fetch_of p93 rfl rfl
theorem s93_17 : zz_Run zz_prog d 93 (17, [l0, l1, l2, l3, l4], .ref 23 :: st, k, (zz_hp n I J ex)) = zz_Run zz_prog d 93 (20, [l0, l1, l2, l3, l4], .ref 30 :: st, k, (zz_hp n I J ex)) := zz_k_go f93_17 rfl rfl rfl
theorem f93_20 : zz_fetch zz_prog 93 20 = some (.bipush 6, 2, [], []) := zz_fetch_of p93 rfl rfl
theorem s93_20 : zz_Run zz_prog d 93 (20, [l0, l1, l2, l3, l4], st, k, h) = zz_Run zz_prog d 93 (22, [l0, l1, l2, l3, l4], .int 6 :: st, k, h) := zz_k_num f93_20 (congrArg (fun u => some (22, [l0, l1, l2, l3, l4], Value.int u :: st)) (by decide : (Int8.ofInt 6).toInt32 = 6))
theorem f93_22 : zz_fetch zz_prog 93 22 = some (.iload_n 2, 1, [], []) := zz_fetch_of p93 rfl rfl
theorem s93_22 : zz_Run zz_prog d 93 (22, [l0, l1, some (.int v), l3, l4], st, k, h) = zz_Run zz_prog d 93 (23, [l0, l1, some (.int v), l3, l4], .int v :: st, k, h) := zz_k_num f93_22 rfl
theorem f93_23 : zz_fetch zz_prog 93 23 = some (.imul, 1, [], []) := zz_fetch_of p93 rfl rfl
theorem s93_23 : zz_Run zz_prog d 93 (23, [l0, l1, l2, l3, l4], .int w :: .int v :: st, k, h) = zz_Run zz_prog d 93 (24, [l0, l1, l2, l3, l4], .int (v * w) :: st, k, h) := zz_k_num f93_23 rfl
theorem f93_24 : zz_fetch zz_prog 93 24 = some (.iload 4, 2, [], []) := zz_fetch_of p93 rfl rfl
theorem s93_24 : zz_Run zz_prog d 93 (24, [l0, l1, l2, l3, some (.int v)], st, k, h) = zz_Run zz_prog d 93 (26, [l0, l1, l2, l3, some (.int v)], .int v :: st, k, h) := zz_k_num f93_24 rfl
theorem f93_26 : zz_fetch zz_prog 93 26 = some (.iadd, 1, [], []) := zz_fetch_of p93 rfl rfl
theorem s93_26 : zz_Run zz_prog d 93 (26, [l0, l1, l2, l3, l4], .int w :: .int v :: st, k, h) = zz_Run zz_prog d 93 (27, [l0, l1, l2, l3, l4], .int (v + w) :: st, k, h) := zz_k_num f93_26 rfl
theorem f93_27 : zz_fetch zz_prog 93 27 = some (.iaload, 1, [], []) := zz_fetch_of p93 rfl rfl
theorem s93_27 (ha : zz_isrd a = true) : zz_Run zz_prog d 93 (27, [l0, l1, l2, l3, l4], .int v :: .ref a :: st, k, (zz_hp n I J ex)) = zz_ck (zz_in v (zz_ary n a)) (zz_Run zz_prog d 93 (28, [l0, l1, l2, l3, l4], .int (I a v.toNatClampNeg) :: st, k, (zz_hp n I J ex))) := zz_k_iald f93_27 ha
theorem f93_28 : zz_fetch zz_prog 93 28 = some (.iload_n 1, 1, [], []) := zz_fetch_of p93 rfl rfl
theorem s93_28 : zz_Run zz_prog d 93 (28, [l0, some (.int v), l2, l3, l4], st, k, h) = zz_Run zz_prog d 93 (29, [l0, some (.int v), l2, l3, l4], .int v :: st, k, h) := zz_k_num f93_28 rfl
theorem f93_29 : zz_fetch zz_prog 93 29 = some (.if_icmp .ne 7, 3, [36], []) := zz_fetch_of p93 rfl rfl
theorem s93_29 : zz_Run zz_prog d 93 (29, [l0, l1, l2, l3, l4], .int w :: .int v :: st, k, h) = if ¬ v = w then zz_Run zz_prog d 93 (36, [l0, l1, l2, l3, l4], st, k, h) else zz_Run zz_prog d 93 (32, [l0, l1, l2, l3, l4], st, k, h) := zz_k_br (¬ v = w) rfl (zz_k_num f93_29 rfl)
theorem f93_32 : zz_fetch zz_prog 93 32 = some (.iconst 1, 1, [], []) := zz_fetch_of p93 rfl rfl
theorem s93_32 : zz_Run zz_prog d 93 (32, [l0, l1, l2, l3, l4], st, k, h) = zz_Run zz_prog d 93 (33, [l0, l1, l2, l3, l4], .int 1 :: st, k, h) := zz_k_num f93_32 rfl
theorem f93_33 : zz_fetch zz_prog 93 33 = some (.goto 4, 3, [37], []) := zz_fetch_of p93 rfl rfl
theorem s93_33 : zz_Run zz_prog d 93 (33, [l0, l1, l2, l3, l4], st, k, h) = zz_Run zz_prog d 93 (37, [l0, l1, l2, l3, l4], st, k, h) := zz_k_num f93_33 rfl
theorem f93_36 : zz_fetch zz_prog 93 36 = some (.iconst 0, 1, [], []) := zz_fetch_of p93 rfl rfl
theorem s93_36 : zz_Run zz_prog d 93 (36, [l0, l1, l2, l3, l4], st, k, h) = zz_Run zz_prog d 93 (37, [l0, l1, l2, l3, l4], .int 0 :: st, k, h) := zz_k_num f93_36 rfl
theorem f93_37 : zz_fetch zz_prog 93 37 = some (.istore_n 3, 1, [], []) := zz_fetch_of p93 rfl rfl
theorem s93_37 : zz_Run zz_prog d 93 (37, [l0, l1, l2, l3, l4], .int v :: st, k, h) = zz_sl l2 (zz_Run zz_prog d 93 (38, [l0, l1, l2, some (.int v), l4], st, k, h)) := zz_k_st (j := 3) (u := .int v) f93_37 rfl (fun q hq => by cases hq) rfl (show 3 < 5 by decide) (by cases l2 <;> rfl) rfl
theorem f93_38 : zz_fetch zz_prog 93 38 = some (.iinc 4 1, 3, [], []) := zz_fetch_of p93 rfl rfl
theorem s93_38 : zz_Run zz_prog d 93 (38, [l0, l1, l2, l3, some (.int v)], st, k, h) = zz_sl l3 (zz_Run zz_prog d 93 (41, [l0, l1, l2, l3, some (.int (v + 1))], st, k, h)) := zz_k_st (j := 4) (u := .int (v + 1)) f93_38 rfl (fun q hq => by cases hq) rfl (show 4 < 5 by decide) (by cases l3 <;> rfl) rfl
theorem f93_41 : zz_fetch zz_prog 93 41 = some (.goto (-36), 3, [5], []) := zz_fetch_of p93 rfl rfl
theorem s93_41 : zz_Run zz_prog d 93 (41, [l0, l1, l2, l3, l4], st, k, h) = zz_Run zz_prog d 93 (5, [l0, l1, l2, l3, l4], st, k, h) := zz_k_num f93_41 rfl
theorem f93_44 : zz_fetch zz_prog 93 44 = some (.iload_n 3, 1, [], []) := zz_fetch_of p93 rfl rfl
theorem s93_44 : zz_Run zz_prog d 93 (44, [l0, l1, l2, some (.int v), l4], st, k, h) = zz_Run zz_prog d 93 (45, [l0, l1, l2, some (.int v), l4], .int v :: st, k, h) := zz_k_num f93_44 rfl
theorem f93_45 : zz_fetch zz_prog 93 45 = some (.ireturn, 1, [1], []) := zz_fetch_of p93 rfl rfl
theorem s93_45 : zz_Run zz_prog d 93 (45, [l0, l1, l2, l3, l4], [.int v], k, h) = zz_ck (decide (v = 0 ∨ v = 1)) (some (.inl (some (.int v)), k, h)) := zz_k_retz f93_45
end S93
section S94
variable {d n j : Nat} {l0 l1 l2 l3 : Option Value} {st : List Value} {k : Bool} {h : zz_H} {v w v1 v2 : Int32} {y y1 : Int64} {a a1 a2 : Nat} {b0 b1 b2 b3 b4 b5 b6 b7 b8 : Value} {I : Nat → Nat → Int32} {J : Nat → Nat → Int64} {ex : List (Nat × Nat)}
theorem p94 : zz_prog 94 = some zz_m94 := rfl
theorem e94 (g0 : Nat) (g1 : Int32) : zz_Call zz_prog (d + 1) 94 [.ref g0, .int g1] h = zz_Run zz_prog d 94 (0, [some (.ref g0), some (.int g1), none, none], [], true, h) := rfl
theorem t94 (pc : Nat) (L : List (Option Value)) : zz_th d 94 pc a L k h = some (.inr a, k, h) := zz_th_out p94 rfl
theorem f94_0 : zz_fetch zz_prog 94 0 = some (.iconst 0, 1, [], []) := zz_fetch_of p94 rfl rfl
theorem s94_0 : zz_Run zz_prog d 94 (0, [l0, l1, l2, l3], st, k, h) = zz_Run zz_prog d 94 (1, [l0, l1, l2, l3], .int 0 :: st, k, h) := zz_k_num f94_0 rfl
theorem f94_1 : zz_fetch zz_prog 94 1 = some (.istore_n 2, 1, [], []) := zz_fetch_of p94 rfl rfl
theorem s94_1 : zz_Run zz_prog d 94 (1, [l0, l1, l2, l3], .int v :: st, k, h) = zz_sl l1 (zz_Run zz_prog d 94 (2, [l0, l1, some (.int v), l3], st, k, h)) := zz_k_st (j := 2) (u := .int v) f94_1 rfl (fun q hq => by cases hq) rfl (show 2 < 4 by decide) (by cases l1 <;> rfl) rfl
theorem f94_2 : zz_fetch zz_prog 94 2 = some (.iconst 0, 1, [], []) := zz_fetch_of p94 rfl rfl
theorem s94_2 : zz_Run zz_prog d 94 (2, [l0, l1, l2, l3], st, k, h) = zz_Run zz_prog d 94 (3, [l0, l1, l2, l3], .int 0 :: st, k, h) := zz_k_num f94_2 rfl
theorem f94_3 : zz_fetch zz_prog 94 3 = some (.istore_n 3, 1, [], []) := zz_fetch_of p94 rfl rfl
theorem s94_3 : zz_Run zz_prog d 94 (3, [l0, l1, l2, l3], .int v :: st, k, h) = zz_sl l2 (zz_Run zz_prog d 94 (4, [l0, l1, l2, some (.int v)], st, k, h)) := zz_k_st (j := 3) (u := .int v) f94_3 rfl (fun q hq => by cases hq) rfl (show 3 < 4 by decide) (by cases l2 <;> rfl) rfl
theorem f94_4 : zz_fetch zz_prog 94 4 = some (.iload_n 3, 1, [], []) := zz_fetch_of p94 rfl rfl
theorem s94_4 : zz_Run zz_prog d 94 (4, [l0, l1, l2, some (.int v)], st, k, h) = zz_Run zz_prog d 94 (5, [l0, l1, l2, some (.int v)], .int v :: st, k, h) := zz_k_num f94_4 rfl
theorem f94_5 : zz_fetch zz_prog 94 5 = some (.bipush 19, 2, [], []) := zz_fetch_of p94 rfl rfl
theorem s94_5 : zz_Run zz_prog d 94 (5, [l0, l1, l2, l3], st, k, h) = zz_Run zz_prog d 94 (7, [l0, l1, l2, l3], .int 19 :: st, k, h) := zz_k_num f94_5 (congrArg (fun u => some (7, [l0, l1, l2, l3], Value.int u :: st)) (by decide : (Int8.ofInt 19).toInt32 = 19))
theorem f94_7 : zz_fetch zz_prog 94 7 = some (.if_icmp .ge 45, 3, [52], []) := zz_fetch_of p94 rfl rfl
theorem s94_7 : zz_Run zz_prog d 94 (7, [l0, l1, l2, l3], .int w :: .int v :: st, k, h) = if w ≤ v then zz_Run zz_prog d 94 (52, [l0, l1, l2, l3], st, k, h) else zz_Run zz_prog d 94 (10, [l0, l1, l2, l3], st, k, h) := zz_k_br (w ≤ v) rfl (zz_k_num f94_7 rfl)
theorem f94_10 : zz_fetch zz_prog 94 10 = some (.aload_n 0, 1, [], []) := zz_fetch_of p94 rfl rfl
theorem s94_10 : zz_Run zz_prog d 94 (10, [some (.ref a), l1, l2, l3], st, k, h) = zz_Run zz_prog d 94 (11, [some (.ref a), l1, l2, l3], .ref a :: st, k, h) := zz_k_num f94_10 rfl
theorem f94_11 : zz_fetch zz_prog 94 11 = some (.aload_n 0, 1, [], []) := zz_fetch_of p94 rfl rfl
theorem s94_11 : zz_Run zz_prog d 94 (11, [some (.ref a), l1, l2, l3], st, k, h) = zz_Run zz_prog d 94 (12, [some (.ref a), l1, l2, l3], .ref a :: st, k, h) := zz_k_num f94_11 rfl
theorem f94_12 : zz_fetch zz_prog 94 12 = some (.getfield 22, 3, [2, 6, 3], []) := zz_fetch_of p94 rfl rfl
theorem s94_12 : zz_Run zz_prog d 94 (12, [l0, l1, l2, l3], .ref 23 :: st, k, (zz_hp n I J ex)) = zz_Run zz_prog d 94 (15, [l0, l1, l2, l3], .ref 28 :: st, k, (zz_hp n I J ex)) := zz_k_go f94_12 rfl rfl rfl
theorem f94_15 : zz_fetch zz_prog 94 15 = some (.iload_n 1, 1, [], []) := zz_fetch_of p94 rfl rfl
theorem s94_15 : zz_Run zz_prog d 94 (15, [l0, some (.int v), l2, l3], st, k, h) = zz_Run zz_prog d 94 (16, [l0, some (.int v), l2, l3], .int v :: st, k, h) := zz_k_num f94_15 rfl
theorem f94_16 : zz_fetch zz_prog 94 16 = some (.iaload, 1, [], []) := zz_fetch_of p94 rfl rfl
theorem s94_16 (ha : zz_isrd a = true) : zz_Run zz_prog d 94 (16, [l0, l1, l2, l3], .int v :: .ref a :: st, k, (zz_hp n I J ex)) = zz_ck (zz_in v (zz_ary n a)) (zz_Run zz_prog d 94 (17, [l0, l1, l2, l3], .int (I a v.toNatClampNeg) :: st, k, (zz_hp n I J ex))) := zz_k_iald f94_16 ha
theorem f94_17 : zz_fetch zz_prog 94 17 = some (.iload_n 3, 1, [], []) := zz_fetch_of p94 rfl rfl
theorem s94_17 : zz_Run zz_prog d 94 (17, [l0, l1, l2, some (.int v)], st, k, h) = zz_Run zz_prog d 94 (18, [l0, l1, l2, some (.int v)], .int v :: st, k, h) := zz_k_num f94_17 rfl
theorem f94_18 : zz_fetch zz_prog 94 18 = some (.invokevirtual 86, 3, [0, 93, 3, 2], []) := zz_fetch_of p94 rfl rfl
theorem s94_18 : zz_Run zz_prog d 94 (18, [l0, l1, l2, l3], [b0, b1, .ref 23], k, (zz_hp n I J ex)) = zz_ret (zz_Call zz_prog d 93 [.ref 23, b1, b0] (zz_hp n I J ex)) (fun v k' h' => zz_Run zz_prog d 94 (21, [l0, l1, l2, l3], v.toList ++ [], k && k', h')) (fun a k' h' => zz_th d 94 18 a [l0, l1, l2, l3] (k && k') h') := zz_k_call f94_18 rfl rfl rfl
theorem f94_21 : zz_fetch zz_prog 94 21 = some (.ifCond .eq 23, 3, [44], []) := zz_fetch_of p94 rfl rfl
theorem s94_21 : zz_Run zz_prog d 94 (21, [l0, l1, l2, l3], .int v :: st, k, h) = if v = 0 then zz_Run zz_prog d 94 (44, [l0, l1, l2, l3], st, k, h) else zz_Run zz_prog d 94 (24, [l0, l1, l2, l3], st, k, h) := zz_k_br (v = 0) rfl (zz_k_num f94_21 rfl)
theorem f94_24 : zz_fetch zz_prog 94 24 = some (.aload_n 0, 1, [], []) := zz_fetch_of p94 rfl rfl
theorem s94_24 : zz_Run zz_prog d 94 (24, [some (.ref a), l1, l2, l3], st, k, h) = zz_Run zz_prog d 94 (25, [some (.ref a), l1, l2, l3], .ref a :: st, k, h) := zz_k_num f94_24 rfl
theorem f94_25 : zz_fetch zz_prog 94 25 = some (.aload_n 0, 1, [], []) := zz_fetch_of p94 rfl rfl
theorem s94_25 : zz_Run zz_prog d 94 (25, [some (.ref a), l1, l2, l3], st, k, h) = zz_Run zz_prog d 94 (26, [some (.ref a), l1, l2, l3], .ref a :: st, k, h) := zz_k_num f94_25 rfl
theorem f94_26 : zz_fetch zz_prog 94 26 = some (.getfield 25, 3, [2, 7, 3], []) := zz_fetch_of p94 rfl rfl
theorem s94_26 : zz_Run zz_prog d 94 (26, [l0, l1, l2, l3], .ref 23 :: st, k, (zz_hp n I J ex)) = zz_Run zz_prog d 94 (29, [l0, l1, l2, l3], .ref 29 :: st, k, (zz_hp n I J ex)) := zz_k_go f94_26 rfl rfl rfl
theorem f94_29 : zz_fetch zz_prog 94 29 = some (.iload_n 1, 1, [], []) := zz_fetch_of p94 rfl rfl
theorem s94_29 : zz_Run zz_prog d 94 (29, [l0, some (.int v), l2, l3], st, k, h) = zz_Run zz_prog d 94 (30, [l0, some (.int v), l2, l3], .int v :: st, k, h) := zz_k_num f94_29 rfl
theorem f94_30 : zz_fetch zz_prog 94 30 = some (.iaload, 1, [], []) := zz_fetch_of p94 rfl rfl
theorem s94_30 (ha : zz_isrd a = true) : zz_Run zz_prog d 94 (30, [l0, l1, l2, l3], .int v :: .ref a :: st, k, (zz_hp n I J ex)) = zz_ck (zz_in v (zz_ary n a)) (zz_Run zz_prog d 94 (31, [l0, l1, l2, l3], .int (I a v.toNatClampNeg) :: st, k, (zz_hp n I J ex))) := zz_k_iald f94_30 ha
theorem f94_31 : zz_fetch zz_prog 94 31 = some (.iload_n 3, 1, [], []) := zz_fetch_of p94 rfl rfl
theorem s94_31 : zz_Run zz_prog d 94 (31, [l0, l1, l2, some (.int v)], st, k, h) = zz_Run zz_prog d 94 (32, [l0, l1, l2, some (.int v)], .int v :: st, k, h) := zz_k_num f94_31 rfl
theorem f94_32 : zz_fetch zz_prog 94 32 = some (.invokevirtual 86, 3, [0, 93, 3, 2], []) := zz_fetch_of p94 rfl rfl
theorem s94_32 : zz_Run zz_prog d 94 (32, [l0, l1, l2, l3], [b0, b1, .ref 23], k, (zz_hp n I J ex)) = zz_ret (zz_Call zz_prog d 93 [.ref 23, b1, b0] (zz_hp n I J ex)) (fun v k' h' => zz_Run zz_prog d 94 (35, [l0, l1, l2, l3], v.toList ++ [], k && k', h')) (fun a k' h' => zz_th d 94 32 a [l0, l1, l2, l3] (k && k') h') := zz_k_call f94_32 rfl rfl rfl
theorem f94_35 : zz_fetch zz_prog 94 35 = some (.ifCond .eq 9, 3, [44], []) := zz_fetch_of p94 rfl rfl
theorem s94_35 : zz_Run zz_prog d 94 (35, [l0, l1, l2, l3], .int v :: st, k, h) = if v = 0 then zz_Run zz_prog d 94 (44, [l0, l1, l2, l3], st, k, h) else zz_Run zz_prog d 94 (38, [l0, l1, l2, l3], st, k, h) := zz_k_br (v = 0) rfl (zz_k_num f94_35 rfl)
theorem f94_38 : zz_fetch zz_prog 94 38 = some (.iload_n 2, 1, [], []) := zz_fetch_of p94 rfl rfl
theorem s94_38 : zz_Run zz_prog d 94 (38, [l0, l1, some (.int v), l3], st, k, h) = zz_Run zz_prog d 94 (39, [l0, l1, some (.int v), l3], .int v :: st, k, h) := zz_k_num f94_38 rfl
theorem f94_39 : zz_fetch zz_prog 94 39 = some (.iconst 1, 1, [], []) := zz_fetch_of p94 rfl rfl
theorem s94_39 : zz_Run zz_prog d 94 (39, [l0, l1, l2, l3], st, k, h) = zz_Run zz_prog d 94 (40, [l0, l1, l2, l3], .int 1 :: st, k, h) := zz_k_num f94_39 rfl
theorem f94_40 : zz_fetch zz_prog 94 40 = some (.iadd, 1, [], []) := zz_fetch_of p94 rfl rfl
theorem s94_40 : zz_Run zz_prog d 94 (40, [l0, l1, l2, l3], .int w :: .int v :: st, k, h) = zz_Run zz_prog d 94 (41, [l0, l1, l2, l3], .int (v + w) :: st, k, h) := zz_k_num f94_40 rfl
theorem f94_41 : zz_fetch zz_prog 94 41 = some (.goto 4, 3, [45], []) := zz_fetch_of p94 rfl rfl
theorem s94_41 : zz_Run zz_prog d 94 (41, [l0, l1, l2, l3], st, k, h) = zz_Run zz_prog d 94 (45, [l0, l1, l2, l3], st, k, h) := zz_k_num f94_41 rfl
theorem f94_44 : zz_fetch zz_prog 94 44 = some (.iload_n 2, 1, [], []) := zz_fetch_of p94 rfl rfl
theorem s94_44 : zz_Run zz_prog d 94 (44, [l0, l1, some (.int v), l3], st, k, h) = zz_Run zz_prog d 94 (45, [l0, l1, some (.int v), l3], .int v :: st, k, h) := zz_k_num f94_44 rfl
theorem f94_45 : zz_fetch zz_prog 94 45 = some (.istore_n 2, 1, [], []) := zz_fetch_of p94 rfl rfl
theorem s94_45 : zz_Run zz_prog d 94 (45, [l0, l1, l2, l3], .int v :: st, k, h) = zz_sl l1 (zz_Run zz_prog d 94 (46, [l0, l1, some (.int v), l3], st, k, h)) := zz_k_st (j := 2) (u := .int v) f94_45 rfl (fun q hq => by cases hq) rfl (show 2 < 4 by decide) (by cases l1 <;> rfl) rfl
theorem f94_46 : zz_fetch zz_prog 94 46 = some (.iinc 3 1, 3, [], []) := zz_fetch_of p94 rfl rfl
theorem s94_46 : zz_Run zz_prog d 94 (46, [l0, l1, l2, some (.int v)], st, k, h) = zz_sl l2 (zz_Run zz_prog d 94 (49, [l0, l1, l2, some (.int (v + 1))], st, k, h)) := zz_k_st (j := 3) (u := .int (v + 1)) f94_46 rfl (fun q hq => by cases hq) rfl (show 3 < 4 by decide) (by cases l2 <;> rfl) rfl
theorem f94_49 : zz_fetch zz_prog 94 49 = some (.goto (-45), 3, [4], []) := zz_fetch_of p94 rfl rfl
theorem s94_49 : zz_Run zz_prog d 94 (49, [l0, l1, l2, l3], st, k, h) = zz_Run zz_prog d 94 (4, [l0, l1, l2, l3], st, k, h) := zz_k_num f94_49 rfl
theorem f94_52 : zz_fetch zz_prog 94 52 = some (.iload_n 2, 1, [], []) := zz_fetch_of p94 rfl rfl
theorem s94_52 : zz_Run zz_prog d 94 (52, [l0, l1, some (.int v), l3], st, k, h) = zz_Run zz_prog d 94 (53, [l0, l1, some (.int v), l3], .int v :: st, k, h) := zz_k_num f94_52 rfl
theorem f94_53 : zz_fetch zz_prog 94 53 = some (.iconst 1, 1, [], []) := zz_fetch_of p94 rfl rfl
theorem s94_53 : zz_Run zz_prog d 94 (53, [l0, l1, l2, l3], st, k, h) = zz_Run zz_prog d 94 (54, [l0, l1, l2, l3], .int 1 :: st, k, h) := zz_k_num f94_53 rfl
theorem f94_54 : zz_fetch zz_prog 94 54 = some (.if_icmp .ne 7, 3, [61], []) := zz_fetch_of p94 rfl rfl
theorem s94_54 : zz_Run zz_prog d 94 (54, [l0, l1, l2, l3], .int w :: .int v :: st, k, h) = if ¬ v = w then zz_Run zz_prog d 94 (61, [l0, l1, l2, l3], st, k, h) else zz_Run zz_prog d 94 (57, [l0, l1, l2, l3], st, k, h) := zz_k_br (¬ v = w) rfl (zz_k_num f94_54 rfl)
theorem f94_57 : zz_fetch zz_prog 94 57 = some (.iconst 1, 1, [], []) := zz_fetch_of p94 rfl rfl
theorem s94_57 : zz_Run zz_prog d 94 (57, [l0, l1, l2, l3], st, k, h) = zz_Run zz_prog d 94 (58, [l0, l1, l2, l3], .int 1 :: st, k, h) := zz_k_num f94_57 rfl
theorem f94_58 : zz_fetch zz_prog 94 58 = some (.goto 4, 3, [62], []) := zz_fetch_of p94 rfl rfl
theorem s94_58 : zz_Run zz_prog d 94 (58, [l0, l1, l2, l3], st, k, h) = zz_Run zz_prog d 94 (62, [l0, l1, l2, l3], st, k, h) := zz_k_num f94_58 rfl
theorem f94_61 : zz_fetch zz_prog 94 61 = some (.iconst 0, 1, [], []) := zz_fetch_of p94 rfl rfl
theorem s94_61 : zz_Run zz_prog d 94 (61, [l0, l1, l2, l3], st, k, h) = zz_Run zz_prog d 94 (62, [l0, l1, l2, l3], .int 0 :: st, k, h) := zz_k_num f94_61 rfl
theorem f94_62 : zz_fetch zz_prog 94 62 = some (.ireturn, 1, [1], []) := zz_fetch_of p94 rfl rfl
theorem s94_62 : zz_Run zz_prog d 94 (62, [l0, l1, l2, l3], [.int v], k, h) = zz_ck (decide (v = 0 ∨ v = 1)) (some (.inl (some (.int v)), k, h)) := zz_k_retz f94_62
end S94
section S95
variable {d n j : Nat} {l0 l1 l2 l3 : Option Value} {st : List Value} {k : Bool} {h : zz_H} {v w v1 v2 : Int32} {y y1 : Int64} {a a1 a2 : Nat} {b0 b1 b2 b3 b4 b5 b6 b7 b8 : Value} {I : Nat → Nat → Int32} {J : Nat → Nat → Int64} {ex : List (Nat × Nat)}
theorem p95 : zz_prog 95 = some zz_m95 := rfl
theorem e95 (g0 : Nat) (g1 : Int32) (g2 : Int32) (g3 : Int32) : zz_Call zz_prog (d + 1) 95 [.ref g0, .int g1, .int g2, .int g3] h = zz_Run zz_prog d 95 (0, [some (.ref g0), some (.int g1), some (.int g2), some (.int g3)], [], true, h) := rfl
theorem t95 (pc : Nat) (L : List (Option Value)) : zz_th d 95 pc a L k h = some (.inr a, k, h) := zz_th_out p95 rfl
theorem f95_0 : zz_fetch zz_prog 95 0 = some (.aload_n 0, 1, [], []) := zz_fetch_of p95 rfl rfl
theorem s95_0 : zz_Run zz_prog d 95 (0, [some (.ref a), l1, l2, l3], st, k, h) = zz_Run zz_prog d 95 (1, [some (.ref a), l1, l2, l3], .ref a :: st, k, h) := zz_k_num f95_0 rfl
theorem f95_1 : zz_fetch zz_prog 95 1 = some (.iload_n 1, 1, [], []) := zz_fetch_of p95 rfl rfl
theorem s95_1 : zz_Run zz_prog d 95 (1, [l0, some (.int v), l2, l3], st, k, h) = zz_Run zz_prog d 95 (2, [l0, some (.int v), l2, l3], .int v :: st, k, h) := zz_k_num f95_1 rfl
theorem f95_2 : zz_fetch zz_prog 95 2 = some (.ifCond .eq 7, 3, [9], []) := zz_fetch_of p95 rfl rfl
theorem s95_2 : zz_Run zz_prog d 95 (2, [l0, l1, l2, l3], .int v :: st, k, h) = if v = 0 then zz_Run zz_prog d 95 (9, [l0, l1, l2, l3], st, k, h) else zz_Run zz_prog d 95 (5, [l0, l1, l2, l3], st, k, h) := zz_k_br (v = 0) rfl (zz_k_num f95_2 rfl)
theorem f95_5 : zz_fetch zz_prog 95 5 = some (.iconst 1, 1, [], []) := zz_fetch_of p95 rfl rfl
theorem s95_5 : zz_Run zz_prog d 95 (5, [l0, l1, l2, l3], st, k, h) = zz_Run zz_prog d 95 (6, [l0, l1, l2, l3], .int 1 :: st, k, h) := zz_k_num f95_5 rfl
theorem f95_6 : zz_fetch zz_prog 95 6 = some (.goto 20, 3, [26], []) := zz_fetch_of p95 rfl rfl
theorem s95_6 : zz_Run zz_prog d 95 (6, [l0, l1, l2, l3], st, k, h) = zz_Run zz_prog d 95 (26, [l0, l1, l2, l3], st, k, h) := zz_k_num f95_6 rfl
theorem f95_9 : zz_fetch zz_prog 95 9 = some (.iload_n 2, 1, [], []) := zz_fetch_of p95 rfl rfl
theorem s95_9 : zz_Run zz_prog d 95 (9, [l0, l1, some (.int v), l3], st, k, h) = zz_Run zz_prog d 95 (10, [l0, l1, some (.int v), l3], .int v :: st, k, h) := zz_k_num f95_9 rfl
theorem f95_10 : zz_fetch zz_prog 95 10 = some (.ifCond .eq 7, 3, [17], []) := zz_fetch_of p95 rfl rfl
theorem s95_10 : zz_Run zz_prog d 95 (10, [l0, l1, l2, l3], .int v :: st, k, h) = if v = 0 then zz_Run zz_prog d 95 (17, [l0, l1, l2, l3], st, k, h) else zz_Run zz_prog d 95 (13, [l0, l1, l2, l3], st, k, h) := zz_k_br (v = 0) rfl (zz_k_num f95_10 rfl)
theorem f95_13 : zz_fetch zz_prog 95 13 = some (.iconst 2, 1, [], []) := zz_fetch_of p95 rfl rfl
theorem s95_13 : zz_Run zz_prog d 95 (13, [l0, l1, l2, l3], st, k, h) = zz_Run zz_prog d 95 (14, [l0, l1, l2, l3], .int 2 :: st, k, h) := zz_k_num f95_13 rfl
theorem f95_14 : zz_fetch zz_prog 95 14 = some (.goto 12, 3, [26], []) := zz_fetch_of p95 rfl rfl
theorem s95_14 : zz_Run zz_prog d 95 (14, [l0, l1, l2, l3], st, k, h) = zz_Run zz_prog d 95 (26, [l0, l1, l2, l3], st, k, h) := zz_k_num f95_14 rfl
theorem f95_17 : zz_fetch zz_prog 95 17 = some (.iload_n 3, 1, [], []) := zz_fetch_of p95 rfl rfl
theorem s95_17 : zz_Run zz_prog d 95 (17, [l0, l1, l2, some (.int v)], st, k, h) = zz_Run zz_prog d 95 (18, [l0, l1, l2, some (.int v)], .int v :: st, k, h) := zz_k_num f95_17 rfl
theorem f95_18 : zz_fetch zz_prog 95 18 = some (.ifCond .eq 7, 3, [25], []) := zz_fetch_of p95 rfl rfl
theorem s95_18 : zz_Run zz_prog d 95 (18, [l0, l1, l2, l3], .int v :: st, k, h) = if v = 0 then zz_Run zz_prog d 95 (25, [l0, l1, l2, l3], st, k, h) else zz_Run zz_prog d 95 (21, [l0, l1, l2, l3], st, k, h) := zz_k_br (v = 0) rfl (zz_k_num f95_18 rfl)
theorem f95_21 : zz_fetch zz_prog 95 21 = some (.iconst 3, 1, [], []) := zz_fetch_of p95 rfl rfl
theorem s95_21 : zz_Run zz_prog d 95 (21, [l0, l1, l2, l3], st, k, h) = zz_Run zz_prog d 95 (22, [l0, l1, l2, l3], .int 3 :: st, k, h) := zz_k_num f95_21 rfl
theorem f95_22 : zz_fetch zz_prog 95 22 = some (.goto 4, 3, [26], []) := zz_fetch_of p95 rfl rfl
theorem s95_22 : zz_Run zz_prog d 95 (22, [l0, l1, l2, l3], st, k, h) = zz_Run zz_prog d 95 (26, [l0, l1, l2, l3], st, k, h) := zz_k_num f95_22 rfl
theorem f95_25 : zz_fetch zz_prog 95 25 = some (.iconst 0, 1, [], []) := zz_fetch_of p95 rfl rfl
theorem s95_25 : zz_Run zz_prog d 95 (25, [l0, l1, l2, l3], st, k, h) = zz_Run zz_prog d 95 (26, [l0, l1, l2, l3], .int 0 :: st, k, h) := zz_k_num f95_25 rfl
theorem f95_26 : zz_fetch zz_prog 95 26 = some (.putfield 78, 3, [2, 0, 0], []) := zz_fetch_of p95 rfl rfl
theorem s95_26 : zz_Run zz_prog d 95 (26, [l0, l1, l2, l3], .int v :: .ref 23 :: st, k, (zz_hp n I J ex)) = zz_Run zz_prog d 95 (29, [l0, l1, l2, l3], st, false, (zz_hp n (zz_up I 23 0 v) J ex)) := zz_k_go f95_26 rfl rfl rfl
theorem f95_29 : zz_fetch zz_prog 95 29 = some (.aload_n 0, 1, [], []) := zz_fetch_of p95 rfl rfl
theorem s95_29 : zz_Run zz_prog d 95 (29, [some (.ref a), l1, l2, l3], st, k, h) = zz_Run zz_prog d 95 (30, [some (.ref a), l1, l2, l3], .ref a :: st, k, h) := zz_k_num f95_29 rfl
theorem f95_30 : zz_fetch zz_prog 95 30 = some (.getfield 78, 3, [2, 0, 0], []) := zz_fetch_of p95 rfl rfl
theorem s95_30 : zz_Run zz_prog d 95 (30, [l0, l1, l2, l3], .ref 23 :: st, k, (zz_hp n I J ex)) = zz_Run zz_prog d 95 (33, [l0, l1, l2, l3], .int (I 23 0) :: st, k, (zz_hp n I J ex)) := zz_k_go f95_30 rfl rfl rfl
theorem f95_33 : zz_fetch zz_prog 95 33 = some (.ifCond .le 7, 3, [40], []) := zz_fetch_of p95 rfl rfl
theorem s95_33 : zz_Run zz_prog d 95 (33, [l0, l1, l2, l3], .int v :: st, k, h) = if v ≤ 0 then zz_Run zz_prog d 95 (40, [l0, l1, l2, l3], st, k, h) else zz_Run zz_prog d 95 (36, [l0, l1, l2, l3], st, k, h) := zz_k_br (v ≤ 0) rfl (zz_k_num f95_33 rfl)
theorem f95_36 : zz_fetch zz_prog 95 36 = some (.iconst 1, 1, [], []) := zz_fetch_of p95 rfl rfl
theorem s95_36 : zz_Run zz_prog d 95 (36, [l0, l1, l2, l3], st, k, h) = zz_Run zz_prog d 95 (37, [l0, l1, l2, l3], .int 1 :: st, k, h) := zz_k_num f95_36 rfl
theorem f95_37 : zz_fetch zz_prog 95 37 = some (.goto 4, 3, [41], []) := zz_fetch_of p95 rfl rfl
theorem s95_37 : zz_Run zz_prog d 95 (37, [l0, l1, l2, l3], st, k, h) = zz_Run zz_prog d 95 (41, [l0, l1, l2, l3], st, k, h) := zz_k_num f95_37 rfl
theorem f95_40 : zz_fetch zz_prog 95 40 = some (.iconst 0, 1, [], []) := zz_fetch_of p95 rfl rfl
theorem s95_40 : zz_Run zz_prog d 95 (40, [l0, l1, l2, l3], st, k, h) = zz_Run zz_prog d 95 (41, [l0, l1, l2, l3], .int 0 :: st, k, h) := zz_k_num f95_40 rfl
theorem f95_41 : zz_fetch zz_prog 95 41 = some (.ireturn, 1, [1], []) := zz_fetch_of p95 rfl rfl
theorem s95_41 : zz_Run zz_prog d 95 (41, [l0, l1, l2, l3], [.int v], k, h) = zz_ck (decide (v = 0 ∨ v = 1)) (some (.inl (some (.int v)), k, h)) := zz_k_retz f95_41
end S95
section S96
variable {d n j : Nat} {l0 l1 l2 l3 l4 : Option Value} {st : List Value} {k : Bool} {h : zz_H} {v w v1 v2 : Int32} {y y1 : Int64} {a a1 a2 : Nat} {b0 b1 b2 b3 b4 b5 b6 b7 b8 : Value} {I : Nat → Nat → Int32} {J : Nat → Nat → Int64} {ex : List (Nat × Nat)}
theorem p96 : zz_prog 96 = some zz_m96 := rfl
theorem e96 (g0 : Nat) (g1 : Int32) (g2 : Int32) (g3 : Int32) : zz_Call zz_prog (d + 1) 96 [.ref g0, .int g1, .int g2, .int g3] h = zz_Run zz_prog d 96 (0, [some (.ref g0), some (.int g1), some (.int g2), some (.int g3), none], [], true, h) := rfl
theorem t96 (pc : Nat) (L : List (Option Value)) : zz_th d 96 pc a L k h = some (.inr a, k, h) := zz_th_out p96 rfl
theorem f96_0 : zz_fetch zz_prog 96 0 = some (.iload_n 2, 1, [], []) := zz_fetch_of p96 rfl rfl
theorem s96_0 : zz_Run zz_prog d 96 (0, [l0, l1, some (.int v), l3, l4], st, k, h) = zz_Run zz_prog d 96 (1, [l0, l1, some (.int v), l3, l4], .int v :: st, k, h) := zz_k_num f96_0 rfl
theorem f96_1 : zz_fetch zz_prog 96 1 = some (.ifCond .lt 25, 3, [26], []) := zz_fetch_of p96 rfl rfl
theorem s96_1 : zz_Run zz_prog d 96 (1, [l0, l1, l2, l3, l4], .int v :: st, k, h) = if v < 0 then zz_Run zz_prog d 96 (26, [l0, l1, l2, l3, l4], st, k, h) else zz_Run zz_prog d 96 (4, [l0, l1, l2, l3, l4], st, k, h) := zz_k_br (v < 0) rfl (zz_k_num f96_1 rfl)
theorem f96_4 : zz_fetch zz_prog 96 4 = some (.iload_n 2, 1, [], []) := zz_fetch_of p96 rfl rfl
theorem s96_4 : zz_Run zz_prog d 96 (4, [l0, l1, some (.int v), l3, l4], st, k, h) = zz_Run zz_prog d 96 (5, [l0, l1, some (.int v), l3, l4], .int v :: st, k, h) := zz_k_num f96_4 rfl
theorem f96_5 : zz_fetch zz_prog 96 5 = some (.iconst 5, 1, [], []) := zz_fetch_of p96 rfl rfl
theorem s96_5 : zz_Run zz_prog d 96 (5, [l0, l1, l2, l3, l4], st, k, h) = zz_Run zz_prog d 96 (6, [l0, l1, l2, l3, l4], .int 5 :: st, k, h) := zz_k_num f96_5 rfl
theorem f96_6 : zz_fetch zz_prog 96 6 = some (.if_icmp .ge 20, 3, [26], []) := zz_fetch_of p96 rfl rfl
theorem s96_6 : zz_Run zz_prog d 96 (6, [l0, l1, l2, l3, l4], .int w :: .int v :: st, k, h) = if w ≤ v then zz_Run zz_prog d 96 (26, [l0, l1, l2, l3, l4], st, k, h) else zz_Run zz_prog d 96 (9, [l0, l1, l2, l3, l4], st, k, h) := zz_k_br (w ≤ v) rfl (zz_k_num f96_6 rfl)
theorem f96_9 : zz_fetch zz_prog 96 9 = some (.iload_n 3, 1, [], []) := zz_fetch_of p96 rfl rfl
theorem s96_9 : zz_Run zz_prog d 96 (9, [l0, l1, l2, some (.int v), l4], st, k, h) = zz_Run zz_prog d 96 (10, [l0, l1, l2, some (.int v), l4], .int v :: st, k, h) := zz_k_num f96_9 rfl
theorem f96_10 : zz_fetch zz_prog 96 10 = some (.iconst 2, 1, [], []) := zz_fetch_of p96 rfl rfl
theorem s96_10 : zz_Run zz_prog d 96 (10, [l0, l1, l2, l3, l4], st, k, h) = zz_Run zz_prog d 96 (11, [l0, l1, l2, l3, l4], .int 2 :: st, k, h) := zz_k_num f96_10 rfl
theorem f96_11 : zz_fetch zz_prog 96 11 = some (.if_icmp .lt 15, 3, [26], []) := zz_fetch_of p96 rfl rfl
theorem s96_11 : zz_Run zz_prog d 96 (11, [l0, l1, l2, l3, l4], .int w :: .int v :: st, k, h) = if v < w then zz_Run zz_prog d 96 (26, [l0, l1, l2, l3, l4], st, k, h) else zz_Run zz_prog d 96 (14, [l0, l1, l2, l3, l4], st, k, h) := zz_k_br (v < w) rfl (zz_k_num f96_11 rfl)
theorem f96_14 : zz_fetch zz_prog 96 14 = some (.iload_n 3, 1, [], []) := zz_fetch_of p96 rfl rfl
theorem s96_14 : zz_Run zz_prog d 96 (14, [l0, l1, l2, some (.int v), l4], st, k, h) = zz_Run zz_prog d 96 (15, [l0, l1, l2, some (.int v), l4], .int v :: st, k, h) := zz_k_num f96_14 rfl
theorem f96_15 : zz_fetch zz_prog 96 15 = some (.bipush 12, 2, [], []) := zz_fetch_of p96 rfl rfl
theorem s96_15 : zz_Run zz_prog d 96 (15, [l0, l1, l2, l3, l4], st, k, h) = zz_Run zz_prog d 96 (17, [l0, l1, l2, l3, l4], .int 12 :: st, k, h) := zz_k_num f96_15 (congrArg (fun u => some (17, [l0, l1, l2, l3, l4], Value.int u :: st)) (by decide : (Int8.ofInt 12).toInt32 = 12))
theorem f96_17 : zz_fetch zz_prog 96 17 = some (.if_icmp .gt 9, 3, [26], []) := zz_fetch_of p96 rfl rfl
theorem s96_17 : zz_Run zz_prog d 96 (17, [l0, l1, l2, l3, l4], .int w :: .int v :: st, k, h) = if w < v then zz_Run zz_prog d 96 (26, [l0, l1, l2, l3, l4], st, k, h) else zz_Run zz_prog d 96 (20, [l0, l1, l2, l3, l4], st, k, h) := zz_k_br (w < v) rfl (zz_k_num f96_17 rfl)
theorem f96_20 : zz_fetch zz_prog 96 20 = some (.iload_n 3, 1, [], []) := zz_fetch_of p96 rfl rfl
theorem s96_20 : zz_Run zz_prog d 96 (20, [l0, l1, l2, some (.int v), l4], st, k, h) = zz_Run zz_prog d 96 (21, [l0, l1, l2, some (.int v), l4], .int v :: st, k, h) := zz_k_num f96_20 rfl
theorem f96_21 : zz_fetch zz_prog 96 21 = some (.bipush 7, 2, [], []) := zz_fetch_of p96 rfl rfl
theorem s96_21 : zz_Run zz_prog d 96 (21, [l0, l1, l2, l3, l4], st, k, h) = zz_Run zz_prog d 96 (23, [l0, l1, l2, l3, l4], .int 7 :: st, k, h) := zz_k_num f96_21 (congrArg (fun u => some (23, [l0, l1, l2, l3, l4], Value.int u :: st)) (by decide : (Int8.ofInt 7).toInt32 = 7))
theorem f96_23 : zz_fetch zz_prog 96 23 = some (.if_icmp .ne 12, 3, [35], []) := zz_fetch_of p96 rfl rfl
theorem s96_23 : zz_Run zz_prog d 96 (23, [l0, l1, l2, l3, l4], .int w :: .int v :: st, k, h) = if ¬ v = w then zz_Run zz_prog d 96 (35, [l0, l1, l2, l3, l4], st, k, h) else zz_Run zz_prog d 96 (26, [l0, l1, l2, l3, l4], st, k, h) := zz_k_br (¬ v = w) rfl (zz_k_num f96_23 rfl)
theorem f96_26 : zz_fetch zz_prog 96 26 = some (.iload_n 2, 1, [], []) := zz_fetch_of p96 rfl rfl
theorem s96_26 : zz_Run zz_prog d 96 (26, [l0, l1, some (.int v), l3, l4], st, k, h) = zz_Run zz_prog d 96 (27, [l0, l1, some (.int v), l3, l4], .int v :: st, k, h) := zz_k_num f96_26 rfl
theorem f96_27 : zz_fetch zz_prog 96 27 = some (.iconst 5, 1, [], []) := zz_fetch_of p96 rfl rfl
theorem s96_27 : zz_Run zz_prog d 96 (27, [l0, l1, l2, l3, l4], st, k, h) = zz_Run zz_prog d 96 (28, [l0, l1, l2, l3, l4], .int 5 :: st, k, h) := zz_k_num f96_27 rfl
theorem f96_28 : zz_fetch zz_prog 96 28 = some (.if_icmp .ne 11, 3, [39], []) := zz_fetch_of p96 rfl rfl
theorem s96_28 : zz_Run zz_prog d 96 (28, [l0, l1, l2, l3, l4], .int w :: .int v :: st, k, h) = if ¬ v = w then zz_Run zz_prog d 96 (39, [l0, l1, l2, l3, l4], st, k, h) else zz_Run zz_prog d 96 (31, [l0, l1, l2, l3, l4], st, k, h) := zz_k_br (¬ v = w) rfl (zz_k_num f96_28 rfl)
theorem f96_31 : zz_fetch zz_prog 96 31 = some (.iload_n 3, 1, [], []) := zz_fetch_of p96 rfl rfl
theorem s96_31 : zz_Run zz_prog d 96 (31, [l0, l1, l2, some (.int v), l4], st, k, h) = zz_Run zz_prog d 96 (32, [l0, l1, l2, some (.int v), l4], .int v :: st, k, h) := zz_k_num f96_31 rfl
theorem f96_32 : zz_fetch zz_prog 96 32 = some (.ifCond .ne 7, 3, [39], []) := zz_fetch_of p96 rfl rfl
theorem s96_32 : zz_Run zz_prog d 96 (32, [l0, l1, l2, l3, l4], .int v :: st, k, h) = if ¬ v = 0 then zz_Run zz_prog d 96 (39, [l0, l1, l2, l3, l4], st, k, h) else zz_Run zz_prog d 96 (35, [l0, l1, l2, l3, l4], st, k, h) := zz_k_br (¬ v = 0) rfl (zz_k_num f96_32 rfl)
theorem f96_35 : zz_fetch zz_prog 96 35 = some (.iconst 1, 1, [], []) := zz_fetch_of p96 rfl rfl
theorem s96_35 : zz_Run zz_prog d 96 (35, [l0, l1, l2, l3, l4], st, k, h) = zz_Run zz_prog d 96 (36, [l0, l1, l2, l3, l4], .int 1 :: st, k, h) := zz_k_num f96_35 rfl
theorem f96_36 : zz_fetch zz_prog 96 36 = some (.goto 4, 3, [40], []) := zz_fetch_of p96 rfl rfl
theorem s96_36 : zz_Run zz_prog d 96 (36, [l0, l1, l2, l3, l4], st, k, h) = zz_Run zz_prog d 96 (40, [l0, l1, l2, l3, l4], st, k, h) := zz_k_num f96_36 rfl
theorem f96_39 : zz_fetch zz_prog 96 39 = some (.iconst 0, 1, [], []) := zz_fetch_of p96 rfl rfl
theorem s96_39 : zz_Run zz_prog d 96 (39, [l0, l1, l2, l3, l4], st, k, h) = zz_Run zz_prog d 96 (40, [l0, l1, l2, l3, l4], .int 0 :: st, k, h) := zz_k_num f96_39 rfl
theorem f96_40 : zz_fetch zz_prog 96 40 = some (.istore 4, 2, [], []) := zz_fetch_of p96 rfl rfl
theorem s96_40 : zz_Run zz_prog d 96 (40, [l0, l1, l2, l3, l4], .int v :: st, k, h) = zz_sl l3 (zz_Run zz_prog d 96 (42, [l0, l1, l2, l3, some (.int v)], st, k, h)) := zz_k_st (j := 4) (u := .int v) f96_40 rfl (fun q hq => by cases hq) rfl (show 4 < 5 by decide) (by cases l3 <;> rfl) rfl
theorem f96_42 : zz_fetch zz_prog 96 42 = some (.aload_n 0, 1, [], []) := zz_fetch_of p96 rfl rfl
theorem s96_42 : zz_Run zz_prog d 96 (42, [some (.ref a), l1, l2, l3, l4], st, k, h) = zz_Run zz_prog d 96 (43, [some (.ref a), l1, l2, l3, l4], .ref a :: st, k, h) := zz_k_num f96_42 rfl
theorem f96_43 : zz_fetch zz_prog 96 43 = some (.aload_n 0, 1, [], []) := zz_fetch_of p96 rfl rfl
theorem s96_43 : zz_Run zz_prog d 96 (43, [some (.ref a), l1, l2, l3, l4], st, k, h) = zz_Run zz_prog d 96 (44, [some (.ref a), l1, l2, l3, l4], .ref a :: st, k, h) := zz_k_num f96_43 rfl
theorem f96_44 : zz_fetch zz_prog 96 44 = some (.getfield 7, 3, [2, 1, 3], []) := zz_fetch_of p96 rfl rfl
theorem s96_44 : zz_Run zz_prog d 96 (44, [l0, l1, l2, l3, l4], .ref 23 :: st, k, (zz_hp n I J ex)) = zz_Run zz_prog d 96 (47, [l0, l1, l2, l3, l4], .ref 24 :: st, k, (zz_hp n I J ex)) := zz_k_go f96_44 rfl rfl rfl
theorem f96_47 : zz_fetch zz_prog 96 47 = some (.sipush 180, 3, [], []) := zz_fetch_of p96 rfl rfl
theorem s96_47 : zz_Run zz_prog d 96 (47, [l0, l1, l2, l3, l4], st, k, h) = zz_Run zz_prog d 96 (50, [l0, l1, l2, l3, l4], .int 180 :: st, k, h) := zz_k_num f96_47 (congrArg (fun u => some (50, [l0, l1, l2, l3, l4], Value.int u :: st)) (by decide : (Int16.ofInt 180).toInt32 = 180))
theorem f96_50 : zz_fetch zz_prog 96 50 = some (.iaload, 1, [], []) := zz_fetch_of p96 rfl rfl
theorem s96_50 (ha : zz_isrd a = true) : zz_Run zz_prog d 96 (50, [l0, l1, l2, l3, l4], .int v :: .ref a :: st, k, (zz_hp n I J ex)) = zz_ck (zz_in v (zz_ary n a)) (zz_Run zz_prog d 96 (51, [l0, l1, l2, l3, l4], .int (I a v.toNatClampNeg) :: st, k, (zz_hp n I J ex))) := zz_k_iald f96_50 ha
theorem f96_51 : zz_fetch zz_prog 96 51 = some (.ifCond .eq 7, 3, [58], []) := zz_fetch_of p96 rfl rfl
theorem s96_51 : zz_Run zz_prog d 96 (51, [l0, l1, l2, l3, l4], .int v :: st, k, h) = if v = 0 then zz_Run zz_prog d 96 (58, [l0, l1, l2, l3, l4], st, k, h) else zz_Run zz_prog d 96 (54, [l0, l1, l2, l3, l4], st, k, h) := zz_k_br (v = 0) rfl (zz_k_num f96_51 rfl)
theorem f96_54 : zz_fetch zz_prog 96 54 = some (.iconst 1, 1, [], []) := zz_fetch_of p96 rfl rfl
theorem s96_54 : zz_Run zz_prog d 96 (54, [l0, l1, l2, l3, l4], st, k, h) = zz_Run zz_prog d 96 (55, [l0, l1, l2, l3, l4], .int 1 :: st, k, h) := zz_k_num f96_54 rfl
theorem f96_55 : zz_fetch zz_prog 96 55 = some (.goto 4, 3, [59], []) := zz_fetch_of p96 rfl rfl
theorem s96_55 : zz_Run zz_prog d 96 (55, [l0, l1, l2, l3, l4], st, k, h) = zz_Run zz_prog d 96 (59, [l0, l1, l2, l3, l4], st, k, h) := zz_k_num f96_55 rfl
theorem f96_58 : zz_fetch zz_prog 96 58 = some (.iconst 0, 1, [], []) := zz_fetch_of p96 rfl rfl
theorem s96_58 : zz_Run zz_prog d 96 (58, [l0, l1, l2, l3, l4], st, k, h) = zz_Run zz_prog d 96 (59, [l0, l1, l2, l3, l4], .int 0 :: st, k, h) := zz_k_num f96_58 rfl
theorem f96_59 : zz_fetch zz_prog 96 59 = some (.iload_n 1, 1, [], []) := zz_fetch_of p96 rfl rfl
theorem s96_59 : zz_Run zz_prog d 96 (59, [l0, some (.int v), l2, l3, l4], st, k, h) = zz_Run zz_prog d 96 (60, [l0, some (.int v), l2, l3, l4], .int v :: st, k, h) := zz_k_num f96_59 rfl
theorem f96_60 : zz_fetch zz_prog 96 60 = some (.ifCond .lt 14, 3, [74], []) := zz_fetch_of p96 rfl rfl
theorem s96_60 : zz_Run zz_prog d 96 (60, [l0, l1, l2, l3, l4], .int v :: st, k, h) = if v < 0 then zz_Run zz_prog d 96 (74, [l0, l1, l2, l3, l4], st, k, h) else zz_Run zz_prog d 96 (63, [l0, l1, l2, l3, l4], st, k, h) := zz_k_br (v < 0) rfl (zz_k_num f96_60 rfl)
theorem f96_63 : zz_fetch zz_prog 96 63 = some (.iload_n 1, 1, [], []) := zz_fetch_of p96 rfl rfl
theorem s96_63 : zz_Run zz_prog d 96 (63, [l0, some (.int v), l2, l3, l4], st, k, h) = zz_Run zz_prog d 96 (64, [l0, some (.int v), l2, l3, l4], .int v :: st, k, h) := zz_k_num f96_63 rfl
theorem f96_64 : zz_fetch zz_prog 96 64 = some (.bipush 18, 2, [], []) := zz_fetch_of p96 rfl rfl
theorem s96_64 : zz_Run zz_prog d 96 (64, [l0, l1, l2, l3, l4], st, k, h) = zz_Run zz_prog d 96 (66, [l0, l1, l2, l3, l4], .int 18 :: st, k, h) := zz_k_num f96_64 (congrArg (fun u => some (66, [l0, l1, l2, l3, l4], Value.int u :: st)) (by decide : (Int8.ofInt 18).toInt32 = 18))
theorem f96_66 : zz_fetch zz_prog 96 66 = some (.if_icmp .gt 8, 3, [74], []) := zz_fetch_of p96 rfl rfl
theorem s96_66 : zz_Run zz_prog d 96 (66, [l0, l1, l2, l3, l4], .int w :: .int v :: st, k, h) = if w < v then zz_Run zz_prog d 96 (74, [l0, l1, l2, l3, l4], st, k, h) else zz_Run zz_prog d 96 (69, [l0, l1, l2, l3, l4], st, k, h) := zz_k_br (w < v) rfl (zz_k_num f96_66 rfl)
theorem f96_69 : zz_fetch zz_prog 96 69 = some (.iload 4, 2, [], []) := zz_fetch_of p96 rfl rfl
theorem s96_69 : zz_Run zz_prog d 96 (69, [l0, l1, l2, l3, some (.int v)], st, k, h) = zz_Run zz_prog d 96 (71, [l0, l1, l2, l3, some (.int v)], .int v :: st, k, h) := zz_k_num f96_69 rfl
theorem f96_71 : zz_fetch zz_prog 96 71 = some (.ifCond .ne 7, 3, [78], []) := zz_fetch_of p96 rfl rfl
theorem s96_71 : zz_Run zz_prog d 96 (71, [l0, l1, l2, l3, l4], .int v :: st, k, h) = if ¬ v = 0 then zz_Run zz_prog d 96 (78, [l0, l1, l2, l3, l4], st, k, h) else zz_Run zz_prog d 96 (74, [l0, l1, l2, l3, l4], st, k, h) := zz_k_br (¬ v = 0) rfl (zz_k_num f96_71 rfl)
theorem f96_74 : zz_fetch zz_prog 96 74 = some (.iconst 1, 1, [], []) := zz_fetch_of p96 rfl rfl
theorem s96_74 : zz_Run zz_prog d 96 (74, [l0, l1, l2, l3, l4], st, k, h) = zz_Run zz_prog d 96 (75, [l0, l1, l2, l3, l4], .int 1 :: st, k, h) := zz_k_num f96_74 rfl
theorem f96_75 : zz_fetch zz_prog 96 75 = some (.goto 4, 3, [79], []) := zz_fetch_of p96 rfl rfl
theorem s96_75 : zz_Run zz_prog d 96 (75, [l0, l1, l2, l3, l4], st, k, h) = zz_Run zz_prog d 96 (79, [l0, l1, l2, l3, l4], st, k, h) := zz_k_num f96_75 rfl
theorem f96_78 : zz_fetch zz_prog 96 78 = some (.iconst 0, 1, [], []) := zz_fetch_of p96 rfl rfl
theorem s96_78 : zz_Run zz_prog d 96 (78, [l0, l1, l2, l3, l4], st, k, h) = zz_Run zz_prog d 96 (79, [l0, l1, l2, l3, l4], .int 0 :: st, k, h) := zz_k_num f96_78 rfl
theorem f96_79 : zz_fetch zz_prog 96 79 = some (.iconst 0, 1, [], []) := zz_fetch_of p96 rfl rfl
theorem s96_79 : zz_Run zz_prog d 96 (79, [l0, l1, l2, l3, l4], st, k, h) = zz_Run zz_prog d 96 (80, [l0, l1, l2, l3, l4], .int 0 :: st, k, h) := zz_k_num f96_79 rfl
theorem f96_80 : zz_fetch zz_prog 96 80 = some (.invokevirtual 89, 3, [0, 95, 4, 2], []) := zz_fetch_of p96 rfl rfl
theorem s96_80 : zz_Run zz_prog d 96 (80, [l0, l1, l2, l3, l4], [b0, b1, b2, .ref 23], k, (zz_hp n I J ex)) = zz_ret (zz_Call zz_prog d 95 [.ref 23, b2, b1, b0] (zz_hp n I J ex)) (fun v k' h' => zz_Run zz_prog d 96 (83, [l0, l1, l2, l3, l4], v.toList ++ [], k && k', h')) (fun a k' h' => zz_th d 96 80 a [l0, l1, l2, l3, l4] (k && k') h') := zz_k_call f96_80 rfl rfl rfl
theorem f96_83 : zz_fetch zz_prog 96 83 = some (.ifCond .ne 17, 3, [100], []) := zz_fetch_of p96 rfl rfl
theorem s96_83 : zz_Run zz_prog d 96 (83, [l0, l1, l2, l3, l4], .int v :: st, k, h) = if ¬ v = 0 then zz_Run zz_prog d 96 (100, [l0, l1, l2, l3, l4], st, k, h) else zz_Run zz_prog d 96 (86, [l0, l1, l2, l3, l4], st, k, h) := zz_k_br (¬ v = 0) rfl (zz_k_num f96_83 rfl)
theorem f96_86 : zz_fetch zz_prog 96 86 = some (.aload_n 0, 1, [], []) := zz_fetch_of p96 rfl rfl
theorem s96_86 : zz_Run zz_prog d 96 (86, [some (.ref a), l1, l2, l3, l4], st, k, h) = zz_Run zz_prog d 96 (87, [some (.ref a), l1, l2, l3, l4], .ref a :: st, k, h) := zz_k_num f96_86 rfl
theorem f96_87 : zz_fetch zz_prog 96 87 = some (.getfield 31, 3, [2, 9, 3], []) := zz_fetch_of p96 rfl rfl
theorem s96_87 : zz_Run zz_prog d 96 (87, [l0, l1, l2, l3, l4], .ref 23 :: st, k, (zz_hp n I J ex)) = zz_Run zz_prog d 96 (90, [l0, l1, l2, l3, l4], .ref 31 :: st, k, (zz_hp n I J ex)) := zz_k_go f96_87 rfl rfl rfl
theorem f96_90 : zz_fetch zz_prog 96 90 = some (.iload_n 1, 1, [], []) := zz_fetch_of p96 rfl rfl
theorem s96_90 : zz_Run zz_prog d 96 (90, [l0, some (.int v), l2, l3, l4], st, k, h) = zz_Run zz_prog d 96 (91, [l0, some (.int v), l2, l3, l4], .int v :: st, k, h) := zz_k_num f96_90 rfl
theorem f96_91 : zz_fetch zz_prog 96 91 = some (.iload_n 2, 1, [], []) := zz_fetch_of p96 rfl rfl
theorem s96_91 : zz_Run zz_prog d 96 (91, [l0, l1, some (.int v), l3, l4], st, k, h) = zz_Run zz_prog d 96 (92, [l0, l1, some (.int v), l3, l4], .int v :: st, k, h) := zz_k_num f96_91 rfl
theorem f96_92 : zz_fetch zz_prog 96 92 = some (.iastore, 1, [], []) := zz_fetch_of p96 rfl rfl
theorem s96_92 (ha : zz_isar a = true) : zz_Run zz_prog d 96 (92, [l0, l1, l2, l3, l4], .int w :: .int v :: .ref a :: st, k, (zz_hp n I J ex)) = zz_ck (zz_in v (zz_ary n a)) (zz_Run zz_prog d 96 (93, [l0, l1, l2, l3, l4], st, false, (zz_hp n (zz_up I a v.toNatClampNeg w) J ex))) := zz_k_iast f96_92 ha
theorem f96_93 : zz_fetch zz_prog 96 93 = some (.aload_n 0, 1, [], []) := zz_fetch_of p96 rfl rfl
theorem s96_93 : zz_Run zz_prog d 96 (93, [some (.ref a), l1, l2, l3, l4], st, k, h) = zz_Run zz_prog d 96 (94, [some (.ref a), l1, l2, l3, l4], .ref a :: st, k, h) := zz_k_num f96_93 rfl
theorem f96_94 : zz_fetch zz_prog 96 94 = some (.getfield 34, 3, [2, 10, 3], []) := zz_fetch_of p96 rfl rfl
theorem s96_94 : zz_Run zz_prog d 96 (94, [l0, l1, l2, l3, l4], .ref 23 :: st, k, (zz_hp n I J ex)) = zz_Run zz_prog d 96 (97, [l0, l1, l2, l3, l4], .ref 32 :: st, k, (zz_hp n I J ex)) := zz_k_go f96_94 rfl rfl rfl
theorem f96_97 : zz_fetch zz_prog 96 97 = some (.iload_n 1, 1, [], []) := zz_fetch_of p96 rfl rfl
theorem s96_97 : zz_Run zz_prog d 96 (97, [l0, some (.int v), l2, l3, l4], st, k, h) = zz_Run zz_prog d 96 (98, [l0, some (.int v), l2, l3, l4], .int v :: st, k, h) := zz_k_num f96_97 rfl
theorem f96_98 : zz_fetch zz_prog 96 98 = some (.iload_n 3, 1, [], []) := zz_fetch_of p96 rfl rfl
theorem s96_98 : zz_Run zz_prog d 96 (98, [l0, l1, l2, some (.int v), l4], st, k, h) = zz_Run zz_prog d 96 (99, [l0, l1, l2, some (.int v), l4], .int v :: st, k, h) := zz_k_num f96_98 rfl
theorem f96_99 : zz_fetch zz_prog 96 99 = some (.iastore, 1, [], []) := zz_fetch_of p96 rfl rfl
theorem s96_99 (ha : zz_isar a = true) : zz_Run zz_prog d 96 (99, [l0, l1, l2, l3, l4], .int w :: .int v :: .ref a :: st, k, (zz_hp n I J ex)) = zz_ck (zz_in v (zz_ary n a)) (zz_Run zz_prog d 96 (100, [l0, l1, l2, l3, l4], st, false, (zz_hp n (zz_up I a v.toNatClampNeg w) J ex))) := zz_k_iast f96_99 ha
theorem f96_100 : zz_fetch zz_prog 96 100 = some (.return_, 1, [], []) := zz_fetch_of p96 rfl rfl
theorem s96_100 : zz_Run zz_prog d 96 (100, [l0, l1, l2, l3, l4], [], k, h) = some (.inl none, k, h) := zz_k_stop f96_100 rfl rfl rfl
end S96
section S97
variable {d n j : Nat} {l0 l1 l2 l3 : Option Value} {st : List Value} {k : Bool} {h : zz_H} {v w v1 v2 : Int32} {y y1 : Int64} {a a1 a2 : Nat} {b0 b1 b2 b3 b4 b5 b6 b7 b8 : Value} {I : Nat → Nat → Int32} {J : Nat → Nat → Int64} {ex : List (Nat × Nat)}
theorem p97 : zz_prog 97 = some zz_m97 := rfl
theorem e97 (g0 : Nat) (g1 : Int32) : zz_Call zz_prog (d + 1) 97 [.ref g0, .int g1] h = zz_Run zz_prog d 97 (0, [some (.ref g0), some (.int g1), none, none], [], true, h) := rfl
theorem t97 (pc : Nat) (L : List (Option Value)) : zz_th d 97 pc a L k h = some (.inr a, k, h) := zz_th_out p97 rfl
theorem f97_0 : zz_fetch zz_prog 97 0 = some (.iconst 0, 1, [], []) := zz_fetch_of p97 rfl rfl
theorem s97_0 : zz_Run zz_prog d 97 (0, [l0, l1, l2, l3], st, k, h) = zz_Run zz_prog d 97 (1, [l0, l1, l2, l3], .int 0 :: st, k, h) := zz_k_num f97_0 rfl
theorem f97_1 : zz_fetch zz_prog 97 1 = some (.istore_n 2, 1, [], []) := zz_fetch_of p97 rfl rfl
theorem s97_1 : zz_Run zz_prog d 97 (1, [l0, l1, l2, l3], .int v :: st, k, h) = zz_sl l1 (zz_Run zz_prog d 97 (2, [l0, l1, some (.int v), l3], st, k, h)) := zz_k_st (j := 2) (u := .int v) f97_1 rfl (fun q hq => by cases hq) rfl (show 2 < 4 by decide) (by cases l1 <;> rfl) rfl
theorem f97_2 : zz_fetch zz_prog 97 2 = some (.iconst 0, 1, [], []) := zz_fetch_of p97 rfl rfl
theorem s97_2 : zz_Run zz_prog d 97 (2, [l0, l1, l2, l3], st, k, h) = zz_Run zz_prog d 97 (3, [l0, l1, l2, l3], .int 0 :: st, k, h) := zz_k_num f97_2 rfl
theorem f97_3 : zz_fetch zz_prog 97 3 = some (.istore_n 3, 1, [], []) := zz_fetch_of p97 rfl rfl
theorem s97_3 : zz_Run zz_prog d 97 (3, [l0, l1, l2, l3], .int v :: st, k, h) = zz_sl l2 (zz_Run zz_prog d 97 (4, [l0, l1, l2, some (.int v)], st, k, h)) := zz_k_st (j := 3) (u := .int v) f97_3 rfl (fun q hq => by cases hq) rfl (show 3 < 4 by decide) (by cases l2 <;> rfl) rfl
theorem f97_4 : zz_fetch zz_prog 97 4 = some (.iload_n 3, 1, [], []) := zz_fetch_of p97 rfl rfl
theorem s97_4 : zz_Run zz_prog d 97 (4, [l0, l1, l2, some (.int v)], st, k, h) = zz_Run zz_prog d 97 (5, [l0, l1, l2, some (.int v)], .int v :: st, k, h) := zz_k_num f97_4 rfl
theorem f97_5 : zz_fetch zz_prog 97 5 = some (.aload_n 0, 1, [], []) := zz_fetch_of p97 rfl rfl
theorem s97_5 : zz_Run zz_prog d 97 (5, [some (.ref a), l1, l2, l3], st, k, h) = zz_Run zz_prog d 97 (6, [some (.ref a), l1, l2, l3], .ref a :: st, k, h) := zz_k_num f97_5 rfl
theorem f97_6 : zz_fetch zz_prog 97 6 = some (.getfield 93, 3, [2, 11, 0], []) := zz_fetch_of p97 rfl rfl
theorem s97_6 : zz_Run zz_prog d 97 (6, [l0, l1, l2, l3], .ref 23 :: st, k, (zz_hp n I J ex)) = zz_Run zz_prog d 97 (9, [l0, l1, l2, l3], .int (I 23 11) :: st, k, (zz_hp n I J ex)) := zz_k_go f97_6 rfl rfl rfl
theorem f97_9 : zz_fetch zz_prog 97 9 = some (.if_icmp .ge 49, 3, [58], []) := zz_fetch_of p97 rfl rfl
theorem s97_9 : zz_Run zz_prog d 97 (9, [l0, l1, l2, l3], .int w :: .int v :: st, k, h) = if w ≤ v then zz_Run zz_prog d 97 (58, [l0, l1, l2, l3], st, k, h) else zz_Run zz_prog d 97 (12, [l0, l1, l2, l3], st, k, h) := zz_k_br (w ≤ v) rfl (zz_k_num f97_9 rfl)
theorem f97_12 : zz_fetch zz_prog 97 12 = some (.iload_n 2, 1, [], []) := zz_fetch_of p97 rfl rfl
theorem s97_12 : zz_Run zz_prog d 97 (12, [l0, l1, some (.int v), l3], st, k, h) = zz_Run zz_prog d 97 (13, [l0, l1, some (.int v), l3], .int v :: st, k, h) := zz_k_num f97_12 rfl
theorem f97_13 : zz_fetch zz_prog 97 13 = some (.ifCond .ne 33, 3, [46], []) := zz_fetch_of p97 rfl rfl
theorem s97_13 : zz_Run zz_prog d 97 (13, [l0, l1, l2, l3], .int v :: st, k, h) = if ¬ v = 0 then zz_Run zz_prog d 97 (46, [l0, l1, l2, l3], st, k, h) else zz_Run zz_prog d 97 (16, [l0, l1, l2, l3], st, k, h) := zz_k_br (¬ v = 0) rfl (zz_k_num f97_13 rfl)
theorem f97_16 : zz_fetch zz_prog 97 16 = some (.aload_n 0, 1, [], []) := zz_fetch_of p97 rfl rfl
theorem s97_16 : zz_Run zz_prog d 97 (16, [some (.ref a), l1, l2, l3], st, k, h) = zz_Run zz_prog d 97 (17, [some (.ref a), l1, l2, l3], .ref a :: st, k, h) := zz_k_num f97_16 rfl
theorem f97_17 : zz_fetch zz_prog 97 17 = some (.getfield 22, 3, [2, 6, 3], []) := zz_fetch_of p97 rfl rfl
theorem s97_17 : zz_Run zz_prog d 97 (17, [l0, l1, l2, l3], .ref 23 :: st, k, (zz_hp n I J ex)) = zz_Run zz_prog d 97 (20, [l0, l1, l2, l3], .ref 28 :: st, k, (zz_hp n I J ex)) := zz_k_go f97_17 rfl rfl rfl
theorem f97_20 : zz_fetch zz_prog 97 20 = some (.aload_n 0, 1, [], []) := zz_fetch_of p97 rfl rfl
theorem s97_20 : zz_Run zz_prog d 97 (20, [some (.ref a), l1, l2, l3], st, k, h) = zz_Run zz_prog d 97 (21, [some (.ref a), l1, l2, l3], .ref a :: st, k, h) := zz_k_num f97_20 rfl
theorem f97_21 : zz_fetch zz_prog 97 21 = some (.getfield 37, 3, [2, 12, 3], []) := zz_fetch_of p97 rfl rfl
theorem s97_21 : zz_Run zz_prog d 97 (21, [l0, l1, l2, l3], .ref 23 :: st, k, (zz_hp n I J ex)) = zz_Run zz_prog d 97 (24, [l0, l1, l2, l3], .ref 33 :: st, k, (zz_hp n I J ex)) := zz_k_go f97_21 rfl rfl rfl
theorem f97_24 : zz_fetch zz_prog 97 24 = some (.iload_n 3, 1, [], []) := zz_fetch_of p97 rfl rfl
theorem s97_24 : zz_Run zz_prog d 97 (24, [l0, l1, l2, some (.int v)], st, k, h) = zz_Run zz_prog d 97 (25, [l0, l1, l2, some (.int v)], .int v :: st, k, h) := zz_k_num f97_24 rfl
theorem f97_25 : zz_fetch zz_prog 97 25 = some (.iaload, 1, [], []) := zz_fetch_of p97 rfl rfl
theorem s97_25 (ha : zz_isrd a = true) : zz_Run zz_prog d 97 (25, [l0, l1, l2, l3], .int v :: .ref a :: st, k, (zz_hp n I J ex)) = zz_ck (zz_in v (zz_ary n a)) (zz_Run zz_prog d 97 (26, [l0, l1, l2, l3], .int (I a v.toNatClampNeg) :: st, k, (zz_hp n I J ex))) := zz_k_iald f97_25 ha
theorem f97_26 : zz_fetch zz_prog 97 26 = some (.iaload, 1, [], []) := zz_fetch_of p97 rfl rfl
theorem s97_26 (ha : zz_isrd a = true) : zz_Run zz_prog d 97 (26, [l0, l1, l2, l3], .int v :: .ref a :: st, k, (zz_hp n I J ex)) = zz_ck (zz_in v (zz_ary n a)) (zz_Run zz_prog d 97 (27, [l0, l1, l2, l3], .int (I a v.toNatClampNeg) :: st, k, (zz_hp n I J ex))) := zz_k_iald f97_26 ha
theorem f97_27 : zz_fetch zz_prog 97 27 = some (.iload_n 1, 1, [], []) := zz_fetch_of p97 rfl rfl
theorem s97_27 : zz_Run zz_prog d 97 (27, [l0, some (.int v), l2, l3], st, k, h) = zz_Run zz_prog d 97 (28, [l0, some (.int v), l2, l3], .int v :: st, k, h) := zz_k_num f97_27 rfl
theorem f97_28 : zz_fetch zz_prog 97 28 = some (.if_icmp .eq 18, 3, [46], []) := zz_fetch_of p97 rfl rfl
theorem s97_28 : zz_Run zz_prog d 97 (28, [l0, l1, l2, l3], .int w :: .int v :: st, k, h) = if v = w then zz_Run zz_prog d 97 (46, [l0, l1, l2, l3], st, k, h) else zz_Run zz_prog d 97 (31, [l0, l1, l2, l3], st, k, h) := zz_k_br (v = w) rfl (zz_k_num f97_28 rfl)
theorem f97_31 : zz_fetch zz_prog 97 31 = some (.aload_n 0, 1, [], []) := zz_fetch_of p97 rfl rfl
theorem s97_31 : zz_Run zz_prog d 97 (31, [some (.ref a), l1, l2, l3], st, k, h) = zz_Run zz_prog d 97 (32, [some (.ref a), l1, l2, l3], .ref a :: st, k, h) := zz_k_num f97_31 rfl
theorem f97_32 : zz_fetch zz_prog 97 32 = some (.getfield 25, 3, [2, 7, 3], []) := zz_fetch_of p97 rfl rfl
theorem s97_32 : zz_Run zz_prog d 97 (32, [l0, l1, l2, l3], .ref 23 :: st, k, (zz_hp n I J ex)) = zz_Run zz_prog d 97 (35, [l0, l1, l2, l3], .ref 29 :: st, k, (zz_hp n I J ex)) := zz_k_go f97_32 rfl rfl rfl
theorem f97_35 : zz_fetch zz_prog 97 35 = some (.aload_n 0, 1, [], []) := zz_fetch_of p97 rfl rfl
theorem s97_35 : zz_Run zz_prog d 97 (35, [some (.ref a), l1, l2, l3], st, k, h) = zz_Run zz_prog d 97 (36, [some (.ref a), l1, l2, l3], .ref a :: st, k, h) := zz_k_num f97_35 rfl
theorem f97_36 : zz_fetch zz_prog 97 36 = some (.getfield 37, 3, [2, 12, 3], []) := zz_fetch_of p97 rfl rfl
theorem s97_36 : zz_Run zz_prog d 97 (36, [l0, l1, l2, l3], .ref 23 :: st, k, (zz_hp n I J ex)) = zz_Run zz_prog d 97 (39, [l0, l1, l2, l3], .ref 33 :: st, k, (zz_hp n I J ex)) := zz_k_go f97_36 rfl rfl rfl
theorem f97_39 : zz_fetch zz_prog 97 39 = some (.iload_n 3, 1, [], []) := zz_fetch_of p97 rfl rfl
theorem s97_39 : zz_Run zz_prog d 97 (39, [l0, l1, l2, some (.int v)], st, k, h) = zz_Run zz_prog d 97 (40, [l0, l1, l2, some (.int v)], .int v :: st, k, h) := zz_k_num f97_39 rfl
theorem f97_40 : zz_fetch zz_prog 97 40 = some (.iaload, 1, [], []) := zz_fetch_of p97 rfl rfl
theorem s97_40 (ha : zz_isrd a = true) : zz_Run zz_prog d 97 (40, [l0, l1, l2, l3], .int v :: .ref a :: st, k, (zz_hp n I J ex)) = zz_ck (zz_in v (zz_ary n a)) (zz_Run zz_prog d 97 (41, [l0, l1, l2, l3], .int (I a v.toNatClampNeg) :: st, k, (zz_hp n I J ex))) := zz_k_iald f97_40 ha
theorem f97_41 : zz_fetch zz_prog 97 41 = some (.iaload, 1, [], []) := zz_fetch_of p97 rfl rfl
theorem s97_41 (ha : zz_isrd a = true) : zz_Run zz_prog d 97 (41, [l0, l1, l2, l3], .int v :: .ref a :: st, k, (zz_hp n I J ex)) = zz_ck (zz_in v (zz_ary n a)) (zz_Run zz_prog d 97 (42, [l0, l1, l2, l3], .int (I a v.toNatClampNeg) :: st, k, (zz_hp n I J ex))) := zz_k_iald f97_41 ha
theorem f97_42 : zz_fetch zz_prog 97 42 = some (.iload_n 1, 1, [], []) := zz_fetch_of p97 rfl rfl
theorem s97_42 : zz_Run zz_prog d 97 (42, [l0, some (.int v), l2, l3], st, k, h) = zz_Run zz_prog d 97 (43, [l0, some (.int v), l2, l3], .int v :: st, k, h) := zz_k_num f97_42 rfl
theorem f97_43 : zz_fetch zz_prog 97 43 = some (.if_icmp .ne 7, 3, [50], []) := zz_fetch_of p97 rfl rfl
theorem s97_43 : zz_Run zz_prog d 97 (43, [l0, l1, l2, l3], .int w :: .int v :: st, k, h) = if ¬ v = w then zz_Run zz_prog d 97 (50, [l0, l1, l2, l3], st, k, h) else zz_Run zz_prog d 97 (46, [l0, l1, l2, l3], st, k, h) := zz_k_br (¬ v = w) rfl (zz_k_num f97_43 rfl)
theorem f97_46 : zz_fetch zz_prog 97 46 = some (.iconst 1, 1, [], []) := zz_fetch_of p97 rfl rfl
theorem s97_46 : zz_Run zz_prog d 97 (46, [l0, l1, l2, l3], st, k, h) = zz_Run zz_prog d 97 (47, [l0, l1, l2, l3], .int 1 :: st, k, h) := zz_k_num f97_46 rfl
theorem f97_47 : zz_fetch zz_prog 97 47 = some (.goto 4, 3, [51], []) := zz_fetch_of p97 rfl rfl
theorem s97_47 : zz_Run zz_prog d 97 (47, [l0, l1, l2, l3], st, k, h) = zz_Run zz_prog d 97 (51, [l0, l1, l2, l3], st, k, h) := zz_k_num f97_47 rfl
theorem f97_50 : zz_fetch zz_prog 97 50 = some (.iconst 0, 1, [], []) := zz_fetch_of p97 rfl rfl
theorem s97_50 : zz_Run zz_prog d 97 (50, [l0, l1, l2, l3], st, k, h) = zz_Run zz_prog d 97 (51, [l0, l1, l2, l3], .int 0 :: st, k, h) := zz_k_num f97_50 rfl
theorem f97_51 : zz_fetch zz_prog 97 51 = some (.istore_n 2, 1, [], []) := zz_fetch_of p97 rfl rfl
theorem s97_51 : zz_Run zz_prog d 97 (51, [l0, l1, l2, l3], .int v :: st, k, h) = zz_sl l1 (zz_Run zz_prog d 97 (52, [l0, l1, some (.int v), l3], st, k, h)) := zz_k_st (j := 2) (u := .int v) f97_51 rfl (fun q hq => by cases hq) rfl (show 2 < 4 by decide) (by cases l1 <;> rfl) rfl
theorem f97_52 : zz_fetch zz_prog 97 52 = some (.iinc 3 1, 3, [], []) := zz_fetch_of p97 rfl rfl
theorem s97_52 : zz_Run zz_prog d 97 (52, [l0, l1, l2, some (.int v)], st, k, h) = zz_sl l2 (zz_Run zz_prog d 97 (55, [l0, l1, l2, some (.int (v + 1))], st, k, h)) := zz_k_st (j := 3) (u := .int (v + 1)) f97_52 rfl (fun q hq => by cases hq) rfl (show 3 < 4 by decide) (by cases l2 <;> rfl) rfl
theorem f97_55 : zz_fetch zz_prog 97 55 = some (.goto (-51), 3, [4], []) := zz_fetch_of p97 rfl rfl
theorem s97_55 : zz_Run zz_prog d 97 (55, [l0, l1, l2, l3], st, k, h) = zz_Run zz_prog d 97 (4, [l0, l1, l2, l3], st, k, h) := zz_k_num f97_55 rfl
theorem f97_58 : zz_fetch zz_prog 97 58 = some (.iload_n 2, 1, [], []) := zz_fetch_of p97 rfl rfl
theorem s97_58 : zz_Run zz_prog d 97 (58, [l0, l1, some (.int v), l3], st, k, h) = zz_Run zz_prog d 97 (59, [l0, l1, some (.int v), l3], .int v :: st, k, h) := zz_k_num f97_58 rfl
theorem f97_59 : zz_fetch zz_prog 97 59 = some (.ireturn, 1, [1], []) := zz_fetch_of p97 rfl rfl
theorem s97_59 : zz_Run zz_prog d 97 (59, [l0, l1, l2, l3], [.int v], k, h) = zz_ck (decide (v = 0 ∨ v = 1)) (some (.inl (some (.int v)), k, h)) := zz_k_retz f97_59
end S97
section S98
variable {d n j : Nat} {l0 l1 l2 l3 l4 : Option Value} {st : List Value} {k : Bool} {h : zz_H} {v w v1 v2 : Int32} {y y1 : Int64} {a a1 a2 : Nat} {b0 b1 b2 b3 b4 b5 b6 b7 b8 : Value} {I : Nat → Nat → Int32} {J : Nat → Nat → Int64} {ex : List (Nat × Nat)}
theorem p98 : zz_prog 98 = some zz_m98 := rfl
theorem e98 (g0 : Nat) (g1 : Int32) (g2 : Int32) : zz_Call zz_prog (d + 1) 98 [.ref g0, .int g1, .int g2] h = zz_Run zz_prog d 98 (0, [some (.ref g0), some (.int g1), some (.int g2), none, none], [], true, h) := rfl
theorem t98 (pc : Nat) (L : List (Option Value)) : zz_th d 98 pc a L k h = some (.inr a, k, h) := zz_th_out p98 rfl
theorem f98_0 : zz_fetch zz_prog 98 0 = some (.aload_n 0, 1, [], []) := zz_fetch_of p98 rfl rfl
theorem s98_0 : zz_Run zz_prog d 98 (0, [some (.ref a), l1, l2, l3, l4], st, k, h) = zz_Run zz_prog d 98 (1, [some (.ref a), l1, l2, l3, l4], .ref a :: st, k, h) := zz_k_num f98_0 rfl
theorem f98_1 : zz_fetch zz_prog 98 1 = some (.getfield 7, 3, [2, 1, 3], []) := zz_fetch_of p98 rfl rfl
theorem s98_1 : zz_Run zz_prog d 98 (1, [l0, l1, l2, l3, l4], .ref 23 :: st, k, (zz_hp n I J ex)) = zz_Run zz_prog d 98 (4, [l0, l1, l2, l3, l4], .ref 24 :: st, k, (zz_hp n I J ex)) := zz_k_go f98_1 rfl rfl rfl
theorem f98_4 : zz_fetch zz_prog 98 4 = some (.sipush 180, 3, [], []) := zz_fetch_of p98 rfl rfl
theorem s98_4 : zz_Run zz_prog d 98 (4, [l0, l1, l2, l3, l4], st, k, h) = zz_Run zz_prog d 98 (7, [l0, l1, l2, l3, l4], .int 180 :: st, k, h) := zz_k_num f98_4 (congrArg (fun u => some (7, [l0, l1, l2, l3, l4], Value.int u :: st)) (by decide : (Int16.ofInt 180).toInt32 = 180))
theorem f98_7 : zz_fetch zz_prog 98 7 = some (.iaload, 1, [], []) := zz_fetch_of p98 rfl rfl
theorem s98_7 (ha : zz_isrd a = true) : zz_Run zz_prog d 98 (7, [l0, l1, l2, l3, l4], .int v :: .ref a :: st, k, (zz_hp n I J ex)) = zz_ck (zz_in v (zz_ary n a)) (zz_Run zz_prog d 98 (8, [l0, l1, l2, l3, l4], .int (I a v.toNatClampNeg) :: st, k, (zz_hp n I J ex))) := zz_k_iald f98_7 ha
theorem f98_8 : zz_fetch zz_prog 98 8 = some (.ifCond .ne 12, 3, [20], []) := zz_fetch_of p98 rfl rfl
theorem s98_8 : zz_Run zz_prog d 98 (8, [l0, l1, l2, l3, l4], .int v :: st, k, h) = if ¬ v = 0 then zz_Run zz_prog d 98 (20, [l0, l1, l2, l3, l4], st, k, h) else zz_Run zz_prog d 98 (11, [l0, l1, l2, l3, l4], st, k, h) := zz_k_br (¬ v = 0) rfl (zz_k_num f98_8 rfl)
theorem f98_11 : zz_fetch zz_prog 98 11 = some (.aload_n 0, 1, [], []) := zz_fetch_of p98 rfl rfl
theorem s98_11 : zz_Run zz_prog d 98 (11, [some (.ref a), l1, l2, l3, l4], st, k, h) = zz_Run zz_prog d 98 (12, [some (.ref a), l1, l2, l3, l4], .ref a :: st, k, h) := zz_k_num f98_11 rfl
theorem f98_12 : zz_fetch zz_prog 98 12 = some (.getfield 93, 3, [2, 11, 0], []) := zz_fetch_of p98 rfl rfl
theorem s98_12 : zz_Run zz_prog d 98 (12, [l0, l1, l2, l3, l4], .ref 23 :: st, k, (zz_hp n I J ex)) = zz_Run zz_prog d 98 (15, [l0, l1, l2, l3, l4], .int (I 23 11) :: st, k, (zz_hp n I J ex)) := zz_k_go f98_12 rfl rfl rfl
theorem f98_15 : zz_fetch zz_prog 98 15 = some (.bipush 9, 2, [], []) := zz_fetch_of p98 rfl rfl
theorem s98_15 : zz_Run zz_prog d 98 (15, [l0, l1, l2, l3, l4], st, k, h) = zz_Run zz_prog d 98 (17, [l0, l1, l2, l3, l4], .int 9 :: st, k, h) := zz_k_num f98_15 (congrArg (fun u => some (17, [l0, l1, l2, l3, l4], Value.int u :: st)) (by decide : (Int8.ofInt 9).toInt32 = 9))
theorem f98_17 : zz_fetch zz_prog 98 17 = some (.if_icmp .ne 7, 3, [24], []) := zz_fetch_of p98 rfl rfl
theorem s98_17 : zz_Run zz_prog d 98 (17, [l0, l1, l2, l3, l4], .int w :: .int v :: st, k, h) = if ¬ v = w then zz_Run zz_prog d 98 (24, [l0, l1, l2, l3, l4], st, k, h) else zz_Run zz_prog d 98 (20, [l0, l1, l2, l3, l4], st, k, h) := zz_k_br (¬ v = w) rfl (zz_k_num f98_17 rfl)
theorem f98_20 : zz_fetch zz_prog 98 20 = some (.iconst 1, 1, [], []) := zz_fetch_of p98 rfl rfl
theorem s98_20 : zz_Run zz_prog d 98 (20, [l0, l1, l2, l3, l4], st, k, h) = zz_Run zz_prog d 98 (21, [l0, l1, l2, l3, l4], .int 1 :: st, k, h) := zz_k_num f98_20 rfl
theorem f98_21 : zz_fetch zz_prog 98 21 = some (.goto 4, 3, [25], []) := zz_fetch_of p98 rfl rfl
theorem s98_21 : zz_Run zz_prog d 98 (21, [l0, l1, l2, l3, l4], st, k, h) = zz_Run zz_prog d 98 (25, [l0, l1, l2, l3, l4], st, k, h) := zz_k_num f98_21 rfl
theorem f98_24 : zz_fetch zz_prog 98 24 = some (.iconst 0, 1, [], []) := zz_fetch_of p98 rfl rfl
theorem s98_24 : zz_Run zz_prog d 98 (24, [l0, l1, l2, l3, l4], st, k, h) = zz_Run zz_prog d 98 (25, [l0, l1, l2, l3, l4], .int 0 :: st, k, h) := zz_k_num f98_24 rfl
theorem f98_25 : zz_fetch zz_prog 98 25 = some (.istore_n 3, 1, [], []) := zz_fetch_of p98 rfl rfl
theorem s98_25 : zz_Run zz_prog d 98 (25, [l0, l1, l2, l3, l4], .int v :: st, k, h) = zz_sl l2 (zz_Run zz_prog d 98 (26, [l0, l1, l2, some (.int v), l4], st, k, h)) := zz_k_st (j := 3) (u := .int v) f98_25 rfl (fun q hq => by cases hq) rfl (show 3 < 5 by decide) (by cases l2 <;> rfl) rfl
theorem f98_26 : zz_fetch zz_prog 98 26 = some (.iload_n 1, 1, [], []) := zz_fetch_of p98 rfl rfl
theorem s98_26 : zz_Run zz_prog d 98 (26, [l0, some (.int v), l2, l3, l4], st, k, h) = zz_Run zz_prog d 98 (27, [l0, some (.int v), l2, l3, l4], .int v :: st, k, h) := zz_k_num f98_26 rfl
theorem f98_27 : zz_fetch zz_prog 98 27 = some (.ifCond .lt 18, 3, [45], []) := zz_fetch_of p98 rfl rfl
theorem s98_27 : zz_Run zz_prog d 98 (27, [l0, l1, l2, l3, l4], .int v :: st, k, h) = if v < 0 then zz_Run zz_prog d 98 (45, [l0, l1, l2, l3, l4], st, k, h) else zz_Run zz_prog d 98 (30, [l0, l1, l2, l3, l4], st, k, h) := zz_k_br (v < 0) rfl (zz_k_num f98_27 rfl)
theorem f98_30 : zz_fetch zz_prog 98 30 = some (.iload_n 1, 1, [], []) := zz_fetch_of p98 rfl rfl
theorem s98_30 : zz_Run zz_prog d 98 (30, [l0, some (.int v), l2, l3, l4], st, k, h) = zz_Run zz_prog d 98 (31, [l0, some (.int v), l2, l3, l4], .int v :: st, k, h) := zz_k_num f98_30 rfl
theorem f98_31 : zz_fetch zz_prog 98 31 = some (.bipush 71, 2, [], []) := zz_fetch_of p98 rfl rfl
theorem s98_31 : zz_Run zz_prog d 98 (31, [l0, l1, l2, l3, l4], st, k, h) = zz_Run zz_prog d 98 (33, [l0, l1, l2, l3, l4], .int 71 :: st, k, h) := zz_k_num f98_31 (congrArg (fun u => some (33, [l0, l1, l2, l3, l4], Value.int u :: st)) (by decide : (Int8.ofInt 71).toInt32 = 71))
theorem f98_33 : zz_fetch zz_prog 98 33 = some (.if_icmp .gt 12, 3, [45], []) := zz_fetch_of p98 rfl rfl
theorem s98_33 : zz_Run zz_prog d 98 (33, [l0, l1, l2, l3, l4], .int w :: .int v :: st, k, h) = if w < v then zz_Run zz_prog d 98 (45, [l0, l1, l2, l3, l4], st, k, h) else zz_Run zz_prog d 98 (36, [l0, l1, l2, l3, l4], st, k, h) := zz_k_br (w < v) rfl (zz_k_num f98_33 rfl)
theorem f98_36 : zz_fetch zz_prog 98 36 = some (.iload_n 2, 1, [], []) := zz_fetch_of p98 rfl rfl
theorem s98_36 : zz_Run zz_prog d 98 (36, [l0, l1, some (.int v), l3, l4], st, k, h) = zz_Run zz_prog d 98 (37, [l0, l1, some (.int v), l3, l4], .int v :: st, k, h) := zz_k_num f98_36 rfl
theorem f98_37 : zz_fetch zz_prog 98 37 = some (.ifCond .lt 8, 3, [45], []) := zz_fetch_of p98 rfl rfl
theorem s98_37 : zz_Run zz_prog d 98 (37, [l0, l1, l2, l3, l4], .int v :: st, k, h) = if v < 0 then zz_Run zz_prog d 98 (45, [l0, l1, l2, l3, l4], st, k, h) else zz_Run zz_prog d 98 (40, [l0, l1, l2, l3, l4], st, k, h) := zz_k_br (v < 0) rfl (zz_k_num f98_37 rfl)
theorem f98_40 : zz_fetch zz_prog 98 40 = some (.iload_n 2, 1, [], []) := zz_fetch_of p98 rfl rfl
theorem s98_40 : zz_Run zz_prog d 98 (40, [l0, l1, some (.int v), l3, l4], st, k, h) = zz_Run zz_prog d 98 (41, [l0, l1, some (.int v), l3, l4], .int v :: st, k, h) := zz_k_num f98_40 rfl
theorem f98_41 : zz_fetch zz_prog 98 41 = some (.iconst 5, 1, [], []) := zz_fetch_of p98 rfl rfl
theorem s98_41 : zz_Run zz_prog d 98 (41, [l0, l1, l2, l3, l4], st, k, h) = zz_Run zz_prog d 98 (42, [l0, l1, l2, l3, l4], .int 5 :: st, k, h) := zz_k_num f98_41 rfl
theorem f98_42 : zz_fetch zz_prog 98 42 = some (.if_icmp .le 7, 3, [49], []) := zz_fetch_of p98 rfl rfl
theorem s98_42 : zz_Run zz_prog d 98 (42, [l0, l1, l2, l3, l4], .int w :: .int v :: st, k, h) = if v ≤ w then zz_Run zz_prog d 98 (49, [l0, l1, l2, l3, l4], st, k, h) else zz_Run zz_prog d 98 (45, [l0, l1, l2, l3, l4], st, k, h) := zz_k_br (v ≤ w) rfl (zz_k_num f98_42 rfl)
theorem f98_45 : zz_fetch zz_prog 98 45 = some (.iconst 1, 1, [], []) := zz_fetch_of p98 rfl rfl
theorem s98_45 : zz_Run zz_prog d 98 (45, [l0, l1, l2, l3, l4], st, k, h) = zz_Run zz_prog d 98 (46, [l0, l1, l2, l3, l4], .int 1 :: st, k, h) := zz_k_num f98_45 rfl
theorem f98_46 : zz_fetch zz_prog 98 46 = some (.goto 4, 3, [50], []) := zz_fetch_of p98 rfl rfl
theorem s98_46 : zz_Run zz_prog d 98 (46, [l0, l1, l2, l3, l4], st, k, h) = zz_Run zz_prog d 98 (50, [l0, l1, l2, l3, l4], st, k, h) := zz_k_num f98_46 rfl
theorem f98_49 : zz_fetch zz_prog 98 49 = some (.iconst 0, 1, [], []) := zz_fetch_of p98 rfl rfl
theorem s98_49 : zz_Run zz_prog d 98 (49, [l0, l1, l2, l3, l4], st, k, h) = zz_Run zz_prog d 98 (50, [l0, l1, l2, l3, l4], .int 0 :: st, k, h) := zz_k_num f98_49 rfl
theorem f98_50 : zz_fetch zz_prog 98 50 = some (.istore 4, 2, [], []) := zz_fetch_of p98 rfl rfl
theorem s98_50 : zz_Run zz_prog d 98 (50, [l0, l1, l2, l3, l4], .int v :: st, k, h) = zz_sl l3 (zz_Run zz_prog d 98 (52, [l0, l1, l2, l3, some (.int v)], st, k, h)) := zz_k_st (j := 4) (u := .int v) f98_50 rfl (fun q hq => by cases hq) rfl (show 4 < 5 by decide) (by cases l3 <;> rfl) rfl
theorem f98_52 : zz_fetch zz_prog 98 52 = some (.aload_n 0, 1, [], []) := zz_fetch_of p98 rfl rfl
theorem s98_52 : zz_Run zz_prog d 98 (52, [some (.ref a), l1, l2, l3, l4], st, k, h) = zz_Run zz_prog d 98 (53, [some (.ref a), l1, l2, l3, l4], .ref a :: st, k, h) := zz_k_num f98_52 rfl
theorem f98_53 : zz_fetch zz_prog 98 53 = some (.iload_n 3, 1, [], []) := zz_fetch_of p98 rfl rfl
theorem s98_53 : zz_Run zz_prog d 98 (53, [l0, l1, l2, some (.int v), l4], st, k, h) = zz_Run zz_prog d 98 (54, [l0, l1, l2, some (.int v), l4], .int v :: st, k, h) := zz_k_num f98_53 rfl
theorem f98_54 : zz_fetch zz_prog 98 54 = some (.iload 4, 2, [], []) := zz_fetch_of p98 rfl rfl
theorem s98_54 : zz_Run zz_prog d 98 (54, [l0, l1, l2, l3, some (.int v)], st, k, h) = zz_Run zz_prog d 98 (56, [l0, l1, l2, l3, some (.int v)], .int v :: st, k, h) := zz_k_num f98_54 rfl
theorem f98_56 : zz_fetch zz_prog 98 56 = some (.iload_n 3, 1, [], []) := zz_fetch_of p98 rfl rfl
theorem s98_56 : zz_Run zz_prog d 98 (56, [l0, l1, l2, some (.int v), l4], st, k, h) = zz_Run zz_prog d 98 (57, [l0, l1, l2, some (.int v), l4], .int v :: st, k, h) := zz_k_num f98_56 rfl
theorem f98_57 : zz_fetch zz_prog 98 57 = some (.ifCond .ne 46, 3, [103], []) := zz_fetch_of p98 rfl rfl
theorem s98_57 : zz_Run zz_prog d 98 (57, [l0, l1, l2, l3, l4], .int v :: st, k, h) = if ¬ v = 0 then zz_Run zz_prog d 98 (103, [l0, l1, l2, l3, l4], st, k, h) else zz_Run zz_prog d 98 (60, [l0, l1, l2, l3, l4], st, k, h) := zz_k_br (¬ v = 0) rfl (zz_k_num f98_57 rfl)
theorem f98_60 : zz_fetch zz_prog 98 60 = some (.iload 4, 2, [], []) := zz_fetch_of p98 rfl rfl
theorem s98_60 : zz_Run zz_prog d 98 (60, [l0, l1, l2, l3, some (.int v)], st, k, h) = zz_Run zz_prog d 98 (62, [l0, l1, l2, l3, some (.int v)], .int v :: st, k, h) := zz_k_num f98_60 rfl
theorem f98_62 : zz_fetch zz_prog 98 62 = some (.ifCond .ne 41, 3, [103], []) := zz_fetch_of p98 rfl rfl
theorem s98_62 : zz_Run zz_prog d 98 (62, [l0, l1, l2, l3, l4], .int v :: st, k, h) = if ¬ v = 0 then zz_Run zz_prog d 98 (103, [l0, l1, l2, l3, l4], st, k, h) else zz_Run zz_prog d 98 (65, [l0, l1, l2, l3, l4], st, k, h) := zz_k_br (¬ v = 0) rfl (zz_k_num f98_62 rfl)
theorem f98_65 : zz_fetch zz_prog 98 65 = some (.aload_n 0, 1, [], []) := zz_fetch_of p98 rfl rfl
theorem s98_65 : zz_Run zz_prog d 98 (65, [some (.ref a), l1, l2, l3, l4], st, k, h) = zz_Run zz_prog d 98 (66, [some (.ref a), l1, l2, l3, l4], .ref a :: st, k, h) := zz_k_num f98_65 rfl
theorem f98_66 : zz_fetch zz_prog 98 66 = some (.iload_n 1, 1, [], []) := zz_fetch_of p98 rfl rfl
theorem s98_66 : zz_Run zz_prog d 98 (66, [l0, some (.int v), l2, l3, l4], st, k, h) = zz_Run zz_prog d 98 (67, [l0, some (.int v), l2, l3, l4], .int v :: st, k, h) := zz_k_num f98_66 rfl
theorem f98_67 : zz_fetch zz_prog 98 67 = some (.invokevirtual 96, 3, [0, 94, 2, 2], []) := zz_fetch_of p98 rfl rfl
theorem s98_67 : zz_Run zz_prog d 98 (67, [l0, l1, l2, l3, l4], [b0, .ref 23, b2, b3, b4], k, (zz_hp n I J ex)) = zz_ret (zz_Call zz_prog d 94 [.ref 23, b0] (zz_hp n I J ex)) (fun v k' h' => zz_Run zz_prog d 98 (70, [l0, l1, l2, l3, l4], v.toList ++ [b2, b3, b4], k && k', h')) (fun a k' h' => zz_th d 98 67 a [l0, l1, l2, l3, l4] (k && k') h') := zz_k_call f98_67 rfl rfl rfl
theorem f98_70 : zz_fetch zz_prog 98 70 = some (.ifCond .eq 29, 3, [99], []) := zz_fetch_of p98 rfl rfl
theorem s98_70 : zz_Run zz_prog d 98 (70, [l0, l1, l2, l3, l4], .int v :: st, k, h) = if v = 0 then zz_Run zz_prog d 98 (99, [l0, l1, l2, l3, l4], st, k, h) else zz_Run zz_prog d 98 (73, [l0, l1, l2, l3, l4], st, k, h) := zz_k_br (v = 0) rfl (zz_k_num f98_70 rfl)
theorem f98_73 : zz_fetch zz_prog 98 73 = some (.aload_n 0, 1, [], []) := zz_fetch_of p98 rfl rfl
theorem s98_73 : zz_Run zz_prog d 98 (73, [some (.ref a), l1, l2, l3, l4], st, k, h) = zz_Run zz_prog d 98 (74, [some (.ref a), l1, l2, l3, l4], .ref a :: st, k, h) := zz_k_num f98_73 rfl
theorem f98_74 : zz_fetch zz_prog 98 74 = some (.aload_n 0, 1, [], []) := zz_fetch_of p98 rfl rfl
theorem s98_74 : zz_Run zz_prog d 98 (74, [some (.ref a), l1, l2, l3, l4], st, k, h) = zz_Run zz_prog d 98 (75, [some (.ref a), l1, l2, l3, l4], .ref a :: st, k, h) := zz_k_num f98_74 rfl
theorem f98_75 : zz_fetch zz_prog 98 75 = some (.getfield 22, 3, [2, 6, 3], []) := zz_fetch_of p98 rfl rfl
theorem s98_75 : zz_Run zz_prog d 98 (75, [l0, l1, l2, l3, l4], .ref 23 :: st, k, (zz_hp n I J ex)) = zz_Run zz_prog d 98 (78, [l0, l1, l2, l3, l4], .ref 28 :: st, k, (zz_hp n I J ex)) := zz_k_go f98_75 rfl rfl rfl
theorem f98_78 : zz_fetch zz_prog 98 78 = some (.iload_n 1, 1, [], []) := zz_fetch_of p98 rfl rfl
theorem s98_78 : zz_Run zz_prog d 98 (78, [l0, some (.int v), l2, l3, l4], st, k, h) = zz_Run zz_prog d 98 (79, [l0, some (.int v), l2, l3, l4], .int v :: st, k, h) := zz_k_num f98_78 rfl
theorem f98_79 : zz_fetch zz_prog 98 79 = some (.iaload, 1, [], []) := zz_fetch_of p98 rfl rfl
theorem s98_79 (ha : zz_isrd a = true) : zz_Run zz_prog d 98 (79, [l0, l1, l2, l3, l4], .int v :: .ref a :: st, k, (zz_hp n I J ex)) = zz_ck (zz_in v (zz_ary n a)) (zz_Run zz_prog d 98 (80, [l0, l1, l2, l3, l4], .int (I a v.toNatClampNeg) :: st, k, (zz_hp n I J ex))) := zz_k_iald f98_79 ha
theorem f98_80 : zz_fetch zz_prog 98 80 = some (.invokevirtual 100, 3, [0, 97, 2, 2], []) := zz_fetch_of p98 rfl rfl
theorem s98_80 : zz_Run zz_prog d 98 (80, [l0, l1, l2, l3, l4], [b0, .ref 23, b2, b3, b4], k, (zz_hp n I J ex)) = zz_ret (zz_Call zz_prog d 97 [.ref 23, b0] (zz_hp n I J ex)) (fun v k' h' => zz_Run zz_prog d 98 (83, [l0, l1, l2, l3, l4], v.toList ++ [b2, b3, b4], k && k', h')) (fun a k' h' => zz_th d 98 80 a [l0, l1, l2, l3, l4] (k && k') h') := zz_k_call f98_80 rfl rfl rfl
theorem f98_83 : zz_fetch zz_prog 98 83 = some (.ifCond .ne 16, 3, [99], []) := zz_fetch_of p98 rfl rfl
theorem s98_83 : zz_Run zz_prog d 98 (83, [l0, l1, l2, l3, l4], .int v :: st, k, h) = if ¬ v = 0 then zz_Run zz_prog d 98 (99, [l0, l1, l2, l3, l4], st, k, h) else zz_Run zz_prog d 98 (86, [l0, l1, l2, l3, l4], st, k, h) := zz_k_br (¬ v = 0) rfl (zz_k_num f98_83 rfl)
theorem f98_86 : zz_fetch zz_prog 98 86 = some (.aload_n 0, 1, [], []) := zz_fetch_of p98 rfl rfl
theorem s98_86 : zz_Run zz_prog d 98 (86, [some (.ref a), l1, l2, l3, l4], st, k, h) = zz_Run zz_prog d 98 (87, [some (.ref a), l1, l2, l3, l4], .ref a :: st, k, h) := zz_k_num f98_86 rfl
theorem f98_87 : zz_fetch zz_prog 98 87 = some (.aload_n 0, 1, [], []) := zz_fetch_of p98 rfl rfl
theorem s98_87 : zz_Run zz_prog d 98 (87, [some (.ref a), l1, l2, l3, l4], st, k, h) = zz_Run zz_prog d 98 (88, [some (.ref a), l1, l2, l3, l4], .ref a :: st, k, h) := zz_k_num f98_87 rfl
theorem f98_88 : zz_fetch zz_prog 98 88 = some (.getfield 25, 3, [2, 7, 3], []) := zz_fetch_of p98 rfl rfl
theorem s98_88 : zz_Run zz_prog d 98 (88, [l0, l1, l2, l3, l4], .ref 23 :: st, k, (zz_hp n I J ex)) = zz_Run zz_prog d 98 (91, [l0, l1, l2, l3, l4], .ref 29 :: st, k, (zz_hp n I J ex)) := zz_k_go f98_88 rfl rfl rfl
theorem f98_91 : zz_fetch zz_prog 98 91 = some (.iload_n 1, 1, [], []) := zz_fetch_of p98 rfl rfl
theorem s98_91 : zz_Run zz_prog d 98 (91, [l0, some (.int v), l2, l3, l4], st, k, h) = zz_Run zz_prog d 98 (92, [l0, some (.int v), l2, l3, l4], .int v :: st, k, h) := zz_k_num f98_91 rfl
theorem f98_92 : zz_fetch zz_prog 98 92 = some (.iaload, 1, [], []) := zz_fetch_of p98 rfl rfl
theorem s98_92 (ha : zz_isrd a = true) : zz_Run zz_prog d 98 (92, [l0, l1, l2, l3, l4], .int v :: .ref a :: st, k, (zz_hp n I J ex)) = zz_ck (zz_in v (zz_ary n a)) (zz_Run zz_prog d 98 (93, [l0, l1, l2, l3, l4], .int (I a v.toNatClampNeg) :: st, k, (zz_hp n I J ex))) := zz_k_iald f98_92 ha
theorem f98_93 : zz_fetch zz_prog 98 93 = some (.invokevirtual 100, 3, [0, 97, 2, 2], []) := zz_fetch_of p98 rfl rfl
theorem s98_93 : zz_Run zz_prog d 98 (93, [l0, l1, l2, l3, l4], [b0, .ref 23, b2, b3, b4], k, (zz_hp n I J ex)) = zz_ret (zz_Call zz_prog d 97 [.ref 23, b0] (zz_hp n I J ex)) (fun v k' h' => zz_Run zz_prog d 98 (96, [l0, l1, l2, l3, l4], v.toList ++ [b2, b3, b4], k && k', h')) (fun a k' h' => zz_th d 98 93 a [l0, l1, l2, l3, l4] (k && k') h') := zz_k_call f98_93 rfl rfl rfl
theorem f98_96 : zz_fetch zz_prog 98 96 = some (.ifCond .eq 7, 3, [103], []) := zz_fetch_of p98 rfl rfl
theorem s98_96 : zz_Run zz_prog d 98 (96, [l0, l1, l2, l3, l4], .int v :: st, k, h) = if v = 0 then zz_Run zz_prog d 98 (103, [l0, l1, l2, l3, l4], st, k, h) else zz_Run zz_prog d 98 (99, [l0, l1, l2, l3, l4], st, k, h) := zz_k_br (v = 0) rfl (zz_k_num f98_96 rfl)
theorem f98_99 : zz_fetch zz_prog 98 99 = some (.iconst 1, 1, [], []) := zz_fetch_of p98 rfl rfl
theorem s98_99 : zz_Run zz_prog d 98 (99, [l0, l1, l2, l3, l4], st, k, h) = zz_Run zz_prog d 98 (100, [l0, l1, l2, l3, l4], .int 1 :: st, k, h) := zz_k_num f98_99 rfl
theorem f98_100 : zz_fetch zz_prog 98 100 = some (.goto 4, 3, [104], []) := zz_fetch_of p98 rfl rfl
theorem s98_100 : zz_Run zz_prog d 98 (100, [l0, l1, l2, l3, l4], st, k, h) = zz_Run zz_prog d 98 (104, [l0, l1, l2, l3, l4], st, k, h) := zz_k_num f98_100 rfl
theorem f98_103 : zz_fetch zz_prog 98 103 = some (.iconst 0, 1, [], []) := zz_fetch_of p98 rfl rfl
theorem s98_103 : zz_Run zz_prog d 98 (103, [l0, l1, l2, l3, l4], st, k, h) = zz_Run zz_prog d 98 (104, [l0, l1, l2, l3, l4], .int 0 :: st, k, h) := zz_k_num f98_103 rfl
theorem f98_104 : zz_fetch zz_prog 98 104 = some (.invokevirtual 89, 3, [0, 95, 4, 2], []) := zz_fetch_of p98 rfl rfl
theorem s98_104 : zz_Run zz_prog d 98 (104, [l0, l1, l2, l3, l4], [b0, b1, b2, .ref 23], k, (zz_hp n I J ex)) = zz_ret (zz_Call zz_prog d 95 [.ref 23, b2, b1, b0] (zz_hp n I J ex)) (fun v k' h' => zz_Run zz_prog d 98 (107, [l0, l1, l2, l3, l4], v.toList ++ [], k && k', h')) (fun a k' h' => zz_th d 98 104 a [l0, l1, l2, l3, l4] (k && k') h') := zz_k_call f98_104 rfl rfl rfl
theorem f98_107 : zz_fetch zz_prog 98 107 = some (.ifCond .eq 5, 3, [112], []) := zz_fetch_of p98 rfl rfl
theorem s98_107 : zz_Run zz_prog d 98 (107, [l0, l1, l2, l3, l4], .int v :: st, k, h) = if v = 0 then zz_Run zz_prog d 98 (112, [l0, l1, l2, l3, l4], st, k, h) else zz_Run zz_prog d 98 (110, [l0, l1, l2, l3, l4], st, k, h) := zz_k_br (v = 0) rfl (zz_k_num f98_107 rfl)
theorem f98_110 : zz_fetch zz_prog 98 110 = some (.iconst 0, 1, [], []) := zz_fetch_of p98 rfl rfl
theorem s98_110 : zz_Run zz_prog d 98 (110, [l0, l1, l2, l3, l4], st, k, h) = zz_Run zz_prog d 98 (111, [l0, l1, l2, l3, l4], .int 0 :: st, k, h) := zz_k_num f98_110 rfl
theorem f98_111 : zz_fetch zz_prog 98 111 = some (.ireturn, 1, [0], []) := zz_fetch_of p98 rfl rfl
theorem s98_111 : zz_Run zz_prog d 98 (111, [l0, l1, l2, l3, l4], [.int v], k, h) = some (.inl (some (.int v)), k, h) := zz_k_stop f98_111 rfl rfl rfl
theorem f98_112 : zz_fetch zz_prog 98 112 = some (.aload_n 0, 1, [], []) := zz_fetch_of p98 rfl rfl
theorem s98_112 : zz_Run zz_prog d 98 (112, [some (.ref a), l1, l2, l3, l4], st, k, h) = zz_Run zz_prog d 98 (113, [some (.ref a), l1, l2, l3, l4], .ref a :: st, k, h) := zz_k_num f98_112 rfl
theorem f98_113 : zz_fetch zz_prog 98 113 = some (.getfield 37, 3, [2, 12, 3], []) := zz_fetch_of p98 rfl rfl
theorem s98_113 : zz_Run zz_prog d 98 (113, [l0, l1, l2, l3, l4], .ref 23 :: st, k, (zz_hp n I J ex)) = zz_Run zz_prog d 98 (116, [l0, l1, l2, l3, l4], .ref 33 :: st, k, (zz_hp n I J ex)) := zz_k_go f98_113 rfl rfl rfl
theorem f98_116 : zz_fetch zz_prog 98 116 = some (.aload_n 0, 1, [], []) := zz_fetch_of p98 rfl rfl
theorem s98_116 : zz_Run zz_prog d 98 (116, [some (.ref a), l1, l2, l3, l4], st, k, h) = zz_Run zz_prog d 98 (117, [some (.ref a), l1, l2, l3, l4], .ref a :: st, k, h) := zz_k_num f98_116 rfl
theorem f98_117 : zz_fetch zz_prog 98 117 = some (.getfield 93, 3, [2, 11, 0], []) := zz_fetch_of p98 rfl rfl
theorem s98_117 : zz_Run zz_prog d 98 (117, [l0, l1, l2, l3, l4], .ref 23 :: st, k, (zz_hp n I J ex)) = zz_Run zz_prog d 98 (120, [l0, l1, l2, l3, l4], .int (I 23 11) :: st, k, (zz_hp n I J ex)) := zz_k_go f98_117 rfl rfl rfl
theorem f98_120 : zz_fetch zz_prog 98 120 = some (.iload_n 1, 1, [], []) := zz_fetch_of p98 rfl rfl
theorem s98_120 : zz_Run zz_prog d 98 (120, [l0, some (.int v), l2, l3, l4], st, k, h) = zz_Run zz_prog d 98 (121, [l0, some (.int v), l2, l3, l4], .int v :: st, k, h) := zz_k_num f98_120 rfl
theorem f98_121 : zz_fetch zz_prog 98 121 = some (.iastore, 1, [], []) := zz_fetch_of p98 rfl rfl
theorem s98_121 (ha : zz_isar a = true) : zz_Run zz_prog d 98 (121, [l0, l1, l2, l3, l4], .int w :: .int v :: .ref a :: st, k, (zz_hp n I J ex)) = zz_ck (zz_in v (zz_ary n a)) (zz_Run zz_prog d 98 (122, [l0, l1, l2, l3, l4], st, false, (zz_hp n (zz_up I a v.toNatClampNeg w) J ex))) := zz_k_iast f98_121 ha
theorem f98_122 : zz_fetch zz_prog 98 122 = some (.aload_n 0, 1, [], []) := zz_fetch_of p98 rfl rfl
theorem s98_122 : zz_Run zz_prog d 98 (122, [some (.ref a), l1, l2, l3, l4], st, k, h) = zz_Run zz_prog d 98 (123, [some (.ref a), l1, l2, l3, l4], .ref a :: st, k, h) := zz_k_num f98_122 rfl
theorem f98_123 : zz_fetch zz_prog 98 123 = some (.getfield 40, 3, [2, 13, 3], []) := zz_fetch_of p98 rfl rfl
theorem s98_123 : zz_Run zz_prog d 98 (123, [l0, l1, l2, l3, l4], .ref 23 :: st, k, (zz_hp n I J ex)) = zz_Run zz_prog d 98 (126, [l0, l1, l2, l3, l4], .ref 34 :: st, k, (zz_hp n I J ex)) := zz_k_go f98_123 rfl rfl rfl
theorem f98_126 : zz_fetch zz_prog 98 126 = some (.aload_n 0, 1, [], []) := zz_fetch_of p98 rfl rfl
theorem s98_126 : zz_Run zz_prog d 98 (126, [some (.ref a), l1, l2, l3, l4], st, k, h) = zz_Run zz_prog d 98 (127, [some (.ref a), l1, l2, l3, l4], .ref a :: st, k, h) := zz_k_num f98_126 rfl
theorem f98_127 : zz_fetch zz_prog 98 127 = some (.getfield 93, 3, [2, 11, 0], []) := zz_fetch_of p98 rfl rfl
theorem s98_127 : zz_Run zz_prog d 98 (127, [l0, l1, l2, l3, l4], .ref 23 :: st, k, (zz_hp n I J ex)) = zz_Run zz_prog d 98 (130, [l0, l1, l2, l3, l4], .int (I 23 11) :: st, k, (zz_hp n I J ex)) := zz_k_go f98_127 rfl rfl rfl
theorem f98_130 : zz_fetch zz_prog 98 130 = some (.iload_n 2, 1, [], []) := zz_fetch_of p98 rfl rfl
theorem s98_130 : zz_Run zz_prog d 98 (130, [l0, l1, some (.int v), l3, l4], st, k, h) = zz_Run zz_prog d 98 (131, [l0, l1, some (.int v), l3, l4], .int v :: st, k, h) := zz_k_num f98_130 rfl
theorem f98_131 : zz_fetch zz_prog 98 131 = some (.iastore, 1, [], []) := zz_fetch_of p98 rfl rfl
theorem s98_131 (ha : zz_isar a = true) : zz_Run zz_prog d 98 (131, [l0, l1, l2, l3, l4], .int w :: .int v :: .ref a :: st, k, (zz_hp n I J ex)) = zz_ck (zz_in v (zz_ary n a)) (zz_Run zz_prog d 98 (132, [l0, l1, l2, l3, l4], st, false, (zz_hp n (zz_up I a v.toNatClampNeg w) J ex))) := zz_k_iast f98_131 ha
theorem f98_132 : zz_fetch zz_prog 98 132 = some (.aload_n 0, 1, [], []) := zz_fetch_of p98 rfl rfl
theorem s98_132 : zz_Run zz_prog d 98 (132, [some (.ref a), l1, l2, l3, l4], st, k, h) = zz_Run zz_prog d 98 (133, [some (.ref a), l1, l2, l3, l4], .ref a :: st, k, h) := zz_k_num f98_132 rfl
theorem f98_133 : zz_fetch zz_prog 98 133 = some (.dup, 1, [], []) := zz_fetch_of p98 rfl rfl
theorem s98_133 : zz_Run zz_prog d 98 (133, [l0, l1, l2, l3, l4], .ref a :: st, k, h) = zz_Run zz_prog d 98 (134, [l0, l1, l2, l3, l4], .ref a :: .ref a :: st, k, h) := zz_k_num f98_133 rfl
theorem f98_134 : zz_fetch zz_prog 98 134 = some (.getfield 93, 3, [2, 11, 0], []) := zz_fetch_of p98 rfl rfl
theorem s98_134 : zz_Run zz_prog d 98 (134, [l0, l1, l2, l3, l4], .ref 23 :: st, k, (zz_hp n I J ex)) = zz_Run zz_prog d 98 (137, [l0, l1, l2, l3, l4], .int (I 23 11) :: st, k, (zz_hp n I J ex)) := zz_k_go f98_134 rfl rfl rfl
theorem f98_137 : zz_fetch zz_prog 98 137 = some (.iconst 1, 1, [], []) := zz_fetch_of p98 rfl rfl
theorem s98_137 : zz_Run zz_prog d 98 (137, [l0, l1, l2, l3, l4], st, k, h) = zz_Run zz_prog d 98 (138, [l0, l1, l2, l3, l4], .int 1 :: st, k, h) := zz_k_num f98_137 rfl
theorem f98_138 : zz_fetch zz_prog 98 138 = some (.iadd, 1, [], []) := zz_fetch_of p98 rfl rfl
theorem s98_138 : zz_Run zz_prog d 98 (138, [l0, l1, l2, l3, l4], .int w :: .int v :: st, k, h) = zz_Run zz_prog d 98 (139, [l0, l1, l2, l3, l4], .int (v + w) :: st, k, h) := zz_k_num f98_138 rfl
theorem f98_139 : zz_fetch zz_prog 98 139 = some (.putfield 93, 3, [2, 11, 0], []) := zz_fetch_of p98 rfl rfl
theorem s98_139 : zz_Run zz_prog d 98 (139, [l0, l1, l2, l3, l4], .int v :: .ref 23 :: st, k, (zz_hp n I J ex)) = zz_Run zz_prog d 98 (142, [l0, l1, l2, l3, l4], st, false, (zz_hp n (zz_up I 23 11 v) J ex)) := zz_k_go f98_139 rfl rfl rfl
theorem f98_142 : zz_fetch zz_prog 98 142 = some (.aload_n 0, 1, [], []) := zz_fetch_of p98 rfl rfl
theorem s98_142 : zz_Run zz_prog d 98 (142, [some (.ref a), l1, l2, l3, l4], st, k, h) = zz_Run zz_prog d 98 (143, [some (.ref a), l1, l2, l3, l4], .ref a :: st, k, h) := zz_k_num f98_142 rfl
theorem f98_143 : zz_fetch zz_prog 98 143 = some (.getfield 93, 3, [2, 11, 0], []) := zz_fetch_of p98 rfl rfl
theorem s98_143 : zz_Run zz_prog d 98 (143, [l0, l1, l2, l3, l4], .ref 23 :: st, k, (zz_hp n I J ex)) = zz_Run zz_prog d 98 (146, [l0, l1, l2, l3, l4], .int (I 23 11) :: st, k, (zz_hp n I J ex)) := zz_k_go f98_143 rfl rfl rfl
theorem f98_146 : zz_fetch zz_prog 98 146 = some (.ireturn, 1, [0], []) := zz_fetch_of p98 rfl rfl
theorem s98_146 : zz_Run zz_prog d 98 (146, [l0, l1, l2, l3, l4], [.int v], k, h) = some (.inl (some (.int v)), k, h) := zz_k_stop f98_146 rfl rfl rfl
end S98
section S99
variable {d n j : Nat} {l0 l1 l2 l3 l4 : Option Value} {st : List Value} {k : Bool} {h : zz_H} {v w v1 v2 : Int32} {y y1 : Int64} {a a1 a2 : Nat} {b0 b1 b2 b3 b4 b5 b6 b7 b8 : Value} {I : Nat → Nat → Int32} {J : Nat → Nat → Int64} {ex : List (Nat × Nat)}
theorem p99 : zz_prog 99 = some zz_m99 := rfl
theorem e99 (g0 : Nat) (g1 : Int64) : zz_Call zz_prog (d + 1) 99 [.ref g0, .long g1] h = zz_Run zz_prog d 99 (0, [some (.ref g0), some (.long g1), none, none, none], [], true, h) := rfl
theorem t99 (pc : Nat) (L : List (Option Value)) : zz_th d 99 pc a L k h = some (.inr a, k, h) := zz_th_out p99 rfl
theorem f99_0 : zz_fetch zz_prog 99 0 = some (.aload_n 0, 1, [], []) := zz_fetch_of p99 rfl rfl
theorem s99_0 : zz_Run zz_prog d 99 (0, [some (.ref a), l1, l2, l3, l4], st, k, h) = zz_Run zz_prog d 99 (1, [some (.ref a), l1, l2, l3, l4], .ref a :: st, k, h) := zz_k_num f99_0 rfl
theorem f99_1 : zz_fetch zz_prog 99 1 = some (.aload_n 0, 1, [], []) := zz_fetch_of p99 rfl rfl
theorem s99_1 : zz_Run zz_prog d 99 (1, [some (.ref a), l1, l2, l3, l4], st, k, h) = zz_Run zz_prog d 99 (2, [some (.ref a), l1, l2, l3, l4], .ref a :: st, k, h) := zz_k_num f99_1 rfl
theorem f99_2 : zz_fetch zz_prog 99 2 = some (.getfield 7, 3, [2, 1, 3], []) := zz_fetch_of p99 rfl rfl
theorem s99_2 : zz_Run zz_prog d 99 (2, [l0, l1, l2, l3, l4], .ref 23 :: st, k, (zz_hp n I J ex)) = zz_Run zz_prog d 99 (5, [l0, l1, l2, l3, l4], .ref 24 :: st, k, (zz_hp n I J ex)) := zz_k_go f99_2 rfl rfl rfl
theorem f99_5 : zz_fetch zz_prog 99 5 = some (.sipush 180, 3, [], []) := zz_fetch_of p99 rfl rfl
theorem s99_5 : zz_Run zz_prog d 99 (5, [l0, l1, l2, l3, l4], st, k, h) = zz_Run zz_prog d 99 (8, [l0, l1, l2, l3, l4], .int 180 :: st, k, h) := zz_k_num f99_5 (congrArg (fun u => some (8, [l0, l1, l2, l3, l4], Value.int u :: st)) (by decide : (Int16.ofInt 180).toInt32 = 180))
theorem f99_8 : zz_fetch zz_prog 99 8 = some (.iaload, 1, [], []) := zz_fetch_of p99 rfl rfl
theorem s99_8 (ha : zz_isrd a = true) : zz_Run zz_prog d 99 (8, [l0, l1, l2, l3, l4], .int v :: .ref a :: st, k, (zz_hp n I J ex)) = zz_ck (zz_in v (zz_ary n a)) (zz_Run zz_prog d 99 (9, [l0, l1, l2, l3, l4], .int (I a v.toNatClampNeg) :: st, k, (zz_hp n I J ex))) := zz_k_iald f99_8 ha
theorem f99_9 : zz_fetch zz_prog 99 9 = some (.ifCond .eq 7, 3, [16], []) := zz_fetch_of p99 rfl rfl
theorem s99_9 : zz_Run zz_prog d 99 (9, [l0, l1, l2, l3, l4], .int v :: st, k, h) = if v = 0 then zz_Run zz_prog d 99 (16, [l0, l1, l2, l3, l4], st, k, h) else zz_Run zz_prog d 99 (12, [l0, l1, l2, l3, l4], st, k, h) := zz_k_br (v = 0) rfl (zz_k_num f99_9 rfl)
theorem f99_12 : zz_fetch zz_prog 99 12 = some (.iconst 1, 1, [], []) := zz_fetch_of p99 rfl rfl
theorem s99_12 : zz_Run zz_prog d 99 (12, [l0, l1, l2, l3, l4], st, k, h) = zz_Run zz_prog d 99 (13, [l0, l1, l2, l3, l4], .int 1 :: st, k, h) := zz_k_num f99_12 rfl
theorem f99_13 : zz_fetch zz_prog 99 13 = some (.goto 4, 3, [17], []) := zz_fetch_of p99 rfl rfl
theorem s99_13 : zz_Run zz_prog d 99 (13, [l0, l1, l2, l3, l4], st, k, h) = zz_Run zz_prog d 99 (17, [l0, l1, l2, l3, l4], st, k, h) := zz_k_num f99_13 rfl
theorem f99_16 : zz_fetch zz_prog 99 16 = some (.iconst 0, 1, [], []) := zz_fetch_of p99 rfl rfl
theorem s99_16 : zz_Run zz_prog d 99 (16, [l0, l1, l2, l3, l4], st, k, h) = zz_Run zz_prog d 99 (17, [l0, l1, l2, l3, l4], .int 0 :: st, k, h) := zz_k_num f99_16 rfl
theorem f99_17 : zz_fetch zz_prog 99 17 = some (.iconst 0, 1, [], []) := zz_fetch_of p99 rfl rfl
theorem s99_17 : zz_Run zz_prog d 99 (17, [l0, l1, l2, l3, l4], st, k, h) = zz_Run zz_prog d 99 (18, [l0, l1, l2, l3, l4], .int 0 :: st, k, h) := zz_k_num f99_17 rfl
theorem f99_18 : zz_fetch zz_prog 99 18 = some (.iconst 0, 1, [], []) := zz_fetch_of p99 rfl rfl
theorem s99_18 : zz_Run zz_prog d 99 (18, [l0, l1, l2, l3, l4], st, k, h) = zz_Run zz_prog d 99 (19, [l0, l1, l2, l3, l4], .int 0 :: st, k, h) := zz_k_num f99_18 rfl
theorem f99_19 : zz_fetch zz_prog 99 19 = some (.invokevirtual 89, 3, [0, 95, 4, 2], []) := zz_fetch_of p99 rfl rfl
theorem s99_19 : zz_Run zz_prog d 99 (19, [l0, l1, l2, l3, l4], [b0, b1, b2, .ref 23], k, (zz_hp n I J ex)) = zz_ret (zz_Call zz_prog d 95 [.ref 23, b2, b1, b0] (zz_hp n I J ex)) (fun v k' h' => zz_Run zz_prog d 99 (22, [l0, l1, l2, l3, l4], v.toList ++ [], k && k', h')) (fun a k' h' => zz_th d 99 19 a [l0, l1, l2, l3, l4] (k && k') h') := zz_k_call f99_19 rfl rfl rfl
theorem f99_22 : zz_fetch zz_prog 99 22 = some (.ifCond .ne 47, 3, [69], []) := zz_fetch_of p99 rfl rfl
theorem s99_22 : zz_Run zz_prog d 99 (22, [l0, l1, l2, l3, l4], .int v :: st, k, h) = if ¬ v = 0 then zz_Run zz_prog d 99 (69, [l0, l1, l2, l3, l4], st, k, h) else zz_Run zz_prog d 99 (25, [l0, l1, l2, l3, l4], st, k, h) := zz_k_br (¬ v = 0) rfl (zz_k_num f99_22 rfl)
theorem f99_25 : zz_fetch zz_prog 99 25 = some (.iconst 0, 1, [], []) := zz_fetch_of p99 rfl rfl
theorem s99_25 : zz_Run zz_prog d 99 (25, [l0, l1, l2, l3, l4], st, k, h) = zz_Run zz_prog d 99 (26, [l0, l1, l2, l3, l4], .int 0 :: st, k, h) := zz_k_num f99_25 rfl
theorem f99_26 : zz_fetch zz_prog 99 26 = some (.istore_n 3, 1, [], []) := zz_fetch_of p99 rfl rfl
theorem s99_26 : zz_Run zz_prog d 99 (26, [l0, l1, l2, l3, l4], .int v :: st, k, h) = zz_sl l2 (zz_Run zz_prog d 99 (27, [l0, l1, l2, some (.int v), l4], st, k, h)) := zz_k_st (j := 3) (u := .int v) f99_26 rfl (fun q hq => by cases hq) rfl (show 3 < 5 by decide) (by cases l2 <;> rfl) rfl
theorem f99_27 : zz_fetch zz_prog 99 27 = some (.iload_n 3, 1, [], []) := zz_fetch_of p99 rfl rfl
theorem s99_27 : zz_Run zz_prog d 99 (27, [l0, l1, l2, some (.int v), l4], st, k, h) = zz_Run zz_prog d 99 (28, [l0, l1, l2, some (.int v), l4], .int v :: st, k, h) := zz_k_num f99_27 rfl
theorem f99_28 : zz_fetch zz_prog 99 28 = some (.bipush 16, 2, [], []) := zz_fetch_of p99 rfl rfl
theorem s99_28 : zz_Run zz_prog d 99 (28, [l0, l1, l2, l3, l4], st, k, h) = zz_Run zz_prog d 99 (30, [l0, l1, l2, l3, l4], .int 16 :: st, k, h) := zz_k_num f99_28 (congrArg (fun u => some (30, [l0, l1, l2, l3, l4], Value.int u :: st)) (by decide : (Int8.ofInt 16).toInt32 = 16))
theorem f99_30 : zz_fetch zz_prog 99 30 = some (.if_icmp .ge 39, 3, [69], []) := zz_fetch_of p99 rfl rfl
theorem s99_30 : zz_Run zz_prog d 99 (30, [l0, l1, l2, l3, l4], .int w :: .int v :: st, k, h) = if w ≤ v then zz_Run zz_prog d 99 (69, [l0, l1, l2, l3, l4], st, k, h) else zz_Run zz_prog d 99 (33, [l0, l1, l2, l3, l4], st, k, h) := zz_k_br (w ≤ v) rfl (zz_k_num f99_30 rfl)
theorem f99_33 : zz_fetch zz_prog 99 33 = some (.lload_n 1, 1, [], []) := zz_fetch_of p99 rfl rfl
theorem s99_33 : zz_Run zz_prog d 99 (33, [l0, some (.long y), l2, l3, l4], st, k, h) = zz_Run zz_prog d 99 (34, [l0, some (.long y), l2, l3, l4], .long y :: st, k, h) := zz_k_num f99_33 rfl
theorem f99_34 : zz_fetch zz_prog 99 34 = some (.iconst 3, 1, [], []) := zz_fetch_of p99 rfl rfl
theorem s99_34 : zz_Run zz_prog d 99 (34, [l0, l1, l2, l3, l4], st, k, h) = zz_Run zz_prog d 99 (35, [l0, l1, l2, l3, l4], .int 3 :: st, k, h) := zz_k_num f99_34 rfl
theorem f99_35 : zz_fetch zz_prog 99 35 = some (.iload_n 3, 1, [], []) := zz_fetch_of p99 rfl rfl
theorem s99_35 : zz_Run zz_prog d 99 (35, [l0, l1, l2, some (.int v), l4], st, k, h) = zz_Run zz_prog d 99 (36, [l0, l1, l2, some (.int v), l4], .int v :: st, k, h) := zz_k_num f99_35 rfl
theorem f99_36 : zz_fetch zz_prog 99 36 = some (.imul, 1, [], []) := zz_fetch_of p99 rfl rfl
theorem s99_36 : zz_Run zz_prog d 99 (36, [l0, l1, l2, l3, l4], .int w :: .int v :: st, k, h) = zz_Run zz_prog d 99 (37, [l0, l1, l2, l3, l4], .int (v * w) :: st, k, h) := zz_k_num f99_36 rfl
theorem f99_37 : zz_fetch zz_prog 99 37 = some (.lshr, 1, [], []) := zz_fetch_of p99 rfl rfl
theorem s99_37 : zz_Run zz_prog d 99 (37, [l0, l1, l2, l3, l4], .int v :: .long y :: st, k, h) = zz_Run zz_prog d 99 (38, [l0, l1, l2, l3, l4], .long (y >>> (v.toInt64 &&& 63)) :: st, k, h) := zz_k_num f99_37 rfl
theorem f99_38 : zz_fetch zz_prog 99 38 = some (.ldc2_w 103, 3, [7], []) := zz_fetch_of p99 rfl rfl
theorem s99_38 : zz_Run zz_prog d 99 (38, [l0, l1, l2, l3, l4], st, k, h) = zz_Run zz_prog d 99 (41, [l0, l1, l2, l3, l4], .long (Int64.ofNat 7) :: st, k, h) := zz_k_go f99_38 rfl rfl rfl
theorem f99_41 : zz_fetch zz_prog 99 41 = some (.land, 1, [], []) := zz_fetch_of p99 rfl rfl
theorem s99_41 : zz_Run zz_prog d 99 (41, [l0, l1, l2, l3, l4], .long y1 :: .long y :: st, k, h) = zz_Run zz_prog d 99 (42, [l0, l1, l2, l3, l4], .long (y &&& y1) :: st, k, h) := zz_k_num f99_41 rfl
theorem f99_42 : zz_fetch zz_prog 99 42 = some (.l2i, 1, [], []) := zz_fetch_of p99 rfl rfl
theorem s99_42 : zz_Run zz_prog d 99 (42, [l0, l1, l2, l3, l4], .long y :: st, k, h) = zz_Run zz_prog d 99 (43, [l0, l1, l2, l3, l4], .int y.toInt32 :: st, k, h) := zz_k_num f99_42 rfl
theorem f99_43 : zz_fetch zz_prog 99 43 = some (.istore 4, 2, [], []) := zz_fetch_of p99 rfl rfl
theorem s99_43 : zz_Run zz_prog d 99 (43, [l0, l1, l2, l3, l4], .int v :: st, k, h) = zz_sl l3 (zz_Run zz_prog d 99 (45, [l0, l1, l2, l3, some (.int v)], st, k, h)) := zz_k_st (j := 4) (u := .int v) f99_43 rfl (fun q hq => by cases hq) rfl (show 4 < 5 by decide) (by cases l3 <;> rfl) rfl
theorem f99_45 : zz_fetch zz_prog 99 45 = some (.aload_n 0, 1, [], []) := zz_fetch_of p99 rfl rfl
theorem s99_45 : zz_Run zz_prog d 99 (45, [some (.ref a), l1, l2, l3, l4], st, k, h) = zz_Run zz_prog d 99 (46, [some (.ref a), l1, l2, l3, l4], .ref a :: st, k, h) := zz_k_num f99_45 rfl
theorem f99_46 : zz_fetch zz_prog 99 46 = some (.getfield 43, 3, [2, 14, 3], []) := zz_fetch_of p99 rfl rfl
theorem s99_46 : zz_Run zz_prog d 99 (46, [l0, l1, l2, l3, l4], .ref 23 :: st, k, (zz_hp n I J ex)) = zz_Run zz_prog d 99 (49, [l0, l1, l2, l3, l4], .ref 35 :: st, k, (zz_hp n I J ex)) := zz_k_go f99_46 rfl rfl rfl
theorem f99_49 : zz_fetch zz_prog 99 49 = some (.iload_n 3, 1, [], []) := zz_fetch_of p99 rfl rfl
theorem s99_49 : zz_Run zz_prog d 99 (49, [l0, l1, l2, some (.int v), l4], st, k, h) = zz_Run zz_prog d 99 (50, [l0, l1, l2, some (.int v), l4], .int v :: st, k, h) := zz_k_num f99_49 rfl
theorem f99_50 : zz_fetch zz_prog 99 50 = some (.iload 4, 2, [], []) := zz_fetch_of p99 rfl rfl
theorem s99_50 : zz_Run zz_prog d 99 (50, [l0, l1, l2, l3, some (.int v)], st, k, h) = zz_Run zz_prog d 99 (52, [l0, l1, l2, l3, some (.int v)], .int v :: st, k, h) := zz_k_num f99_50 rfl
theorem f99_52 : zz_fetch zz_prog 99 52 = some (.iconst 4, 1, [], []) := zz_fetch_of p99 rfl rfl
theorem s99_52 : zz_Run zz_prog d 99 (52, [l0, l1, l2, l3, l4], st, k, h) = zz_Run zz_prog d 99 (53, [l0, l1, l2, l3, l4], .int 4 :: st, k, h) := zz_k_num f99_52 rfl
theorem f99_53 : zz_fetch zz_prog 99 53 = some (.if_icmp .le 7, 3, [60], []) := zz_fetch_of p99 rfl rfl
theorem s99_53 : zz_Run zz_prog d 99 (53, [l0, l1, l2, l3, l4], .int w :: .int v :: st, k, h) = if v ≤ w then zz_Run zz_prog d 99 (60, [l0, l1, l2, l3, l4], st, k, h) else zz_Run zz_prog d 99 (56, [l0, l1, l2, l3, l4], st, k, h) := zz_k_br (v ≤ w) rfl (zz_k_num f99_53 rfl)
theorem f99_56 : zz_fetch zz_prog 99 56 = some (.iconst 4, 1, [], []) := zz_fetch_of p99 rfl rfl
theorem s99_56 : zz_Run zz_prog d 99 (56, [l0, l1, l2, l3, l4], st, k, h) = zz_Run zz_prog d 99 (57, [l0, l1, l2, l3, l4], .int 4 :: st, k, h) := zz_k_num f99_56 rfl
theorem f99_57 : zz_fetch zz_prog 99 57 = some (.goto 5, 3, [62], []) := zz_fetch_of p99 rfl rfl
theorem s99_57 : zz_Run zz_prog d 99 (57, [l0, l1, l2, l3, l4], st, k, h) = zz_Run zz_prog d 99 (62, [l0, l1, l2, l3, l4], st, k, h) := zz_k_num f99_57 rfl
theorem f99_60 : zz_fetch zz_prog 99 60 = some (.iload 4, 2, [], []) := zz_fetch_of p99 rfl rfl
theorem s99_60 : zz_Run zz_prog d 99 (60, [l0, l1, l2, l3, some (.int v)], st, k, h) = zz_Run zz_prog d 99 (62, [l0, l1, l2, l3, some (.int v)], .int v :: st, k, h) := zz_k_num f99_60 rfl
theorem f99_62 : zz_fetch zz_prog 99 62 = some (.iastore, 1, [], []) := zz_fetch_of p99 rfl rfl
theorem s99_62 (ha : zz_isar a = true) : zz_Run zz_prog d 99 (62, [l0, l1, l2, l3, l4], .int w :: .int v :: .ref a :: st, k, (zz_hp n I J ex)) = zz_ck (zz_in v (zz_ary n a)) (zz_Run zz_prog d 99 (63, [l0, l1, l2, l3, l4], st, false, (zz_hp n (zz_up I a v.toNatClampNeg w) J ex))) := zz_k_iast f99_62 ha
theorem f99_63 : zz_fetch zz_prog 99 63 = some (.iinc 3 1, 3, [], []) := zz_fetch_of p99 rfl rfl
theorem s99_63 : zz_Run zz_prog d 99 (63, [l0, l1, l2, some (.int v), l4], st, k, h) = zz_sl l2 (zz_Run zz_prog d 99 (66, [l0, l1, l2, some (.int (v + 1)), l4], st, k, h)) := zz_k_st (j := 3) (u := .int (v + 1)) f99_63 rfl (fun q hq => by cases hq) rfl (show 3 < 5 by decide) (by cases l2 <;> rfl) rfl
theorem f99_66 : zz_fetch zz_prog 99 66 = some (.goto (-39), 3, [27], []) := zz_fetch_of p99 rfl rfl
theorem s99_66 : zz_Run zz_prog d 99 (66, [l0, l1, l2, l3, l4], st, k, h) = zz_Run zz_prog d 99 (27, [l0, l1, l2, l3, l4], st, k, h) := zz_k_num f99_66 rfl
theorem f99_69 : zz_fetch zz_prog 99 69 = some (.return_, 1, [], []) := zz_fetch_of p99 rfl rfl
theorem s99_69 : zz_Run zz_prog d 99 (69, [l0, l1, l2, l3, l4], [], k, h) = some (.inl none, k, h) := zz_k_stop f99_69 rfl rfl rfl
end S99
